theorem dX5_council_0 : decode cX5_council 0 = .ok (.iload_n 1, 1) := by decide +kernel
theorem dX5_council_1 : decode cX5_council 1 = .ok (.iconst 0, 1) := by decide +kernel
theorem dX5_council_2 : decode cX5_council 2 = .ok (.bipush 24, 2) := by decide +kernel
theorem dX5_council_4 : decode cX5_council 4 = .ok (.invokestatic 81, 3) := by decide +kernel
theorem dX5_council_7 : decode cX5_council 7 = .ok (.ifCond .eq 23, 3) := by decide +kernel
theorem dX5_council_10 : decode cX5_council 10 = .ok (.iload_n 2, 1) := by decide +kernel
theorem dX5_council_11 : decode cX5_council 11 = .ok (.iconst 0, 1) := by decide +kernel
theorem dX5_council_12 : decode cX5_council 12 = .ok (.sipush 999, 3) := by decide +kernel
theorem dX5_council_15 : decode cX5_council 15 = .ok (.invokestatic 81, 3) := by decide +kernel
theorem dX5_council_18 : decode cX5_council 18 = .ok (.ifCond .eq 12, 3) := by decide +kernel
theorem dX5_council_21 : decode cX5_council 21 = .ok (.iload_n 3, 1) := by decide +kernel
theorem dX5_council_22 : decode cX5_council 22 = .ok (.iconst 0, 1) := by decide +kernel
theorem dX5_council_23 : decode cX5_council 23 = .ok (.iconst 1, 1) := by decide +kernel
theorem dX5_council_24 : decode cX5_council 24 = .ok (.invokestatic 81, 3) := by decide +kernel
theorem dX5_council_27 : decode cX5_council 27 = .ok (.ifCond .ne 6, 3) := by decide +kernel
theorem dX5_council_30 : decode cX5_council 30 = .ok (.bipush (-2), 2) := by decide +kernel
theorem dX5_council_32 : decode cX5_council 32 = .ok (.ireturn, 1) := by decide +kernel
theorem dX5_council_33 : decode cX5_council 33 = .ok (.iconst (-1), 1) := by decide +kernel
theorem dX5_council_34 : decode cX5_council 34 = .ok (.istore 4, 2) := by decide +kernel
theorem dX5_council_36 : decode cX5_council 36 = .ok (.bipush 7, 2) := by decide +kernel
theorem dX5_council_38 : decode cX5_council 38 = .ok (.istore 5, 2) := by decide +kernel
theorem dX5_council_40 : decode cX5_council 40 = .ok (.iconst 0, 1) := by decide +kernel
theorem dX5_council_41 : decode cX5_council 41 = .ok (.istore 6, 2) := by decide +kernel
theorem dX5_council_43 : decode cX5_council 43 = .ok (.iload 6, 2) := by decide +kernel
theorem dX5_council_45 : decode cX5_council 45 = .ok (.iconst 1, 1) := by decide +kernel
theorem dX5_council_46 : decode cX5_council 46 = .ok (.aload_n 0, 1) := by decide +kernel
theorem dX5_council_47 : decode cX5_council 47 = .ok (.getfield 53, 3) := by decide +kernel
theorem dX5_council_50 : decode cX5_council 50 = .ok (.getfield 63, 3) := by decide +kernel
theorem dX5_council_53 : decode cX5_council 53 = .ok (.ishl, 1) := by decide +kernel
theorem dX5_council_54 : decode cX5_council 54 = .ok (.if_icmp .ge 86, 3) := by decide +kernel
theorem dX5_council_57 : decode cX5_council 57 = .ok (.iload 6, 2) := by decide +kernel
theorem dX5_council_59 : decode cX5_council 59 = .ok (.invokestatic 186, 3) := by decide +kernel
theorem dX5_council_62 : decode cX5_council 62 = .ok (.istore 7, 2) := by decide +kernel
theorem dX5_council_64 : decode cX5_council 64 = .ok (.iload 6, 2) := by decide +kernel
theorem dX5_council_66 : decode cX5_council 66 = .ok (.aload_n 0, 1) := by decide +kernel
theorem dX5_council_67 : decode cX5_council 67 = .ok (.getfield 53, 3) := by decide +kernel
theorem dX5_council_70 : decode cX5_council 70 = .ok (.getfield 151, 3) := by decide +kernel
theorem dX5_council_73 : decode cX5_council 73 = .ok (.iand, 1) := by decide +kernel
theorem dX5_council_74 : decode cX5_council 74 = .ok (.ifCond .ne 60, 3) := by decide +kernel
theorem dX5_council_77 : decode cX5_council 77 = .ok (.iload 7, 2) := by decide +kernel
theorem dX5_council_79 : decode cX5_council 79 = .ok (.iload 5, 2) := by decide +kernel
theorem dX5_council_81 : decode cX5_council 81 = .ok (.if_icmp .lt 6, 3) := by decide +kernel
theorem dX5_council_84 : decode cX5_council 84 = .ok (.goto 50, 3) := by decide +kernel
theorem dX5_council_87 : decode cX5_council 87 = .ok (.aload_n 0, 1) := by decide +kernel
theorem dX5_council_88 : decode cX5_council 88 = .ok (.invokevirtual 157, 3) := by decide +kernel
theorem dX5_council_91 : decode cX5_council 91 = .ok (.astore 8, 2) := by decide +kernel
theorem dX5_council_93 : decode cX5_council 93 = .ok (.aload 8, 2) := by decide +kernel
theorem dX5_council_95 : decode cX5_council 95 = .ok (.dup, 1) := by decide +kernel
theorem dX5_council_96 : decode cX5_council 96 = .ok (.getfield 151, 3) := by decide +kernel
theorem dX5_council_99 : decode cX5_council 99 = .ok (.iload 6, 2) := by decide +kernel
theorem dX5_council_101 : decode cX5_council 101 = .ok (.ior, 1) := by decide +kernel
theorem dX5_council_102 : decode cX5_council 102 = .ok (.putfield 151, 3) := by decide +kernel
theorem dX5_council_105 : decode cX5_council 105 = .ok (.aload 8, 2) := by decide +kernel
theorem dX5_council_107 : decode cX5_council 107 = .ok (.iload_n 1, 1) := by decide +kernel
theorem dX5_council_108 : decode cX5_council 108 = .ok (.invokevirtual 161, 3) := by decide +kernel
theorem dX5_council_111 : decode cX5_council 111 = .ok (.pop, 1) := by decide +kernel
theorem dX5_council_112 : decode cX5_council 112 = .ok (.aload 8, 2) := by decide +kernel
theorem dX5_council_114 : decode cX5_council 114 = .ok (.aload 8, 2) := by decide +kernel
theorem dX5_council_116 : decode cX5_council 116 = .ok (.invokevirtual 144, 3) := by decide +kernel
theorem dX5_council_119 : decode cX5_council 119 = .ok (.invokevirtual 148, 3) := by decide +kernel
theorem dX5_council_122 : decode cX5_council 122 = .ok (.iload_n 2, 1) := by decide +kernel
theorem dX5_council_123 : decode cX5_council 123 = .ok (.if_icmp .ne 11, 3) := by decide +kernel
theorem dX5_council_126 : decode cX5_council 126 = .ok (.iload 6, 2) := by decide +kernel
theorem dX5_council_128 : decode cX5_council 128 = .ok (.istore 4, 2) := by decide +kernel
theorem dX5_council_130 : decode cX5_council 130 = .ok (.iload 7, 2) := by decide +kernel
theorem dX5_council_132 : decode cX5_council 132 = .ok (.istore 5, 2) := by decide +kernel
theorem dX5_council_134 : decode cX5_council 134 = .ok (.iinc 6 1, 3) := by decide +kernel
theorem dX5_council_137 : decode cX5_council 137 = .ok (.goto (-94), 3) := by decide +kernel
theorem dX5_council_140 : decode cX5_council 140 = .ok (.iload 4, 2) := by decide +kernel
theorem dX5_council_142 : decode cX5_council 142 = .ok (.iconst (-1), 1) := by decide +kernel
theorem dX5_council_143 : decode cX5_council 143 = .ok (.if_icmp .ne 5, 3) := by decide +kernel
theorem dX5_council_146 : decode cX5_council 146 = .ok (.iconst (-1), 1) := by decide +kernel
theorem dX5_council_147 : decode cX5_council 147 = .ok (.ireturn, 1) := by decide +kernel
theorem dX5_council_148 : decode cX5_council 148 = .ok (.iload_n 3, 1) := by decide +kernel
theorem dX5_council_149 : decode cX5_council 149 = .ok (.ifCond .ne 8, 3) := by decide +kernel
theorem dX5_council_152 : decode cX5_council 152 = .ok (.iload 4, 2) := by decide +kernel
theorem dX5_council_154 : decode cX5_council 154 = .ok (.goto 5, 3) := by decide +kernel
theorem dX5_council_157 : decode cX5_council 157 = .ok (.iload 5, 2) := by decide +kernel
theorem dX5_council_159 : decode cX5_council 159 = .ok (.ireturn, 1) := by decide +kernel
set_option maxRecDepth 20000 in
theorem ggX5_lesson_X4_has : GoodIn wsX5_lesson wsX4_has := goodIn_r _ [6, 7, 116, 117, 118, 119, 120, 121, 122, 123, 124, 125, 126, 127] (by decide +kernel) (by decide +kernel)
set_option maxRecDepth 20000 in
theorem gX5_lesson_X4_has : GoodIn wsX5_lesson (wsV RX5 101 RX4 yX4_has wsX4_has) := goodIn_app (goodIn_of _ (by decide +kernel)) ggX5_lesson_X4_has
set_option maxRecDepth 20000 in
theorem ggX5_lesson_X5_isWithin : GoodIn wsX5_lesson wsX5_isWithin := goodIn_r _ [11] (by decide +kernel) (by decide +kernel)
set_option maxRecDepth 20000 in
theorem gX5_lesson_X5_isWithin : GoodIn wsX5_lesson (va_wsS RX5 81 yX5_isWithin wsX5_isWithin) := goodIn_app (goodIn_of _ (by decide +kernel)) ggX5_lesson_X5_isWithin
set_option maxRecDepth 20000 in
theorem ggX5_lesson_X5_startThought : GoodIn wsX5_lesson wsX5_startThought := goodIn_r _ [15, 16, 1, 17, 18, 19, 5, 20, 21, 22, 23, 24, 25, 26, 7, 27, 28, 29, 30, 31, 32, 33, 34, 35, 107, 108, 109, 110, 111, 112, 113, 114, 115, 116, 117, 118, 119, 120, 121, 122, 123, 124, 125, 126, 127] (by decide +kernel) (by decide +kernel)
set_option maxRecDepth 20000 in
theorem gX5_lesson_X5_startThought : GoodIn wsX5_lesson (wsV RX5 157 RX5 yX5_startThought wsX5_startThought) := goodIn_app (goodIn_of _ (by decide +kernel)) ggX5_lesson_X5_startThought
set_option maxRecDepth 20000 in
theorem ggX5_lesson_X4_turnHour : GoodIn wsX5_lesson wsX4_turnHour := goodIn_r _ [39, 25, 40, 3, 4, 5, 6, 7, 116, 117, 118, 119, 120, 121, 122, 123, 124, 125, 126, 127] (by decide +kernel) (by decide +kernel)
set_option maxRecDepth 20000 in
theorem gX5_lesson_X4_turnHour : GoodIn wsX5_lesson (wsV RX5 191 RX4 yX4_turnHour wsX4_turnHour) := goodIn_app (goodIn_of _ (by decide +kernel)) ggX5_lesson_X4_turnHour
set_option maxRecDepth 20000 in
theorem ggX5_lesson_X4_passHours : GoodIn wsX5_lesson wsX4_passHours := goodIn_r _ [44, 45, 46, 47, 5, 48, 7, 49, 50, 51, 52, 21, 30, 29, 22, 40, 3, 4, 6, 53, 54, 55, 56, 26, 57, 58, 59, 60, 27, 61, 62, 63, 64, 25, 65, 66, 67, 68, 69, 70, 71, 72, 73, 74, 75, 76, 77, 78, 79, 80, 81, 82, 83, 84, 23, 24, 85, 86, 87, 88, 89, 90, 91, 92, 93, 94, 28, 95, 96, 97, 98, 99, 100, 101, 102, 103, 104, 105, 106, 116, 117, 118, 119, 120, 121, 122, 123, 124, 125, 126, 127, 128, 129, 130, 131] (by decide +kernel) (by decide +kernel)
set_option maxRecDepth 20000 in
theorem gX5_lesson_X4_passHours : GoodIn wsX5_lesson (wsV RX5 161 RX4 yX4_passHours wsX4_passHours) := goodIn_app (goodIn_of _ (by decide +kernel)) ggX5_lesson_X4_passHours
theorem dX5_lesson_0 : decode cX5_lesson 0 = .ok (.aload_n 0, 1) := by decide +kernel
theorem dX5_lesson_1 : decode cX5_lesson 1 = .ok (.getfield 53, 3) := by decide +kernel
theorem dX5_lesson_4 : decode cX5_lesson 4 = .ok (.iload_n 1, 1) := by decide +kernel
theorem dX5_lesson_5 : decode cX5_lesson 5 = .ok (.invokevirtual 101, 3) := by decide +kernel
theorem dX5_lesson_8 : decode cX5_lesson 8 = .ok (.ifCond .ne 6, 3) := by decide +kernel
theorem dX5_lesson_11 : decode cX5_lesson 11 = .ok (.bipush (-5), 2) := by decide +kernel
theorem dX5_lesson_13 : decode cX5_lesson 13 = .ok (.ireturn, 1) := by decide +kernel
theorem dX5_lesson_14 : decode cX5_lesson 14 = .ok (.iload_n 2, 1) := by decide +kernel
theorem dX5_lesson_15 : decode cX5_lesson 15 = .ok (.iconst 0, 1) := by decide +kernel
theorem dX5_lesson_16 : decode cX5_lesson 16 = .ok (.iconst 1, 1) := by decide +kernel
theorem dX5_lesson_17 : decode cX5_lesson 17 = .ok (.invokestatic 81, 3) := by decide +kernel
theorem dX5_lesson_20 : decode cX5_lesson 20 = .ok (.ifCond .ne 6, 3) := by decide +kernel
theorem dX5_lesson_23 : decode cX5_lesson 23 = .ok (.bipush (-7), 2) := by decide +kernel
theorem dX5_lesson_25 : decode cX5_lesson 25 = .ok (.ireturn, 1) := by decide +kernel
theorem dX5_lesson_26 : decode cX5_lesson 26 = .ok (.iconst 0, 1) := by decide +kernel
theorem dX5_lesson_27 : decode cX5_lesson 27 = .ok (.istore_n 3, 1) := by decide +kernel
theorem dX5_lesson_28 : decode cX5_lesson 28 = .ok (.iconst (-1), 1) := by decide +kernel
theorem dX5_lesson_29 : decode cX5_lesson 29 = .ok (.istore 4, 2) := by decide +kernel
theorem dX5_lesson_31 : decode cX5_lesson 31 = .ok (.iconst 0, 1) := by decide +kernel
theorem dX5_lesson_32 : decode cX5_lesson 32 = .ok (.istore 5, 2) := by decide +kernel
theorem dX5_lesson_34 : decode cX5_lesson 34 = .ok (.iload 5, 2) := by decide +kernel
theorem dX5_lesson_36 : decode cX5_lesson 36 = .ok (.bipush 24, 2) := by decide +kernel
theorem dX5_lesson_38 : decode cX5_lesson 38 = .ok (.if_icmp .ge 46, 3) := by decide +kernel
theorem dX5_lesson_41 : decode cX5_lesson 41 = .ok (.aload_n 0, 1) := by decide +kernel
theorem dX5_lesson_42 : decode cX5_lesson 42 = .ok (.invokevirtual 157, 3) := by decide +kernel
theorem dX5_lesson_45 : decode cX5_lesson 45 = .ok (.astore 6, 2) := by decide +kernel
theorem dX5_lesson_47 : decode cX5_lesson 47 = .ok (.aload 6, 2) := by decide +kernel
theorem dX5_lesson_49 : decode cX5_lesson 49 = .ok (.iload_n 1, 1) := by decide +kernel
theorem dX5_lesson_50 : decode cX5_lesson 50 = .ok (.iload 5, 2) := by decide +kernel
theorem dX5_lesson_52 : decode cX5_lesson 52 = .ok (.invokevirtual 191, 3) := by decide +kernel
theorem dX5_lesson_55 : decode cX5_lesson 55 = .ok (.aload 6, 2) := by decide +kernel
theorem dX5_lesson_57 : decode cX5_lesson 57 = .ok (.bipush 24, 2) := by decide +kernel
theorem dX5_lesson_59 : decode cX5_lesson 59 = .ok (.invokevirtual 161, 3) := by decide +kernel
theorem dX5_lesson_62 : decode cX5_lesson 62 = .ok (.istore 7, 2) := by decide +kernel
theorem dX5_lesson_64 : decode cX5_lesson 64 = .ok (.iload 7, 2) := by decide +kernel
theorem dX5_lesson_66 : decode cX5_lesson 66 = .ok (.iload 4, 2) := by decide +kernel
theorem dX5_lesson_68 : decode cX5_lesson 68 = .ok (.if_icmp .le 10, 3) := by decide +kernel
theorem dX5_lesson_71 : decode cX5_lesson 71 = .ok (.iload 7, 2) := by decide +kernel
theorem dX5_lesson_73 : decode cX5_lesson 73 = .ok (.istore 4, 2) := by decide +kernel
theorem dX5_lesson_75 : decode cX5_lesson 75 = .ok (.iload 5, 2) := by decide +kernel
theorem dX5_lesson_77 : decode cX5_lesson 77 = .ok (.istore_n 3, 1) := by decide +kernel
theorem dX5_lesson_78 : decode cX5_lesson 78 = .ok (.iinc 5 1, 3) := by decide +kernel
theorem dX5_lesson_81 : decode cX5_lesson 81 = .ok (.goto (-47), 3) := by decide +kernel
theorem dX5_lesson_84 : decode cX5_lesson 84 = .ok (.iload_n 2, 1) := by decide +kernel
theorem dX5_lesson_85 : decode cX5_lesson 85 = .ok (.ifCond .ne 7, 3) := by decide +kernel
theorem dX5_lesson_88 : decode cX5_lesson 88 = .ok (.iload_n 3, 1) := by decide +kernel
theorem dX5_lesson_89 : decode cX5_lesson 89 = .ok (.goto 5, 3) := by decide +kernel
theorem dX5_lesson_92 : decode cX5_lesson 92 = .ok (.iload 4, 2) := by decide +kernel
theorem dX5_lesson_94 : decode cX5_lesson 94 = .ok (.ireturn, 1) := by decide +kernel
set_option maxRecDepth 20000 in
theorem ggX5_pair_X5_isWithin : GoodIn wsX5_pair wsX5_isWithin := goodIn_r _ [7] (by decide +kernel) (by decide +kernel)
set_option maxRecDepth 20000 in
theorem gX5_pair_X5_isWithin : GoodIn wsX5_pair (va_wsS RX5 81 yX5_isWithin wsX5_isWithin) := goodIn_app (goodIn_of _ (by decide +kernel)) ggX5_pair_X5_isWithin
set_option maxRecDepth 20000 in
theorem ggX5_pair_X5_startThought : GoodIn wsX5_pair wsX5_startThought := goodIn_r _ [11, 12, 2, 13, 14, 15, 16, 17, 18, 19, 20, 21, 22, 23, 24, 25, 26, 27, 28, 29, 30, 31, 32, 33, 111, 112, 113, 114, 115, 116, 117, 118, 119, 120, 121, 122, 123, 124, 125, 126, 127, 128, 129, 130, 131] (by decide +kernel) (by decide +kernel)
set_option maxRecDepth 20000 in
theorem gX5_pair_X5_startThought : GoodIn wsX5_pair (wsV RX5 157 RX5 yX5_startThought wsX5_startThought) := goodIn_app (goodIn_of _ (by decide +kernel)) ggX5_pair_X5_startThought
set_option maxRecDepth 20000 in
theorem ggX5_pair_X0_live : GoodIn wsX5_pair wsX0_live := goodIn_r _ [38, 39, 40, 41, 42, 43, 16, 44, 24, 45, 46, 47, 48, 18, 28, 27, 19, 49, 50, 51, 52, 53, 54, 55, 56, 23, 57, 58, 59, 60, 25, 61, 62, 63, 64, 22, 65, 66, 67, 68, 69, 70, 71, 72, 73, 74, 75, 76, 77, 78, 79, 80, 81, 82, 83, 84, 20, 21, 85, 86, 87, 88, 89, 90, 91, 92, 93, 94, 26, 95, 96, 97, 98, 99, 100, 101, 102, 103, 104, 105, 106, 132, 133, 120, 121, 122, 123, 124, 125, 126, 127, 128, 129, 130, 131, 134, 135, 136, 137] (by decide +kernel) (by decide +kernel)
set_option maxRecDepth 20000 in
theorem gX5_pair_X0_live : GoodIn wsX5_pair (wsV RX5 164 RX0 yX0_live wsX0_live) := goodIn_app (goodIn_of _ (by decide +kernel)) ggX5_pair_X0_live
set_option maxRecDepth 20000 in
theorem ggX5_pair_X0_hoursOfBoth : GoodIn wsX5_pair wsX0_hoursOfBoth := goodIn_r _ [110, 39, 132, 133] (by decide +kernel) (by decide +kernel)
set_option maxRecDepth 20000 in
theorem gX5_pair_X0_hoursOfBoth : GoodIn wsX5_pair (wsV RX5 195 RX0 yX0_hoursOfBoth wsX0_hoursOfBoth) := goodIn_app (goodIn_of _ (by decide +kernel)) ggX5_pair_X0_hoursOfBoth
theorem dX5_pair_0 : decode cX5_pair 0 = .ok (.iload_n 1, 1) := by decide +kernel
theorem dX5_pair_1 : decode cX5_pair 1 = .ok (.iconst 0, 1) := by decide +kernel
theorem dX5_pair_2 : decode cX5_pair 2 = .ok (.iconst 1, 1) := by decide +kernel
theorem dX5_pair_3 : decode cX5_pair 3 = .ok (.invokestatic 81, 3) := by decide +kernel
theorem dX5_pair_6 : decode cX5_pair 6 = .ok (.ifCond .ne 6, 3) := by decide +kernel
theorem dX5_pair_9 : decode cX5_pair 9 = .ok (.bipush (-2), 2) := by decide +kernel
theorem dX5_pair_11 : decode cX5_pair 11 = .ok (.ireturn, 1) := by decide +kernel
theorem dX5_pair_12 : decode cX5_pair 12 = .ok (.aload_n 0, 1) := by decide +kernel
theorem dX5_pair_13 : decode cX5_pair 13 = .ok (.getfield 31, 3) := by decide +kernel
theorem dX5_pair_16 : decode cX5_pair 16 = .ok (.aload_n 0, 1) := by decide +kernel
theorem dX5_pair_17 : decode cX5_pair 17 = .ok (.invokevirtual 157, 3) := by decide +kernel
theorem dX5_pair_20 : decode cX5_pair 20 = .ok (.invokevirtual 164, 3) := by decide +kernel
theorem dX5_pair_23 : decode cX5_pair 23 = .ok (.iconst (-1), 1) := by decide +kernel
theorem dX5_pair_24 : decode cX5_pair 24 = .ok (.istore_n 2, 1) := by decide +kernel
theorem dX5_pair_25 : decode cX5_pair 25 = .ok (.iconst (-1), 1) := by decide +kernel
theorem dX5_pair_26 : decode cX5_pair 26 = .ok (.istore_n 3, 1) := by decide +kernel
theorem dX5_pair_27 : decode cX5_pair 27 = .ok (.iconst 0, 1) := by decide +kernel
theorem dX5_pair_28 : decode cX5_pair 28 = .ok (.istore 4, 2) := by decide +kernel
theorem dX5_pair_30 : decode cX5_pair 30 = .ok (.iload 4, 2) := by decide +kernel
theorem dX5_pair_32 : decode cX5_pair 32 = .ok (.aload_n 0, 1) := by decide +kernel
theorem dX5_pair_33 : decode cX5_pair 33 = .ok (.getfield 53, 3) := by decide +kernel
theorem dX5_pair_36 : decode cX5_pair 36 = .ok (.getfield 63, 3) := by decide +kernel
theorem dX5_pair_39 : decode cX5_pair 39 = .ok (.if_icmp .ge 64, 3) := by decide +kernel
theorem dX5_pair_42 : decode cX5_pair 42 = .ok (.iload 4, 2) := by decide +kernel
theorem dX5_pair_44 : decode cX5_pair 44 = .ok (.iconst 1, 1) := by decide +kernel
theorem dX5_pair_45 : decode cX5_pair 45 = .ok (.iadd, 1) := by decide +kernel
theorem dX5_pair_46 : decode cX5_pair 46 = .ok (.istore 5, 2) := by decide +kernel
theorem dX5_pair_48 : decode cX5_pair 48 = .ok (.iload 5, 2) := by decide +kernel
theorem dX5_pair_50 : decode cX5_pair 50 = .ok (.aload_n 0, 1) := by decide +kernel
theorem dX5_pair_51 : decode cX5_pair 51 = .ok (.getfield 53, 3) := by decide +kernel
theorem dX5_pair_54 : decode cX5_pair 54 = .ok (.getfield 63, 3) := by decide +kernel
theorem dX5_pair_57 : decode cX5_pair 57 = .ok (.if_icmp .ge 40, 3) := by decide +kernel
theorem dX5_pair_60 : decode cX5_pair 60 = .ok (.aload_n 0, 1) := by decide +kernel
theorem dX5_pair_61 : decode cX5_pair 61 = .ok (.getfield 31, 3) := by decide +kernel
theorem dX5_pair_64 : decode cX5_pair 64 = .ok (.iload 4, 2) := by decide +kernel
theorem dX5_pair_66 : decode cX5_pair 66 = .ok (.iload 5, 2) := by decide +kernel
theorem dX5_pair_68 : decode cX5_pair 68 = .ok (.invokevirtual 195, 3) := by decide +kernel
theorem dX5_pair_71 : decode cX5_pair 71 = .ok (.istore 6, 2) := by decide +kernel
theorem dX5_pair_73 : decode cX5_pair 73 = .ok (.iload 6, 2) := by decide +kernel
theorem dX5_pair_75 : decode cX5_pair 75 = .ok (.iload_n 3, 1) := by decide +kernel
theorem dX5_pair_76 : decode cX5_pair 76 = .ok (.if_icmp .le 15, 3) := by decide +kernel
theorem dX5_pair_79 : decode cX5_pair 79 = .ok (.iload 6, 2) := by decide +kernel
theorem dX5_pair_81 : decode cX5_pair 81 = .ok (.istore_n 3, 1) := by decide +kernel
theorem dX5_pair_82 : decode cX5_pair 82 = .ok (.bipush 10, 2) := by decide +kernel
theorem dX5_pair_84 : decode cX5_pair 84 = .ok (.iload 4, 2) := by decide +kernel
theorem dX5_pair_86 : decode cX5_pair 86 = .ok (.imul, 1) := by decide +kernel
theorem dX5_pair_87 : decode cX5_pair 87 = .ok (.iload 5, 2) := by decide +kernel
theorem dX5_pair_89 : decode cX5_pair 89 = .ok (.iadd, 1) := by decide +kernel
theorem dX5_pair_90 : decode cX5_pair 90 = .ok (.istore_n 2, 1) := by decide +kernel
theorem dX5_pair_91 : decode cX5_pair 91 = .ok (.iinc 5 1, 3) := by decide +kernel
theorem dX5_pair_94 : decode cX5_pair 94 = .ok (.goto (-46), 3) := by decide +kernel
theorem dX5_pair_97 : decode cX5_pair 97 = .ok (.iinc 4 1, 3) := by decide +kernel
theorem dX5_pair_100 : decode cX5_pair 100 = .ok (.goto (-70), 3) := by decide +kernel
theorem dX5_pair_103 : decode cX5_pair 103 = .ok (.iload_n 1, 1) := by decide +kernel
theorem dX5_pair_104 : decode cX5_pair 104 = .ok (.ifCond .ne 7, 3) := by decide +kernel
theorem dX5_pair_107 : decode cX5_pair 107 = .ok (.iload_n 2, 1) := by decide +kernel
theorem dX5_pair_108 : decode cX5_pair 108 = .ok (.goto 4, 3) := by decide +kernel
theorem dX5_pair_111 : decode cX5_pair 111 = .ok (.iload_n 3, 1) := by decide +kernel
theorem dX5_pair_112 : decode cX5_pair 112 = .ok (.ireturn, 1) := by decide +kernel
set_option maxRecDepth 20000 in
theorem ggX5_mean_X5_isWithin : GoodIn wsX5_mean wsX5_isWithin := goodIn_r _ [5] (by decide +kernel) (by decide +kernel)
set_option maxRecDepth 20000 in
theorem gX5_mean_X5_isWithin : GoodIn wsX5_mean (va_wsS RX5 81 yX5_isWithin wsX5_isWithin) := goodIn_app (goodIn_of _ (by decide +kernel)) ggX5_mean_X5_isWithin
set_option maxRecDepth 20000 in
theorem ggX5_mean_X5_startThought : GoodIn wsX5_mean wsX5_startThought := goodIn_r _ [9, 10, 11, 12, 13, 14, 15, 16, 17, 18, 19, 20, 21, 22, 23, 24, 25, 26, 27, 28, 29, 30, 31, 32, 106, 107, 108, 109, 110, 111, 112, 113, 114, 115, 116, 117, 118, 119, 120, 121, 122, 123, 124, 125, 126] (by decide +kernel) (by decide +kernel)
set_option maxRecDepth 20000 in
theorem gX5_mean_X5_startThought : GoodIn wsX5_mean (wsV RX5 157 RX5 yX5_startThought wsX5_startThought) := goodIn_app (goodIn_of _ (by decide +kernel)) ggX5_mean_X5_startThought
set_option maxRecDepth 20000 in
theorem ggX5_mean_X4_passHours : GoodIn wsX5_mean wsX4_passHours := goodIn_r _ [36, 37, 38, 39, 15, 40, 23, 41, 42, 43, 44, 17, 27, 26, 18, 45, 46, 47, 48, 49, 50, 51, 52, 22, 53, 54, 55, 56, 24, 57, 58, 59, 60, 21, 61, 62, 63, 64, 65, 66, 67, 68, 69, 70, 71, 72, 73, 74, 75, 76, 77, 78, 79, 80, 19, 20, 81, 82, 83, 84, 85, 86, 87, 88, 89, 90, 25, 91, 92, 93, 94, 95, 96, 97, 98, 99, 100, 101, 102, 115, 116, 117, 118, 119, 120, 121, 122, 123, 124, 125, 126, 127, 128, 129, 130] (by decide +kernel) (by decide +kernel)
set_option maxRecDepth 20000 in
theorem gX5_mean_X4_passHours : GoodIn wsX5_mean (wsV RX5 161 RX4 yX4_passHours wsX4_passHours) := goodIn_app (goodIn_of _ (by decide +kernel)) ggX5_mean_X4_passHours
set_option maxRecDepth 20000 in
theorem ggX5_mean_X5_lowestTerms : GoodIn wsX5_mean wsX5_lowestTerms := goodIn_r _ [105, 1] (by decide +kernel) (by decide +kernel)
set_option maxRecDepth 20000 in
theorem gX5_mean_X5_lowestTerms : GoodIn wsX5_mean (va_wsS RX5 200 yX5_lowestTerms wsX5_lowestTerms) := goodIn_app (goodIn_of _ (by decide +kernel)) ggX5_mean_X5_lowestTerms
theorem dX5_mean_0 : decode cX5_mean 0 = .ok (.iload_n 1, 1) := by decide +kernel
theorem dX5_mean_1 : decode cX5_mean 1 = .ok (.iconst 1, 1) := by decide +kernel
theorem dX5_mean_2 : decode cX5_mean 2 = .ok (.bipush 48, 2) := by decide +kernel
theorem dX5_mean_4 : decode cX5_mean 4 = .ok (.invokestatic 81, 3) := by decide +kernel
theorem dX5_mean_7 : decode cX5_mean 7 = .ok (.ifCond .eq 12, 3) := by decide +kernel
theorem dX5_mean_10 : decode cX5_mean 10 = .ok (.iload_n 2, 1) := by decide +kernel
theorem dX5_mean_11 : decode cX5_mean 11 = .ok (.iconst 0, 1) := by decide +kernel
theorem dX5_mean_12 : decode cX5_mean 12 = .ok (.iconst 1, 1) := by decide +kernel
theorem dX5_mean_13 : decode cX5_mean 13 = .ok (.invokestatic 81, 3) := by decide +kernel
theorem dX5_mean_16 : decode cX5_mean 16 = .ok (.ifCond .ne 7, 3) := by decide +kernel
theorem dX5_mean_19 : decode cX5_mean 19 = .ok (.ldc2_w 198, 3) := by decide +kernel
theorem dX5_mean_22 : decode cX5_mean 22 = .ok (.lreturn, 1) := by decide +kernel
theorem dX5_mean_23 : decode cX5_mean 23 = .ok (.aload_n 0, 1) := by decide +kernel
theorem dX5_mean_24 : decode cX5_mean 24 = .ok (.invokevirtual 157, 3) := by decide +kernel
theorem dX5_mean_27 : decode cX5_mean 27 = .ok (.iload_n 1, 1) := by decide +kernel
theorem dX5_mean_28 : decode cX5_mean 28 = .ok (.invokevirtual 161, 3) := by decide +kernel
theorem dX5_mean_31 : decode cX5_mean 31 = .ok (.i2l, 1) := by decide +kernel
theorem dX5_mean_32 : decode cX5_mean 32 = .ok (.iload_n 1, 1) := by decide +kernel
theorem dX5_mean_33 : decode cX5_mean 33 = .ok (.i2l, 1) := by decide +kernel
theorem dX5_mean_34 : decode cX5_mean 34 = .ok (.iload_n 2, 1) := by decide +kernel
theorem dX5_mean_35 : decode cX5_mean 35 = .ok (.invokestatic 200, 3) := by decide +kernel
theorem dX5_mean_38 : decode cX5_mean 38 = .ok (.lreturn, 1) := by decide +kernel
set_option maxRecDepth 20000 in
theorem ggX5_share_X4_has : GoodIn wsX5_share wsX4_has := goodIn_r _ [8, 9, 39, 40, 41, 42, 43, 44, 45, 46, 47, 48, 49, 50] (by decide +kernel) (by decide +kernel)
set_option maxRecDepth 20000 in
theorem gX5_share_X4_has : GoodIn wsX5_share (wsV RX5 101 RX4 yX4_has wsX4_has) := goodIn_app (goodIn_of _ (by decide +kernel)) ggX5_share_X4_has
set_option maxRecDepth 20000 in
theorem ggX5_share_X5_isWithin : GoodIn wsX5_share wsX5_isWithin := goodIn_r _ [13] (by decide +kernel) (by decide +kernel)
set_option maxRecDepth 20000 in
theorem gX5_share_X5_isWithin : GoodIn wsX5_share (va_wsS RX5 81 yX5_isWithin wsX5_isWithin) := goodIn_app (goodIn_of _ (by decide +kernel)) ggX5_share_X5_isWithin
set_option maxRecDepth 20000 in
theorem ggX5_share_X4_known : GoodIn wsX5_share wsX4_known := goodIn_r _ [17, 18, 19, 20, 21, 5, 6, 7, 8, 9, 22, 23, 24, 25, 26, 39, 40, 41, 42, 43, 44, 45, 46, 47, 48, 49, 50] (by decide +kernel) (by decide +kernel)
set_option maxRecDepth 20000 in
theorem gX5_share_X4_known : GoodIn wsX5_share (wsV RX5 120 RX4 yX4_known wsX4_known) := goodIn_app (goodIn_of _ (by decide +kernel)) ggX5_share_X4_known
set_option maxRecDepth 20000 in
theorem ggX5_share_X5_lowestTerms : GoodIn wsX5_share wsX5_lowestTerms := goodIn_r _ [29, 2] (by decide +kernel) (by decide +kernel)
set_option maxRecDepth 20000 in
theorem gX5_share_X5_lowestTerms : GoodIn wsX5_share (va_wsS RX5 200 yX5_lowestTerms wsX5_lowestTerms) := goodIn_app (goodIn_of _ (by decide +kernel)) ggX5_share_X5_lowestTerms
theorem dX5_share_0 : decode cX5_share 0 = .ok (.aload_n 0, 1) := by decide +kernel
theorem dX5_share_1 : decode cX5_share 1 = .ok (.getfield 53, 3) := by decide +kernel
theorem dX5_share_4 : decode cX5_share 4 = .ok (.iload_n 1, 1) := by decide +kernel
theorem dX5_share_5 : decode cX5_share 5 = .ok (.invokevirtual 101, 3) := by decide +kernel
theorem dX5_share_8 : decode cX5_share 8 = .ok (.ifCond .eq 12, 3) := by decide +kernel
theorem dX5_share_11 : decode cX5_share 11 = .ok (.iload_n 2, 1) := by decide +kernel
theorem dX5_share_12 : decode cX5_share 12 = .ok (.iconst 0, 1) := by decide +kernel
theorem dX5_share_13 : decode cX5_share 13 = .ok (.iconst 1, 1) := by decide +kernel
theorem dX5_share_14 : decode cX5_share 14 = .ok (.invokestatic 81, 3) := by decide +kernel
theorem dX5_share_17 : decode cX5_share 17 = .ok (.ifCond .ne 7, 3) := by decide +kernel
theorem dX5_share_20 : decode cX5_share 20 = .ok (.ldc2_w 198, 3) := by decide +kernel
theorem dX5_share_23 : decode cX5_share 23 = .ok (.lreturn, 1) := by decide +kernel
theorem dX5_share_24 : decode cX5_share 24 = .ok (.iconst 0, 1) := by decide +kernel
theorem dX5_share_25 : decode cX5_share 25 = .ok (.istore_n 3, 1) := by decide +kernel
theorem dX5_share_26 : decode cX5_share 26 = .ok (.iconst 0, 1) := by decide +kernel
theorem dX5_share_27 : decode cX5_share 27 = .ok (.istore 4, 2) := by decide +kernel
theorem dX5_share_29 : decode cX5_share 29 = .ok (.iload 4, 2) := by decide +kernel
theorem dX5_share_31 : decode cX5_share 31 = .ok (.aload_n 0, 1) := by decide +kernel
theorem dX5_share_32 : decode cX5_share 32 = .ok (.getfield 53, 3) := by decide +kernel
theorem dX5_share_35 : decode cX5_share 35 = .ok (.getfield 63, 3) := by decide +kernel
theorem dX5_share_38 : decode cX5_share 38 = .ok (.if_icmp .ge 22, 3) := by decide +kernel
theorem dX5_share_41 : decode cX5_share 41 = .ok (.iload_n 3, 1) := by decide +kernel
theorem dX5_share_42 : decode cX5_share 42 = .ok (.aload_n 0, 1) := by decide +kernel
theorem dX5_share_43 : decode cX5_share 43 = .ok (.getfield 53, 3) := by decide +kernel
theorem dX5_share_46 : decode cX5_share 46 = .ok (.iload 4, 2) := by decide +kernel
theorem dX5_share_48 : decode cX5_share 48 = .ok (.iconst 1, 1) := by decide +kernel
theorem dX5_share_49 : decode cX5_share 49 = .ok (.invokevirtual 120, 3) := by decide +kernel
theorem dX5_share_52 : decode cX5_share 52 = .ok (.iadd, 1) := by decide +kernel
theorem dX5_share_53 : decode cX5_share 53 = .ok (.istore_n 3, 1) := by decide +kernel
theorem dX5_share_54 : decode cX5_share 54 = .ok (.iinc 4 1, 3) := by decide +kernel
theorem dX5_share_57 : decode cX5_share 57 = .ok (.goto (-28), 3) := by decide +kernel
theorem dX5_share_60 : decode cX5_share 60 = .ok (.iload_n 3, 1) := by decide +kernel
theorem dX5_share_61 : decode cX5_share 61 = .ok (.ifCond .ne 9, 3) := by decide +kernel
theorem dX5_share_64 : decode cX5_share 64 = .ok (.ldc2_w 198, 3) := by decide +kernel
theorem dX5_share_67 : decode cX5_share 67 = .ok (.goto 19, 3) := by decide +kernel
theorem dX5_share_70 : decode cX5_share 70 = .ok (.aload_n 0, 1) := by decide +kernel
theorem dX5_share_71 : decode cX5_share 71 = .ok (.getfield 53, 3) := by decide +kernel
theorem dX5_share_74 : decode cX5_share 74 = .ok (.iload_n 1, 1) := by decide +kernel
theorem dX5_share_75 : decode cX5_share 75 = .ok (.iconst 1, 1) := by decide +kernel
theorem dX5_share_76 : decode cX5_share 76 = .ok (.invokevirtual 120, 3) := by decide +kernel
theorem dX5_share_79 : decode cX5_share 79 = .ok (.i2l, 1) := by decide +kernel
theorem dX5_share_80 : decode cX5_share 80 = .ok (.iload_n 3, 1) := by decide +kernel
theorem dX5_share_81 : decode cX5_share 81 = .ok (.i2l, 1) := by decide +kernel
theorem dX5_share_82 : decode cX5_share 82 = .ok (.iload_n 2, 1) := by decide +kernel
theorem dX5_share_83 : decode cX5_share 83 = .ok (.invokestatic 200, 3) := by decide +kernel
theorem dX5_share_86 : decode cX5_share 86 = .ok (.lreturn, 1) := by decide +kernel
set_option maxRecDepth 20000 in
theorem ggX5_judge_X5_refusalOfTold : GoodIn wsX5_judge wsX5_refusalOfTold := goodIn_r _ [5, 6, 7, 8, 9, 4, 10, 11, 12, 13, 14, 15, 16, 17, 18, 19, 118, 119, 120, 121, 122, 123, 124, 125, 126, 127, 128, 129] (by decide +kernel) (by decide +kernel)
set_option maxRecDepth 20000 in
theorem gX5_judge_X5_refusalOfTold : GoodIn wsX5_judge (wsV RX5 204 RX5 yX5_refusalOfTold wsX5_refusalOfTold) := goodIn_app (goodIn_of _ (by decide +kernel)) ggX5_judge_X5_refusalOfTold
set_option maxRecDepth 20000 in
theorem ggX5_judge_X5_startThought : GoodIn wsX5_judge wsX5_startThought := goodIn_r _ [23, 24, 25, 26, 27, 28, 29, 30, 31, 32, 33, 34, 35, 36, 37, 38, 39, 40, 41, 42, 43, 44, 45, 46, 118, 119, 120, 121, 122, 123, 124, 125, 126, 130, 131, 132, 133, 134, 135, 136, 137, 138, 139, 140, 141] (by decide +kernel) (by decide +kernel)
set_option maxRecDepth 20000 in
theorem gX5_judge_X5_startThought : GoodIn wsX5_judge (wsV RX5 157 RX5 yX5_startThought wsX5_startThought) := goodIn_app (goodIn_of _ (by decide +kernel)) ggX5_judge_X5_startThought
set_option maxRecDepth 20000 in
theorem ggX5_judge_X5_firstOtherwise : GoodIn wsX5_judge wsX5_firstOtherwise := goodIn_r _ [50, 6, 7, 51, 52, 53, 54, 29, 55, 37, 56, 57, 58, 59, 31, 41, 40, 32, 60, 61, 62, 63, 64, 65, 66, 67, 36, 68, 69, 70, 71, 38, 72, 73, 74, 75, 35, 76, 77, 78, 79, 80, 81, 82, 83, 84, 85, 86, 87, 88, 89, 90, 91, 92, 93, 94, 95, 33, 34, 96, 97, 98, 99, 100, 101, 102, 103, 104, 105, 39, 106, 107, 108, 109, 110, 111, 112, 113, 114, 115, 116, 117, 118, 119, 120, 121, 122, 123, 124, 125, 126, 127, 128, 129, 130, 131, 132, 133, 134, 135, 136, 137, 138, 139, 140, 141, 142, 143, 144, 145] (by decide +kernel) (by decide +kernel)
set_option maxRecDepth 20000 in
theorem gX5_judge_X5_firstOtherwise : GoodIn wsX5_judge (wsV RX5 207 RX5 yX5_firstOtherwise wsX5_firstOtherwise) := goodIn_app (goodIn_of _ (by decide +kernel)) ggX5_judge_X5_firstOtherwise
theorem dX5_judge_0 : decode cX5_judge 0 = .ok (.aload_n 0, 1) := by decide +kernel
theorem dX5_judge_1 : decode cX5_judge 1 = .ok (.iload_n 1, 1) := by decide +kernel
theorem dX5_judge_2 : decode cX5_judge 2 = .ok (.invokevirtual 204, 3) := by decide +kernel
theorem dX5_judge_5 : decode cX5_judge 5 = .ok (.istore_n 2, 1) := by decide +kernel
theorem dX5_judge_6 : decode cX5_judge 6 = .ok (.iload_n 2, 1) := by decide +kernel
theorem dX5_judge_7 : decode cX5_judge 7 = .ok (.ifCond .eq 5, 3) := by decide +kernel
theorem dX5_judge_10 : decode cX5_judge 10 = .ok (.iload_n 2, 1) := by decide +kernel
theorem dX5_judge_11 : decode cX5_judge 11 = .ok (.ireturn, 1) := by decide +kernel
theorem dX5_judge_12 : decode cX5_judge 12 = .ok (.aload_n 0, 1) := by decide +kernel
theorem dX5_judge_13 : decode cX5_judge 13 = .ok (.iload_n 1, 1) := by decide +kernel
theorem dX5_judge_14 : decode cX5_judge 14 = .ok (.aload_n 0, 1) := by decide +kernel
theorem dX5_judge_15 : decode cX5_judge 15 = .ok (.invokevirtual 157, 3) := by decide +kernel
theorem dX5_judge_18 : decode cX5_judge 18 = .ok (.invokevirtual 207, 3) := by decide +kernel
theorem dX5_judge_21 : decode cX5_judge 21 = .ok (.ireturn, 1) := by decide +kernel
set_option maxRecDepth 20000 in
theorem ggX5_kinds_X5_refusalOfToldAbout : GoodIn wsX5_kinds wsX5_refusalOfToldAbout := goodIn_r _ [7, 8, 9, 10, 11, 6, 12, 13, 14, 15, 16, 17, 18, 19, 20, 21, 22, 23, 24, 25, 26, 27, 28, 29, 30, 31, 32, 137, 138, 139, 140, 141, 142, 143, 144, 145, 146, 147, 148, 125, 126, 127, 128, 129, 130, 131, 132, 133, 134, 135, 136] (by decide +kernel) (by decide +kernel)
set_option maxRecDepth 20000 in
theorem gX5_kinds_X5_refusalOfToldAbout : GoodIn wsX5_kinds (wsV RX5 211 RX5 yX5_refusalOfToldAbout wsX5_refusalOfToldAbout) := goodIn_app (goodIn_of _ (by decide +kernel)) ggX5_kinds_X5_refusalOfToldAbout
set_option maxRecDepth 20000 in
theorem ggX5_kinds_X5_startThought : GoodIn wsX5_kinds wsX5_startThought := goodIn_r _ [36, 37, 8, 38, 39, 40, 30, 41, 42, 43, 44, 45, 46, 47, 32, 48, 49, 50, 51, 52, 53, 54, 55, 56, 137, 138, 139, 140, 141, 142, 143, 144, 145, 125, 126, 127, 128, 129, 130, 131, 132, 133, 134, 135, 136] (by decide +kernel) (by decide +kernel)
set_option maxRecDepth 20000 in
theorem gX5_kinds_X5_startThought : GoodIn wsX5_kinds (wsV RX5 157 RX5 yX5_startThought wsX5_startThought) := goodIn_app (goodIn_of _ (by decide +kernel)) ggX5_kinds_X5_startThought
set_option maxRecDepth 20000 in
theorem ggX5_kinds_X5_firstOtherwise : GoodIn wsX5_kinds wsX5_firstOtherwise := goodIn_r _ [60, 13, 14, 61, 62, 63, 64, 30, 65, 32, 66, 67, 68, 69, 42, 51, 50, 43, 70, 28, 29, 31, 71, 72, 73, 74, 47, 75, 76, 77, 78, 48, 79, 80, 81, 82, 46, 83, 84, 85, 86, 87, 88, 89, 90, 91, 92, 93, 94, 95, 96, 97, 98, 99, 100, 101, 102, 44, 45, 103, 104, 105, 106, 107, 108, 109, 110, 111, 112, 49, 113, 114, 115, 116, 117, 118, 119, 120, 121, 122, 123, 124, 137, 138, 139, 140, 141, 142, 143, 144, 145, 146, 147, 148, 125, 126, 127, 128, 129, 130, 131, 132, 133, 134, 135, 136, 149, 150, 151, 152] (by decide +kernel) (by decide +kernel)
set_option maxRecDepth 20000 in
theorem gX5_kinds_X5_firstOtherwise : GoodIn wsX5_kinds (wsV RX5 207 RX5 yX5_firstOtherwise wsX5_firstOtherwise) := goodIn_app (goodIn_of _ (by decide +kernel)) ggX5_kinds_X5_firstOtherwise
theorem dX5_kinds_0 : decode cX5_kinds 0 = .ok (.aload_n 0, 1) := by decide +kernel
theorem dX5_kinds_1 : decode cX5_kinds 1 = .ok (.iload_n 1, 1) := by decide +kernel
theorem dX5_kinds_2 : decode cX5_kinds 2 = .ok (.iload_n 2, 1) := by decide +kernel
theorem dX5_kinds_3 : decode cX5_kinds 3 = .ok (.iload_n 3, 1) := by decide +kernel
theorem dX5_kinds_4 : decode cX5_kinds 4 = .ok (.invokevirtual 211, 3) := by decide +kernel
theorem dX5_kinds_7 : decode cX5_kinds 7 = .ok (.istore 4, 2) := by decide +kernel
theorem dX5_kinds_9 : decode cX5_kinds 9 = .ok (.iload 4, 2) := by decide +kernel
theorem dX5_kinds_11 : decode cX5_kinds 11 = .ok (.ifCond .eq 6, 3) := by decide +kernel
theorem dX5_kinds_14 : decode cX5_kinds 14 = .ok (.iload 4, 2) := by decide +kernel
theorem dX5_kinds_16 : decode cX5_kinds 16 = .ok (.ireturn, 1) := by decide +kernel
theorem dX5_kinds_17 : decode cX5_kinds 17 = .ok (.iconst 0, 1) := by decide +kernel
theorem dX5_kinds_18 : decode cX5_kinds 18 = .ok (.istore 5, 2) := by decide +kernel
theorem dX5_kinds_20 : decode cX5_kinds 20 = .ok (.iload_n 3, 1) := by decide +kernel
theorem dX5_kinds_21 : decode cX5_kinds 21 = .ok (.ifCond .ne 8, 3) := by decide +kernel
theorem dX5_kinds_24 : decode cX5_kinds 24 = .ok (.bipush 6, 2) := by decide +kernel
theorem dX5_kinds_26 : decode cX5_kinds 26 = .ok (.goto 5, 3) := by decide +kernel
theorem dX5_kinds_29 : decode cX5_kinds 29 = .ok (.bipush 10, 2) := by decide +kernel
theorem dX5_kinds_31 : decode cX5_kinds 31 = .ok (.istore 6, 2) := by decide +kernel
theorem dX5_kinds_33 : decode cX5_kinds 33 = .ok (.iconst 0, 1) := by decide +kernel
theorem dX5_kinds_34 : decode cX5_kinds 34 = .ok (.istore 7, 2) := by decide +kernel
theorem dX5_kinds_36 : decode cX5_kinds 36 = .ok (.iload 7, 2) := by decide +kernel
theorem dX5_kinds_38 : decode cX5_kinds 38 = .ok (.iload 6, 2) := by decide +kernel
theorem dX5_kinds_40 : decode cX5_kinds 40 = .ok (.if_icmp .ge 60, 3) := by decide +kernel
theorem dX5_kinds_43 : decode cX5_kinds 43 = .ok (.aload_n 0, 1) := by decide +kernel
theorem dX5_kinds_44 : decode cX5_kinds 44 = .ok (.invokevirtual 157, 3) := by decide +kernel
theorem dX5_kinds_47 : decode cX5_kinds 47 = .ok (.astore 8, 2) := by decide +kernel
theorem dX5_kinds_49 : decode cX5_kinds 49 = .ok (.iload_n 3, 1) := by decide +kernel
theorem dX5_kinds_50 : decode cX5_kinds 50 = .ok (.ifCond .ne 15, 3) := by decide +kernel
theorem dX5_kinds_53 : decode cX5_kinds 53 = .ok (.aload 8, 2) := by decide +kernel
theorem dX5_kinds_55 : decode cX5_kinds 55 = .ok (.getfield 128, 3) := by decide +kernel
theorem dX5_kinds_58 : decode cX5_kinds 58 = .ok (.iload_n 2, 1) := by decide +kernel
theorem dX5_kinds_59 : decode cX5_kinds 59 = .ok (.iload 7, 2) := by decide +kernel
theorem dX5_kinds_61 : decode cX5_kinds 61 = .ok (.iastore, 1) := by decide +kernel
theorem dX5_kinds_62 : decode cX5_kinds 62 = .ok (.goto 12, 3) := by decide +kernel
theorem dX5_kinds_65 : decode cX5_kinds 65 = .ok (.aload 8, 2) := by decide +kernel
theorem dX5_kinds_67 : decode cX5_kinds 67 = .ok (.getfield 132, 3) := by decide +kernel
theorem dX5_kinds_70 : decode cX5_kinds 70 = .ok (.iload_n 2, 1) := by decide +kernel
theorem dX5_kinds_71 : decode cX5_kinds 71 = .ok (.iload 7, 2) := by decide +kernel
theorem dX5_kinds_73 : decode cX5_kinds 73 = .ok (.iastore, 1) := by decide +kernel
theorem dX5_kinds_74 : decode cX5_kinds 74 = .ok (.aload_n 0, 1) := by decide +kernel
theorem dX5_kinds_75 : decode cX5_kinds 75 = .ok (.iload_n 1, 1) := by decide +kernel
theorem dX5_kinds_76 : decode cX5_kinds 76 = .ok (.aload 8, 2) := by decide +kernel
theorem dX5_kinds_78 : decode cX5_kinds 78 = .ok (.invokevirtual 207, 3) := by decide +kernel
theorem dX5_kinds_81 : decode cX5_kinds 81 = .ok (.iconst (-1), 1) := by decide +kernel
theorem dX5_kinds_82 : decode cX5_kinds 82 = .ok (.if_icmp .ne 12, 3) := by decide +kernel
theorem dX5_kinds_85 : decode cX5_kinds 85 = .ok (.iload 5, 2) := by decide +kernel
theorem dX5_kinds_87 : decode cX5_kinds 87 = .ok (.iconst 1, 1) := by decide +kernel
theorem dX5_kinds_88 : decode cX5_kinds 88 = .ok (.iload 7, 2) := by decide +kernel
theorem dX5_kinds_90 : decode cX5_kinds 90 = .ok (.ishl, 1) := by decide +kernel
theorem dX5_kinds_91 : decode cX5_kinds 91 = .ok (.ior, 1) := by decide +kernel
theorem dX5_kinds_92 : decode cX5_kinds 92 = .ok (.istore 5, 2) := by decide +kernel
theorem dX5_kinds_94 : decode cX5_kinds 94 = .ok (.iinc 7 1, 3) := by decide +kernel
theorem dX5_kinds_97 : decode cX5_kinds 97 = .ok (.goto (-61), 3) := by decide +kernel
theorem dX5_kinds_100 : decode cX5_kinds 100 = .ok (.iload 5, 2) := by decide +kernel
theorem dX5_kinds_102 : decode cX5_kinds 102 = .ok (.ireturn, 1) := by decide +kernel
set_option maxRecDepth 20000 in
theorem ggX5_nerves_X5_refusalOfToldAbout : GoodIn wsX5_nerves wsX5_refusalOfToldAbout := goodIn_r _ [6, 7, 8, 9, 10, 5, 11, 12, 13, 14, 15, 16, 17, 18, 19, 20, 21, 22, 23, 24, 25, 26, 27, 28, 29, 30, 31, 136, 137, 138, 139, 140, 141, 142, 143, 144, 145, 146, 147, 124, 125, 126, 127, 128, 129, 130, 131, 132, 133, 134, 135] (by decide +kernel) (by decide +kernel)
set_option maxRecDepth 20000 in
theorem gX5_nerves_X5_refusalOfToldAbout : GoodIn wsX5_nerves (wsV RX5 211 RX5 yX5_refusalOfToldAbout wsX5_refusalOfToldAbout) := goodIn_app (goodIn_of _ (by decide +kernel)) ggX5_nerves_X5_refusalOfToldAbout
set_option maxRecDepth 20000 in
theorem ggX5_nerves_X5_startThought : GoodIn wsX5_nerves wsX5_startThought := goodIn_r _ [35, 36, 7, 37, 38, 39, 29, 40, 41, 42, 43, 44, 45, 46, 31, 47, 48, 49, 50, 51, 52, 53, 54, 55, 136, 137, 138, 139, 140, 141, 142, 143, 144, 124, 125, 126, 127, 128, 129, 130, 131, 132, 133, 134, 135] (by decide +kernel) (by decide +kernel)
set_option maxRecDepth 20000 in
theorem gX5_nerves_X5_startThought : GoodIn wsX5_nerves (wsV RX5 157 RX5 yX5_startThought wsX5_startThought) := goodIn_app (goodIn_of _ (by decide +kernel)) ggX5_nerves_X5_startThought
set_option maxRecDepth 20000 in
theorem ggX5_nerves_X5_firstOtherwise : GoodIn wsX5_nerves wsX5_firstOtherwise := goodIn_r _ [59, 12, 13, 60, 61, 62, 63, 29, 64, 31, 65, 66, 67, 68, 41, 50, 49, 42, 69, 27, 28, 30, 70, 71, 72, 73, 46, 74, 75, 76, 77, 47, 78, 79, 80, 81, 45, 82, 83, 84, 85, 86, 87, 88, 89, 90, 91, 92, 93, 94, 95, 96, 97, 98, 99, 100, 101, 43, 44, 102, 103, 104, 105, 106, 107, 108, 109, 110, 111, 48, 112, 113, 114, 115, 116, 117, 118, 119, 120, 121, 122, 123, 136, 137, 138, 139, 140, 141, 142, 143, 144, 145, 146, 147, 124, 125, 126, 127, 128, 129, 130, 131, 132, 133, 134, 135, 148, 149, 150, 151] (by decide +kernel) (by decide +kernel)
set_option maxRecDepth 20000 in
theorem gX5_nerves_X5_firstOtherwise : GoodIn wsX5_nerves (wsV RX5 207 RX5 yX5_firstOtherwise wsX5_firstOtherwise) := goodIn_app (goodIn_of _ (by decide +kernel)) ggX5_nerves_X5_firstOtherwise
theorem dX5_nerves_0 : decode cX5_nerves 0 = .ok (.aload_n 0, 1) := by decide +kernel
theorem dX5_nerves_1 : decode cX5_nerves 1 = .ok (.iload_n 1, 1) := by decide +kernel
theorem dX5_nerves_2 : decode cX5_nerves 2 = .ok (.iload_n 2, 1) := by decide +kernel
theorem dX5_nerves_3 : decode cX5_nerves 3 = .ok (.iload_n 3, 1) := by decide +kernel
theorem dX5_nerves_4 : decode cX5_nerves 4 = .ok (.invokevirtual 211, 3) := by decide +kernel
theorem dX5_nerves_7 : decode cX5_nerves 7 = .ok (.istore 4, 2) := by decide +kernel
theorem dX5_nerves_9 : decode cX5_nerves 9 = .ok (.iload 4, 2) := by decide +kernel
theorem dX5_nerves_11 : decode cX5_nerves 11 = .ok (.ifCond .eq 6, 3) := by decide +kernel
theorem dX5_nerves_14 : decode cX5_nerves 14 = .ok (.iload 4, 2) := by decide +kernel
theorem dX5_nerves_16 : decode cX5_nerves 16 = .ok (.ireturn, 1) := by decide +kernel
theorem dX5_nerves_17 : decode cX5_nerves 17 = .ok (.iconst 0, 1) := by decide +kernel
theorem dX5_nerves_18 : decode cX5_nerves 18 = .ok (.istore 5, 2) := by decide +kernel
theorem dX5_nerves_20 : decode cX5_nerves 20 = .ok (.iconst (-1), 1) := by decide +kernel
theorem dX5_nerves_21 : decode cX5_nerves 21 = .ok (.istore 6, 2) := by decide +kernel
theorem dX5_nerves_23 : decode cX5_nerves 23 = .ok (.iconst 0, 1) := by decide +kernel
theorem dX5_nerves_24 : decode cX5_nerves 24 = .ok (.istore 7, 2) := by decide +kernel
theorem dX5_nerves_26 : decode cX5_nerves 26 = .ok (.iload 7, 2) := by decide +kernel
theorem dX5_nerves_28 : decode cX5_nerves 28 = .ok (.bipush 99, 2) := by decide +kernel
theorem dX5_nerves_30 : decode cX5_nerves 30 = .ok (.if_icmp .gt 53, 3) := by decide +kernel
theorem dX5_nerves_33 : decode cX5_nerves 33 = .ok (.aload_n 0, 1) := by decide +kernel
theorem dX5_nerves_34 : decode cX5_nerves 34 = .ok (.invokevirtual 157, 3) := by decide +kernel
theorem dX5_nerves_37 : decode cX5_nerves 37 = .ok (.astore 8, 2) := by decide +kernel
theorem dX5_nerves_39 : decode cX5_nerves 39 = .ok (.aload 8, 2) := by decide +kernel
theorem dX5_nerves_41 : decode cX5_nerves 41 = .ok (.getfield 214, 3) := by decide +kernel
theorem dX5_nerves_44 : decode cX5_nerves 44 = .ok (.iload_n 2, 1) := by decide +kernel
theorem dX5_nerves_45 : decode cX5_nerves 45 = .ok (.iload 7, 2) := by decide +kernel
theorem dX5_nerves_47 : decode cX5_nerves 47 = .ok (.iastore, 1) := by decide +kernel
theorem dX5_nerves_48 : decode cX5_nerves 48 = .ok (.aload_n 0, 1) := by decide +kernel
theorem dX5_nerves_49 : decode cX5_nerves 49 = .ok (.iload_n 1, 1) := by decide +kernel
theorem dX5_nerves_50 : decode cX5_nerves 50 = .ok (.aload 8, 2) := by decide +kernel
theorem dX5_nerves_52 : decode cX5_nerves 52 = .ok (.invokevirtual 207, 3) := by decide +kernel
theorem dX5_nerves_55 : decode cX5_nerves 55 = .ok (.iconst (-1), 1) := by decide +kernel
theorem dX5_nerves_56 : decode cX5_nerves 56 = .ok (.if_icmp .ne 21, 3) := by decide +kernel
theorem dX5_nerves_59 : decode cX5_nerves 59 = .ok (.iinc 5 1, 3) := by decide +kernel
theorem dX5_nerves_62 : decode cX5_nerves 62 = .ok (.iload 6, 2) := by decide +kernel
theorem dX5_nerves_64 : decode cX5_nerves 64 = .ok (.iconst (-1), 1) := by decide +kernel
theorem dX5_nerves_65 : decode cX5_nerves 65 = .ok (.if_icmp .ne 8, 3) := by decide +kernel
theorem dX5_nerves_68 : decode cX5_nerves 68 = .ok (.iload 7, 2) := by decide +kernel
theorem dX5_nerves_70 : decode cX5_nerves 70 = .ok (.goto 5, 3) := by decide +kernel
theorem dX5_nerves_73 : decode cX5_nerves 73 = .ok (.iload 6, 2) := by decide +kernel
theorem dX5_nerves_75 : decode cX5_nerves 75 = .ok (.istore 6, 2) := by decide +kernel
theorem dX5_nerves_77 : decode cX5_nerves 77 = .ok (.iinc 7 1, 3) := by decide +kernel
theorem dX5_nerves_80 : decode cX5_nerves 80 = .ok (.goto (-54), 3) := by decide +kernel
theorem dX5_nerves_83 : decode cX5_nerves 83 = .ok (.iload_n 3, 1) := by decide +kernel
theorem dX5_nerves_84 : decode cX5_nerves 84 = .ok (.ifCond .ne 8, 3) := by decide +kernel
theorem dX5_nerves_87 : decode cX5_nerves 87 = .ok (.iload 5, 2) := by decide +kernel
theorem dX5_nerves_89 : decode cX5_nerves 89 = .ok (.goto 5, 3) := by decide +kernel
theorem dX5_nerves_92 : decode cX5_nerves 92 = .ok (.iload 6, 2) := by decide +kernel
theorem dX5_nerves_94 : decode cX5_nerves 94 = .ok (.ireturn, 1) := by decide +kernel
set_option maxRecDepth 20000 in
theorem ggX5_turned_X5_refusalOfTold : GoodIn wsX5_turned wsX5_refusalOfTold := goodIn_r _ [7, 8, 9, 10, 11, 6, 12, 13, 14, 15, 16, 17, 18, 19, 20, 21, 123, 124, 125, 126, 127, 128, 129, 130, 131, 144, 145, 146] (by decide +kernel) (by decide +kernel)
set_option maxRecDepth 20000 in
theorem gX5_turned_X5_refusalOfTold : GoodIn wsX5_turned (wsV RX5 204 RX5 yX5_refusalOfTold wsX5_refusalOfTold) := goodIn_app (goodIn_of _ (by decide +kernel)) ggX5_turned_X5_refusalOfTold
set_option maxRecDepth 20000 in
theorem ggX5_turned_X5_startThought : GoodIn wsX5_turned wsX5_startThought := goodIn_r _ [25, 26, 1, 27, 28, 29, 30, 31, 32, 33, 34, 35, 36, 37, 38, 39, 40, 41, 42, 43, 44, 45, 46, 47, 123, 124, 125, 126, 127, 128, 129, 130, 131, 132, 133, 134, 135, 136, 137, 138, 139, 140, 141, 142, 143] (by decide +kernel) (by decide +kernel)
set_option maxRecDepth 20000 in
theorem gX5_turned_X5_startThought : GoodIn wsX5_turned (wsV RX5 157 RX5 yX5_startThought wsX5_startThought) := goodIn_app (goodIn_of _ (by decide +kernel)) ggX5_turned_X5_startThought
set_option maxRecDepth 20000 in
theorem ggX5_turned_X4_turnVow : GoodIn wsX5_turned wsX4_turnVow := goodIn_r _ [51, 37, 52, 53, 54, 30, 55, 38, 132, 133, 134, 135, 136, 137, 138, 139, 140, 141, 142, 143] (by decide +kernel) (by decide +kernel)
set_option maxRecDepth 20000 in
theorem gX5_turned_X4_turnVow : GoodIn wsX5_turned (wsV RX5 183 RX4 yX4_turnVow wsX4_turnVow) := goodIn_app (goodIn_of _ (by decide +kernel)) ggX5_turned_X4_turnVow
set_option maxRecDepth 20000 in
theorem ggX5_turned_X5_firstOtherwise : GoodIn wsX5_turned wsX5_firstOtherwise := goodIn_r _ [59, 8, 9, 60, 61, 62, 63, 30, 64, 38, 65, 66, 67, 68, 32, 42, 41, 33, 52, 53, 54, 55, 69, 70, 71, 72, 37, 73, 74, 75, 76, 39, 77, 78, 79, 80, 36, 81, 82, 83, 84, 85, 86, 87, 88, 89, 90, 91, 92, 93, 94, 95, 96, 97, 98, 99, 100, 34, 35, 101, 102, 103, 104, 105, 106, 107, 108, 109, 110, 40, 111, 112, 113, 114, 115, 116, 117, 118, 119, 120, 121, 122, 123, 124, 125, 126, 127, 128, 129, 130, 131, 144, 145, 146, 132, 133, 134, 135, 136, 137, 138, 139, 140, 141, 142, 143, 147, 148, 149, 150] (by decide +kernel) (by decide +kernel)
set_option maxRecDepth 20000 in
theorem gX5_turned_X5_firstOtherwise : GoodIn wsX5_turned (wsV RX5 207 RX5 yX5_firstOtherwise wsX5_firstOtherwise) := goodIn_app (goodIn_of _ (by decide +kernel)) ggX5_turned_X5_firstOtherwise
theorem dX5_turned_0 : decode cX5_turned 0 = .ok (.aload_n 0, 1) := by decide +kernel
theorem dX5_turned_1 : decode cX5_turned 1 = .ok (.iload_n 1, 1) := by decide +kernel
theorem dX5_turned_2 : decode cX5_turned 2 = .ok (.invokevirtual 204, 3) := by decide +kernel
theorem dX5_turned_5 : decode cX5_turned 5 = .ok (.istore_n 2, 1) := by decide +kernel
theorem dX5_turned_6 : decode cX5_turned 6 = .ok (.iload_n 2, 1) := by decide +kernel
theorem dX5_turned_7 : decode cX5_turned 7 = .ok (.ifCond .eq 5, 3) := by decide +kernel
theorem dX5_turned_10 : decode cX5_turned 10 = .ok (.iload_n 2, 1) := by decide +kernel
theorem dX5_turned_11 : decode cX5_turned 11 = .ok (.ireturn, 1) := by decide +kernel
theorem dX5_turned_12 : decode cX5_turned 12 = .ok (.iconst 0, 1) := by decide +kernel
theorem dX5_turned_13 : decode cX5_turned 13 = .ok (.istore_n 3, 1) := by decide +kernel
theorem dX5_turned_14 : decode cX5_turned 14 = .ok (.iconst 0, 1) := by decide +kernel
theorem dX5_turned_15 : decode cX5_turned 15 = .ok (.istore 4, 2) := by decide +kernel
theorem dX5_turned_17 : decode cX5_turned 17 = .ok (.iload 4, 2) := by decide +kernel
theorem dX5_turned_19 : decode cX5_turned 19 = .ok (.aload_n 0, 1) := by decide +kernel
theorem dX5_turned_20 : decode cX5_turned 20 = .ok (.getfield 53, 3) := by decide +kernel
theorem dX5_turned_23 : decode cX5_turned 23 = .ok (.getfield 63, 3) := by decide +kernel
theorem dX5_turned_26 : decode cX5_turned 26 = .ok (.if_icmp .ge 40, 3) := by decide +kernel
theorem dX5_turned_29 : decode cX5_turned 29 = .ok (.aload_n 0, 1) := by decide +kernel
theorem dX5_turned_30 : decode cX5_turned 30 = .ok (.invokevirtual 157, 3) := by decide +kernel
theorem dX5_turned_33 : decode cX5_turned 33 = .ok (.astore 5, 2) := by decide +kernel
theorem dX5_turned_35 : decode cX5_turned 35 = .ok (.aload 5, 2) := by decide +kernel
theorem dX5_turned_37 : decode cX5_turned 37 = .ok (.iload 4, 2) := by decide +kernel
theorem dX5_turned_39 : decode cX5_turned 39 = .ok (.invokevirtual 183, 3) := by decide +kernel
theorem dX5_turned_42 : decode cX5_turned 42 = .ok (.aload_n 0, 1) := by decide +kernel
theorem dX5_turned_43 : decode cX5_turned 43 = .ok (.iload_n 1, 1) := by decide +kernel
theorem dX5_turned_44 : decode cX5_turned 44 = .ok (.aload 5, 2) := by decide +kernel
theorem dX5_turned_46 : decode cX5_turned 46 = .ok (.invokevirtual 207, 3) := by decide +kernel
theorem dX5_turned_49 : decode cX5_turned 49 = .ok (.iconst (-1), 1) := by decide +kernel
theorem dX5_turned_50 : decode cX5_turned 50 = .ok (.if_icmp .ne 10, 3) := by decide +kernel
theorem dX5_turned_53 : decode cX5_turned 53 = .ok (.iload_n 3, 1) := by decide +kernel
theorem dX5_turned_54 : decode cX5_turned 54 = .ok (.iconst 1, 1) := by decide +kernel
theorem dX5_turned_55 : decode cX5_turned 55 = .ok (.iload 4, 2) := by decide +kernel
theorem dX5_turned_57 : decode cX5_turned 57 = .ok (.ishl, 1) := by decide +kernel
theorem dX5_turned_58 : decode cX5_turned 58 = .ok (.ior, 1) := by decide +kernel
theorem dX5_turned_59 : decode cX5_turned 59 = .ok (.istore_n 3, 1) := by decide +kernel
theorem dX5_turned_60 : decode cX5_turned 60 = .ok (.iinc 4 1, 3) := by decide +kernel
theorem dX5_turned_63 : decode cX5_turned 63 = .ok (.goto (-46), 3) := by decide +kernel
theorem dX5_turned_66 : decode cX5_turned 66 = .ok (.iload_n 3, 1) := by decide +kernel
theorem dX5_turned_67 : decode cX5_turned 67 = .ok (.ireturn, 1) := by decide +kernel
set_option maxRecDepth 20000 in
theorem ggX5_hours_X5_refusalOfTold : GoodIn wsX5_hours wsX5_refusalOfTold := goodIn_r _ [6, 7, 8, 9, 10, 5, 11, 12, 13, 14, 15, 16, 17, 18, 19, 20, 131, 132, 133, 134, 135, 136, 137, 138, 139, 140, 141, 142] (by decide +kernel) (by decide +kernel)
set_option maxRecDepth 20000 in
theorem gX5_hours_X5_refusalOfTold : GoodIn wsX5_hours (wsV RX5 204 RX5 yX5_refusalOfTold wsX5_refusalOfTold) := goodIn_app (goodIn_of _ (by decide +kernel)) ggX5_hours_X5_refusalOfTold
set_option maxRecDepth 20000 in
theorem ggX5_hours_X5_startThought : GoodIn wsX5_hours wsX5_startThought := goodIn_r _ [24, 25, 26, 27, 28, 29, 30, 31, 32, 33, 34, 35, 36, 37, 38, 39, 40, 41, 42, 43, 44, 45, 46, 47, 131, 132, 133, 134, 135, 136, 137, 138, 139, 119, 120, 121, 122, 123, 124, 125, 126, 127, 128, 129, 130] (by decide +kernel) (by decide +kernel)
set_option maxRecDepth 20000 in
theorem gX5_hours_X5_startThought : GoodIn wsX5_hours (wsV RX5 157 RX5 yX5_startThought wsX5_startThought) := goodIn_app (goodIn_of _ (by decide +kernel)) ggX5_hours_X5_startThought
set_option maxRecDepth 20000 in
theorem ggX5_hours_X5_firstOtherwise : GoodIn wsX5_hours wsX5_firstOtherwise := goodIn_r _ [51, 7, 8, 52, 53, 54, 55, 30, 56, 38, 57, 58, 59, 60, 32, 42, 41, 33, 61, 62, 63, 64, 65, 66, 67, 68, 37, 69, 70, 71, 72, 39, 73, 74, 75, 76, 36, 77, 78, 79, 80, 81, 82, 83, 84, 85, 86, 87, 88, 89, 90, 91, 92, 93, 94, 95, 96, 34, 35, 97, 98, 99, 100, 101, 102, 103, 104, 105, 106, 40, 107, 108, 109, 110, 111, 112, 113, 114, 115, 116, 117, 118, 131, 132, 133, 134, 135, 136, 137, 138, 139, 140, 141, 142, 119, 120, 121, 122, 123, 124, 125, 126, 127, 128, 129, 130, 143, 144, 145, 146] (by decide +kernel) (by decide +kernel)
set_option maxRecDepth 20000 in
theorem gX5_hours_X5_firstOtherwise : GoodIn wsX5_hours (wsV RX5 207 RX5 yX5_firstOtherwise wsX5_firstOtherwise) := goodIn_app (goodIn_of _ (by decide +kernel)) ggX5_hours_X5_firstOtherwise
theorem dX5_hours_0 : decode cX5_hours 0 = .ok (.aload_n 0, 1) := by decide +kernel
theorem dX5_hours_1 : decode cX5_hours 1 = .ok (.iload_n 1, 1) := by decide +kernel
theorem dX5_hours_2 : decode cX5_hours 2 = .ok (.invokevirtual 204, 3) := by decide +kernel
theorem dX5_hours_5 : decode cX5_hours 5 = .ok (.istore_n 2, 1) := by decide +kernel
theorem dX5_hours_6 : decode cX5_hours 6 = .ok (.iload_n 2, 1) := by decide +kernel
theorem dX5_hours_7 : decode cX5_hours 7 = .ok (.ifCond .eq 5, 3) := by decide +kernel
theorem dX5_hours_10 : decode cX5_hours 10 = .ok (.iload_n 2, 1) := by decide +kernel
theorem dX5_hours_11 : decode cX5_hours 11 = .ok (.ireturn, 1) := by decide +kernel
theorem dX5_hours_12 : decode cX5_hours 12 = .ok (.iconst 0, 1) := by decide +kernel
theorem dX5_hours_13 : decode cX5_hours 13 = .ok (.istore_n 3, 1) := by decide +kernel
theorem dX5_hours_14 : decode cX5_hours 14 = .ok (.iconst 0, 1) := by decide +kernel
theorem dX5_hours_15 : decode cX5_hours 15 = .ok (.istore 4, 2) := by decide +kernel
theorem dX5_hours_17 : decode cX5_hours 17 = .ok (.iload 4, 2) := by decide +kernel
theorem dX5_hours_19 : decode cX5_hours 19 = .ok (.bipush 24, 2) := by decide +kernel
theorem dX5_hours_21 : decode cX5_hours 21 = .ok (.if_icmp .ge 40, 3) := by decide +kernel
theorem dX5_hours_24 : decode cX5_hours 24 = .ok (.aload_n 0, 1) := by decide +kernel
theorem dX5_hours_25 : decode cX5_hours 25 = .ok (.invokevirtual 157, 3) := by decide +kernel
theorem dX5_hours_28 : decode cX5_hours 28 = .ok (.astore 5, 2) := by decide +kernel
theorem dX5_hours_30 : decode cX5_hours 30 = .ok (.aload 5, 2) := by decide +kernel
theorem dX5_hours_32 : decode cX5_hours 32 = .ok (.iload 4, 2) := by decide +kernel
theorem dX5_hours_34 : decode cX5_hours 34 = .ok (.putfield 66, 3) := by decide +kernel
theorem dX5_hours_37 : decode cX5_hours 37 = .ok (.aload_n 0, 1) := by decide +kernel
theorem dX5_hours_38 : decode cX5_hours 38 = .ok (.iload_n 1, 1) := by decide +kernel
theorem dX5_hours_39 : decode cX5_hours 39 = .ok (.aload 5, 2) := by decide +kernel
theorem dX5_hours_41 : decode cX5_hours 41 = .ok (.invokevirtual 207, 3) := by decide +kernel
theorem dX5_hours_44 : decode cX5_hours 44 = .ok (.iconst (-1), 1) := by decide +kernel
theorem dX5_hours_45 : decode cX5_hours 45 = .ok (.if_icmp .ne 10, 3) := by decide +kernel
theorem dX5_hours_48 : decode cX5_hours 48 = .ok (.iload_n 3, 1) := by decide +kernel
theorem dX5_hours_49 : decode cX5_hours 49 = .ok (.iconst 1, 1) := by decide +kernel
theorem dX5_hours_50 : decode cX5_hours 50 = .ok (.iload 4, 2) := by decide +kernel
theorem dX5_hours_52 : decode cX5_hours 52 = .ok (.ishl, 1) := by decide +kernel
theorem dX5_hours_53 : decode cX5_hours 53 = .ok (.ior, 1) := by decide +kernel
theorem dX5_hours_54 : decode cX5_hours 54 = .ok (.istore_n 3, 1) := by decide +kernel
theorem dX5_hours_55 : decode cX5_hours 55 = .ok (.iinc 4 1, 3) := by decide +kernel
theorem dX5_hours_58 : decode cX5_hours 58 = .ok (.goto (-41), 3) := by decide +kernel
theorem dX5_hours_61 : decode cX5_hours 61 = .ok (.iload_n 3, 1) := by decide +kernel
theorem dX5_hours_62 : decode cX5_hours 62 = .ok (.ireturn, 1) := by decide +kernel
set_option maxRecDepth 20000 in
theorem ggX5_laws_X5_refusalOfTold : GoodIn wsX5_laws wsX5_refusalOfTold := goodIn_r _ [7, 8, 9, 10, 11, 6, 12, 13, 14, 15, 16, 17, 18, 19, 20, 21, 121, 122, 123, 124, 125, 126, 127, 128, 129, 130, 131, 132] (by decide +kernel) (by decide +kernel)
set_option maxRecDepth 20000 in
theorem gX5_laws_X5_refusalOfTold : GoodIn wsX5_laws (wsV RX5 204 RX5 yX5_refusalOfTold wsX5_refusalOfTold) := goodIn_app (goodIn_of _ (by decide +kernel)) ggX5_laws_X5_refusalOfTold
set_option maxRecDepth 20000 in
theorem ggX5_laws_X5_startThought : GoodIn wsX5_laws wsX5_startThought := goodIn_r _ [25, 26, 27, 28, 29, 30, 31, 32, 33, 34, 35, 36, 37, 38, 39, 40, 41, 42, 43, 44, 45, 46, 47, 48, 121, 122, 123, 124, 125, 126, 127, 128, 129, 133, 134, 135, 136, 137, 138, 139, 140, 141, 142, 143, 144] (by decide +kernel) (by decide +kernel)
set_option maxRecDepth 20000 in
theorem gX5_laws_X5_startThought : GoodIn wsX5_laws (wsV RX5 157 RX5 yX5_startThought wsX5_startThought) := goodIn_app (goodIn_of _ (by decide +kernel)) ggX5_laws_X5_startThought
set_option maxRecDepth 20000 in
theorem ggX5_laws_X4_obey : GoodIn wsX5_laws wsX4_obey := goodIn_r _ [48, 43, 44, 133, 134, 135, 136, 137, 138, 139, 140, 141, 142, 143, 144] (by decide +kernel) (by decide +kernel)
set_option maxRecDepth 20000 in
theorem gX5_laws_X4_obey : GoodIn wsX5_laws (wsV RX5 97 RX4 yX4_obey wsX4_obey) := goodIn_app (goodIn_of _ (by decide +kernel)) ggX5_laws_X4_obey
set_option maxRecDepth 20000 in
theorem ggX5_laws_X5_firstOtherwise : GoodIn wsX5_laws wsX5_firstOtherwise := goodIn_r _ [53, 8, 9, 54, 55, 56, 57, 31, 58, 39, 59, 60, 61, 62, 33, 43, 42, 34, 63, 64, 65, 66, 67, 68, 69, 70, 38, 71, 72, 73, 74, 40, 75, 76, 77, 78, 37, 79, 80, 81, 82, 83, 84, 85, 86, 87, 88, 89, 90, 91, 92, 93, 94, 95, 96, 97, 98, 35, 36, 99, 100, 101, 102, 103, 104, 105, 106, 107, 108, 41, 109, 110, 111, 112, 113, 114, 115, 116, 117, 118, 119, 120, 121, 122, 123, 124, 125, 126, 127, 128, 129, 130, 131, 132, 133, 134, 135, 136, 137, 138, 139, 140, 141, 142, 143, 144, 145, 146, 147, 148] (by decide +kernel) (by decide +kernel)
set_option maxRecDepth 20000 in
theorem gX5_laws_X5_firstOtherwise : GoodIn wsX5_laws (wsV RX5 207 RX5 yX5_firstOtherwise wsX5_firstOtherwise) := goodIn_app (goodIn_of _ (by decide +kernel)) ggX5_laws_X5_firstOtherwise
theorem dX5_laws_0 : decode cX5_laws 0 = .ok (.aload_n 0, 1) := by decide +kernel
theorem dX5_laws_1 : decode cX5_laws 1 = .ok (.iload_n 1, 1) := by decide +kernel
theorem dX5_laws_2 : decode cX5_laws 2 = .ok (.invokevirtual 204, 3) := by decide +kernel
theorem dX5_laws_5 : decode cX5_laws 5 = .ok (.istore_n 2, 1) := by decide +kernel
theorem dX5_laws_6 : decode cX5_laws 6 = .ok (.iload_n 2, 1) := by decide +kernel
theorem dX5_laws_7 : decode cX5_laws 7 = .ok (.ifCond .eq 5, 3) := by decide +kernel
theorem dX5_laws_10 : decode cX5_laws 10 = .ok (.iload_n 2, 1) := by decide +kernel
theorem dX5_laws_11 : decode cX5_laws 11 = .ok (.ireturn, 1) := by decide +kernel
theorem dX5_laws_12 : decode cX5_laws 12 = .ok (.iconst 0, 1) := by decide +kernel
theorem dX5_laws_13 : decode cX5_laws 13 = .ok (.istore_n 3, 1) := by decide +kernel
theorem dX5_laws_14 : decode cX5_laws 14 = .ok (.iconst 0, 1) := by decide +kernel
theorem dX5_laws_15 : decode cX5_laws 15 = .ok (.istore 4, 2) := by decide +kernel
theorem dX5_laws_17 : decode cX5_laws 17 = .ok (.iload 4, 2) := by decide +kernel
theorem dX5_laws_19 : decode cX5_laws 19 = .ok (.aload_n 0, 1) := by decide +kernel
theorem dX5_laws_20 : decode cX5_laws 20 = .ok (.getfield 35, 3) := by decide +kernel
theorem dX5_laws_23 : decode cX5_laws 23 = .ok (.if_icmp .ge 54, 3) := by decide +kernel
theorem dX5_laws_26 : decode cX5_laws 26 = .ok (.iload 4, 2) := by decide +kernel
theorem dX5_laws_28 : decode cX5_laws 28 = .ok (.bipush 6, 2) := by decide +kernel
theorem dX5_laws_30 : decode cX5_laws 30 = .ok (.if_icmp .ge 47, 3) := by decide +kernel
theorem dX5_laws_33 : decode cX5_laws 33 = .ok (.aload_n 0, 1) := by decide +kernel
theorem dX5_laws_34 : decode cX5_laws 34 = .ok (.invokevirtual 157, 3) := by decide +kernel
theorem dX5_laws_37 : decode cX5_laws 37 = .ok (.astore 5, 2) := by decide +kernel
theorem dX5_laws_39 : decode cX5_laws 39 = .ok (.aload 5, 2) := by decide +kernel
theorem dX5_laws_41 : decode cX5_laws 41 = .ok (.aload_n 0, 1) := by decide +kernel
theorem dX5_laws_42 : decode cX5_laws 42 = .ok (.getfield 11, 3) := by decide +kernel
theorem dX5_laws_45 : decode cX5_laws 45 = .ok (.iload 4, 2) := by decide +kernel
theorem dX5_laws_47 : decode cX5_laws 47 = .ok (.aaload, 1) := by decide +kernel
theorem dX5_laws_48 : decode cX5_laws 48 = .ok (.iload 4, 2) := by decide +kernel
theorem dX5_laws_50 : decode cX5_laws 50 = .ok (.invokevirtual 97, 3) := by decide +kernel
theorem dX5_laws_53 : decode cX5_laws 53 = .ok (.aload_n 0, 1) := by decide +kernel
theorem dX5_laws_54 : decode cX5_laws 54 = .ok (.iload_n 1, 1) := by decide +kernel
theorem dX5_laws_55 : decode cX5_laws 55 = .ok (.aload 5, 2) := by decide +kernel
theorem dX5_laws_57 : decode cX5_laws 57 = .ok (.invokevirtual 207, 3) := by decide +kernel
theorem dX5_laws_60 : decode cX5_laws 60 = .ok (.iconst (-1), 1) := by decide +kernel
theorem dX5_laws_61 : decode cX5_laws 61 = .ok (.if_icmp .ne 10, 3) := by decide +kernel
theorem dX5_laws_64 : decode cX5_laws 64 = .ok (.iload_n 3, 1) := by decide +kernel
theorem dX5_laws_65 : decode cX5_laws 65 = .ok (.iconst 1, 1) := by decide +kernel
theorem dX5_laws_66 : decode cX5_laws 66 = .ok (.iload 4, 2) := by decide +kernel
theorem dX5_laws_68 : decode cX5_laws 68 = .ok (.ishl, 1) := by decide +kernel
theorem dX5_laws_69 : decode cX5_laws 69 = .ok (.ior, 1) := by decide +kernel
theorem dX5_laws_70 : decode cX5_laws 70 = .ok (.istore_n 3, 1) := by decide +kernel
theorem dX5_laws_71 : decode cX5_laws 71 = .ok (.iinc 4 1, 3) := by decide +kernel
theorem dX5_laws_74 : decode cX5_laws 74 = .ok (.goto (-57), 3) := by decide +kernel
theorem dX5_laws_77 : decode cX5_laws 77 = .ok (.iload_n 3, 1) := by decide +kernel
theorem dX5_laws_78 : decode cX5_laws 78 = .ok (.ireturn, 1) := by decide +kernel
set_option maxRecDepth 20000 in
theorem ggX5_film_X5_isSheet : GoodIn wsX5_film wsX5_isSheet := goodIn_r _ [5, 6, 7, 4, 8] (by decide +kernel) (by decide +kernel)
set_option maxRecDepth 20000 in
theorem gX5_film_X5_isSheet : GoodIn wsX5_film (va_wsS RX5 217 yX5_isSheet wsX5_isSheet) := goodIn_app (goodIn_of _ (by decide +kernel)) ggX5_film_X5_isSheet
set_option maxRecDepth 20000 in
theorem ggX5_film_X5_isWithin : GoodIn wsX5_film wsX5_isWithin := goodIn_r _ [8] (by decide +kernel) (by decide +kernel)
set_option maxRecDepth 20000 in
theorem gX5_film_X5_isWithin : GoodIn wsX5_film (va_wsS RX5 81 yX5_isWithin wsX5_isWithin) := goodIn_app (goodIn_of _ (by decide +kernel)) ggX5_film_X5_isWithin
set_option maxRecDepth 20000 in
theorem ggX5_film_X1_become : GoodIn wsX5_film wsX1_become := goodIn_r _ [13, 14, 15, 16, 123, 124, 125] (by decide +kernel) (by decide +kernel)
set_option maxRecDepth 20000 in
theorem gX5_film_X1_become : GoodIn wsX5_film (wsV RX5 220 RX1 yX1_become wsX1_become) := goodIn_app (goodIn_of _ (by decide +kernel)) ggX5_film_X1_become
set_option maxRecDepth 20000 in
theorem ggX5_film_X5_startThought : GoodIn wsX5_film wsX5_startThought := goodIn_r _ [20, 21, 22, 23, 24, 25, 26, 27, 28, 29, 30, 31, 32, 33, 34, 35, 36, 37, 38, 39, 40, 41, 42, 43, 114, 115, 116, 117, 118, 119, 120, 121, 122, 126, 127, 128, 129, 130, 131, 132, 133, 134, 135, 136, 137] (by decide +kernel) (by decide +kernel)
set_option maxRecDepth 20000 in
theorem gX5_film_X5_startThought : GoodIn wsX5_film (wsV RX5 157 RX5 yX5_startThought wsX5_startThought) := goodIn_app (goodIn_of _ (by decide +kernel)) ggX5_film_X5_startThought
set_option maxRecDepth 20000 in
theorem ggX5_film_X4_liars : GoodIn wsX5_film wsX4_liars := goodIn_r _ [47, 34, 48, 49, 50, 26, 51, 28, 38, 37, 29, 52, 53, 54, 55, 56, 57, 58, 59, 33, 60, 61, 62, 63, 35, 64, 65, 66, 67, 32, 68, 69, 70, 71, 72, 73, 74, 75, 76, 77, 78, 79, 80, 81, 82, 83, 84, 85, 86, 87, 30, 31, 88, 89, 90, 91, 126, 127, 128, 129, 130, 131, 132, 133, 134, 135, 136, 137, 138, 139, 140, 141] (by decide +kernel) (by decide +kernel)
set_option maxRecDepth 20000 in
theorem gX5_film_X4_liars : GoodIn wsX5_film (wsV RX5 144 RX4 yX4_liars wsX4_liars) := goodIn_app (goodIn_of _ (by decide +kernel)) ggX5_film_X4_liars
set_option maxRecDepth 20000 in
theorem ggX5_film_X4_passHour : GoodIn wsX5_film wsX4_passHour := goodIn_r _ [95, 34, 30, 88, 77, 78, 79, 96, 81, 82, 31, 37, 97, 36, 35, 98, 99, 100, 26, 101, 102, 103, 104, 105, 28, 38, 29, 52, 53, 54, 55, 68, 69, 70, 71, 72, 73, 74, 75, 76, 80, 83, 84, 85, 86, 87, 89, 90, 91, 106, 107, 108, 109, 126, 127, 128, 129, 130, 131, 132, 133, 134, 135, 136, 137, 138, 139, 140, 141] (by decide +kernel) (by decide +kernel)
set_option maxRecDepth 20000 in
theorem gX5_film_X4_passHour : GoodIn wsX5_film (wsV RX5 154 RX4 yX4_passHour wsX4_passHour) := goodIn_app (goodIn_of _ (by decide +kernel)) ggX5_film_X4_passHour
set_option maxRecDepth 20000 in
theorem ggX5_film_X1_write : GoodIn wsX5_film wsX1_write := goodIn_r _ [113, 16, 14, 123, 124, 125] (by decide +kernel) (by decide +kernel)
set_option maxRecDepth 20000 in
theorem gX5_film_X1_write : GoodIn wsX5_film (wsV RX5 223 RX1 yX1_write wsX1_write) := goodIn_app (goodIn_of _ (by decide +kernel)) ggX5_film_X1_write
theorem dX5_film_0 : decode cX5_film 0 = .ok (.iload_n 1, 1) := by decide +kernel
theorem dX5_film_1 : decode cX5_film 1 = .ok (.invokestatic 217, 3) := by decide +kernel
theorem dX5_film_4 : decode cX5_film 4 = .ok (.ifCond .ne 6, 3) := by decide +kernel
theorem dX5_film_7 : decode cX5_film 7 = .ok (.bipush (-2), 2) := by decide +kernel
theorem dX5_film_9 : decode cX5_film 9 = .ok (.ireturn, 1) := by decide +kernel
theorem dX5_film_10 : decode cX5_film 10 = .ok (.iload_n 2, 1) := by decide +kernel
theorem dX5_film_11 : decode cX5_film 11 = .ok (.iconst 0, 1) := by decide +kernel
theorem dX5_film_12 : decode cX5_film 12 = .ok (.bipush 24, 2) := by decide +kernel
theorem dX5_film_14 : decode cX5_film 14 = .ok (.invokestatic 81, 3) := by decide +kernel
theorem dX5_film_17 : decode cX5_film 17 = .ok (.ifCond .ne 6, 3) := by decide +kernel
theorem dX5_film_20 : decode cX5_film 20 = .ok (.bipush (-7), 2) := by decide +kernel
theorem dX5_film_22 : decode cX5_film 22 = .ok (.ireturn, 1) := by decide +kernel
theorem dX5_film_23 : decode cX5_film 23 = .ok (.aload_n 0, 1) := by decide +kernel
theorem dX5_film_24 : decode cX5_film 24 = .ok (.getfield 17, 3) := by decide +kernel
theorem dX5_film_27 : decode cX5_film 27 = .ok (.iload_n 1, 1) := by decide +kernel
theorem dX5_film_28 : decode cX5_film 28 = .ok (.aaload, 1) := by decide +kernel
theorem dX5_film_29 : decode cX5_film 29 = .ok (.astore_n 3, 1) := by decide +kernel
theorem dX5_film_30 : decode cX5_film 30 = .ok (.aload_n 3, 1) := by decide +kernel
theorem dX5_film_31 : decode cX5_film 31 = .ok (.iconst 2, 1) := by decide +kernel
theorem dX5_film_32 : decode cX5_film 32 = .ok (.iload_n 2, 1) := by decide +kernel
theorem dX5_film_33 : decode cX5_film 33 = .ok (.invokevirtual 220, 3) := by decide +kernel
theorem dX5_film_36 : decode cX5_film 36 = .ok (.aload_n 0, 1) := by decide +kernel
theorem dX5_film_37 : decode cX5_film 37 = .ok (.invokevirtual 157, 3) := by decide +kernel
theorem dX5_film_40 : decode cX5_film 40 = .ok (.astore 4, 2) := by decide +kernel
theorem dX5_film_42 : decode cX5_film 42 = .ok (.iconst 0, 1) := by decide +kernel
theorem dX5_film_43 : decode cX5_film 43 = .ok (.istore 5, 2) := by decide +kernel
theorem dX5_film_45 : decode cX5_film 45 = .ok (.iload 5, 2) := by decide +kernel
theorem dX5_film_47 : decode cX5_film 47 = .ok (.iload_n 2, 1) := by decide +kernel
theorem dX5_film_48 : decode cX5_film 48 = .ok (.if_icmp .ge 25, 3) := by decide +kernel
theorem dX5_film_51 : decode cX5_film 51 = .ok (.aload_n 3, 1) := by decide +kernel
theorem dX5_film_52 : decode cX5_film 52 = .ok (.iload 5, 2) := by decide +kernel
theorem dX5_film_54 : decode cX5_film 54 = .ok (.aload 4, 2) := by decide +kernel
theorem dX5_film_56 : decode cX5_film 56 = .ok (.aload 4, 2) := by decide +kernel
theorem dX5_film_58 : decode cX5_film 58 = .ok (.invokevirtual 144, 3) := by decide +kernel
theorem dX5_film_61 : decode cX5_film 61 = .ok (.invokevirtual 154, 3) := by decide +kernel
theorem dX5_film_64 : decode cX5_film 64 = .ok (.invokevirtual 223, 3) := by decide +kernel
theorem dX5_film_67 : decode cX5_film 67 = .ok (.iinc 5 1, 3) := by decide +kernel
theorem dX5_film_70 : decode cX5_film 70 = .ok (.goto (-25), 3) := by decide +kernel
theorem dX5_film_73 : decode cX5_film 73 = .ok (.iload_n 2, 1) := by decide +kernel
theorem dX5_film_74 : decode cX5_film 74 = .ok (.ireturn, 1) := by decide +kernel
set_option maxRecDepth 20000 in
theorem ggX5_drawn_X5_isWithin : GoodIn wsX5_drawn wsX5_isWithin := goodIn_r _ [5] (by decide +kernel) (by decide +kernel)
set_option maxRecDepth 20000 in
theorem gX5_drawn_X5_isWithin : GoodIn wsX5_drawn (va_wsS RX5 81 yX5_isWithin wsX5_isWithin) := goodIn_app (goodIn_of _ (by decide +kernel)) ggX5_drawn_X5_isWithin
set_option maxRecDepth 20000 in
theorem ggX5_drawn_X5_inCrowd : GoodIn wsX5_drawn wsX5_inCrowd := goodIn_r _ [9, 10, 11, 12, 13, 14, 15, 4, 16, 17, 18, 19, 20, 21, 22, 23, 24, 25, 26, 27, 28, 29, 30, 31, 32, 33, 34, 35, 36, 37, 38, 39, 40, 41, 42, 43, 44, 45, 46, 47, 48, 49, 50, 51, 52, 53, 54, 55, 56, 57, 58, 59, 60, 61, 62, 63, 64, 65, 66, 67, 68, 69, 70, 71, 72, 73, 74, 75, 76, 77, 78, 79, 80, 81, 82, 83, 84, 85, 86, 87, 88, 89, 90, 91, 92, 93, 94, 95, 96, 97, 98, 99, 100, 101, 102, 103, 104, 105, 106, 107, 108, 109, 110, 111, 112, 113, 114, 115, 116, 117, 118, 119, 120, 121, 122, 123, 124, 125, 126, 127, 128, 129, 130, 131, 132, 133, 134, 135, 136, 137, 138, 139, 140, 141] (by decide +kernel) (by decide +kernel)
set_option maxRecDepth 20000 in
theorem gX5_drawn_X5_inCrowd : GoodIn wsX5_drawn (wsV RX5 227 RX5 yX5_inCrowd wsX5_inCrowd) := goodIn_app (goodIn_of _ (by decide +kernel)) ggX5_drawn_X5_inCrowd
theorem dX5_drawn_0 : decode cX5_drawn 0 = .ok (.iload_n 1, 1) := by decide +kernel
theorem dX5_drawn_1 : decode cX5_drawn 1 = .ok (.iconst 0, 1) := by decide +kernel
theorem dX5_drawn_2 : decode cX5_drawn 2 = .ok (.ldc 226, 2) := by decide +kernel
theorem dX5_drawn_4 : decode cX5_drawn 4 = .ok (.invokestatic 81, 3) := by decide +kernel
theorem dX5_drawn_7 : decode cX5_drawn 7 = .ok (.ifCond .eq 22, 3) := by decide +kernel
theorem dX5_drawn_10 : decode cX5_drawn 10 = .ok (.iload_n 2, 1) := by decide +kernel
theorem dX5_drawn_11 : decode cX5_drawn 11 = .ok (.iconst 0, 1) := by decide +kernel
theorem dX5_drawn_12 : decode cX5_drawn 12 = .ok (.bipush 48, 2) := by decide +kernel
theorem dX5_drawn_14 : decode cX5_drawn 14 = .ok (.invokestatic 81, 3) := by decide +kernel
theorem dX5_drawn_17 : decode cX5_drawn 17 = .ok (.ifCond .eq 12, 3) := by decide +kernel
theorem dX5_drawn_20 : decode cX5_drawn 20 = .ok (.iload_n 3, 1) := by decide +kernel
theorem dX5_drawn_21 : decode cX5_drawn 21 = .ok (.iconst 0, 1) := by decide +kernel
theorem dX5_drawn_22 : decode cX5_drawn 22 = .ok (.iconst 1, 1) := by decide +kernel
theorem dX5_drawn_23 : decode cX5_drawn 23 = .ok (.invokestatic 81, 3) := by decide +kernel
theorem dX5_drawn_26 : decode cX5_drawn 26 = .ok (.ifCond .ne 6, 3) := by decide +kernel
theorem dX5_drawn_29 : decode cX5_drawn 29 = .ok (.bipush (-2), 2) := by decide +kernel
theorem dX5_drawn_31 : decode cX5_drawn 31 = .ok (.ireturn, 1) := by decide +kernel
theorem dX5_drawn_32 : decode cX5_drawn 32 = .ok (.aload_n 0, 1) := by decide +kernel
theorem dX5_drawn_33 : decode cX5_drawn 33 = .ok (.iload_n 1, 1) := by decide +kernel
theorem dX5_drawn_34 : decode cX5_drawn 34 = .ok (.iload_n 2, 1) := by decide +kernel
theorem dX5_drawn_35 : decode cX5_drawn 35 = .ok (.iload_n 3, 1) := by decide +kernel
theorem dX5_drawn_36 : decode cX5_drawn 36 = .ok (.invokevirtual 227, 3) := by decide +kernel
theorem dX5_drawn_39 : decode cX5_drawn 39 = .ok (.ireturn, 1) := by decide +kernel
set_option maxRecDepth 20000 in
theorem ggX5_odds_X5_isWithin : GoodIn wsX5_odds wsX5_isWithin := goodIn_r _ [6] (by decide +kernel) (by decide +kernel)
set_option maxRecDepth 20000 in
theorem gX5_odds_X5_isWithin : GoodIn wsX5_odds (va_wsS RX5 81 yX5_isWithin wsX5_isWithin) := goodIn_app (goodIn_of _ (by decide +kernel)) ggX5_odds_X5_isWithin
set_option maxRecDepth 20000 in
theorem ggX5_odds_X5_inCrowd : GoodIn wsX5_odds wsX5_inCrowd := goodIn_r _ [10, 11, 12, 13, 14, 15, 16, 5, 17, 18, 19, 20, 21, 22, 23, 24, 25, 26, 27, 28, 29, 30, 31, 32, 33, 34, 35, 36, 37, 38, 39, 40, 41, 42, 43, 44, 45, 46, 47, 48, 49, 50, 51, 52, 53, 54, 55, 56, 57, 58, 59, 60, 61, 62, 63, 64, 65, 66, 67, 68, 69, 70, 71, 72, 73, 74, 75, 76, 77, 78, 79, 80, 81, 82, 83, 84, 85, 86, 87, 88, 89, 90, 91, 92, 93, 94, 95, 96, 97, 98, 99, 100, 101, 102, 103, 104, 105, 106, 107, 108, 109, 110, 111, 112, 113, 114, 115, 116, 117, 121, 122, 123, 124, 125, 126, 127, 128, 129, 130, 131, 132, 133, 134, 135, 136, 137, 138, 139, 140, 141, 142, 143, 144, 145] (by decide +kernel) (by decide +kernel)
set_option maxRecDepth 20000 in
theorem gX5_odds_X5_inCrowd : GoodIn wsX5_odds (wsV RX5 227 RX5 yX5_inCrowd wsX5_inCrowd) := goodIn_app (goodIn_of _ (by decide +kernel)) ggX5_odds_X5_inCrowd
set_option maxRecDepth 20000 in
theorem ggX5_odds_X5_lowestTerms : GoodIn wsX5_odds wsX5_lowestTerms := goodIn_r _ [120, 2] (by decide +kernel) (by decide +kernel)
set_option maxRecDepth 20000 in
theorem gX5_odds_X5_lowestTerms : GoodIn wsX5_odds (va_wsS RX5 200 yX5_lowestTerms wsX5_lowestTerms) := goodIn_app (goodIn_of _ (by decide +kernel)) ggX5_odds_X5_lowestTerms
theorem dX5_odds_0 : decode cX5_odds 0 = .ok (.iload_n 1, 1) := by decide +kernel
theorem dX5_odds_1 : decode cX5_odds 1 = .ok (.iconst 0, 1) := by decide +kernel
theorem dX5_odds_2 : decode cX5_odds 2 = .ok (.ldc 226, 2) := by decide +kernel
theorem dX5_odds_4 : decode cX5_odds 4 = .ok (.invokestatic 81, 3) := by decide +kernel
theorem dX5_odds_7 : decode cX5_odds 7 = .ok (.ifCond .eq 34, 3) := by decide +kernel
theorem dX5_odds_10 : decode cX5_odds 10 = .ok (.iload_n 2, 1) := by decide +kernel
theorem dX5_odds_11 : decode cX5_odds 11 = .ok (.iconst 1, 1) := by decide +kernel
theorem dX5_odds_12 : decode cX5_odds 12 = .ok (.bipush 40, 2) := by decide +kernel
theorem dX5_odds_14 : decode cX5_odds 14 = .ok (.invokestatic 81, 3) := by decide +kernel
theorem dX5_odds_17 : decode cX5_odds 17 = .ok (.ifCond .eq 24, 3) := by decide +kernel
theorem dX5_odds_20 : decode cX5_odds 20 = .ok (.iload_n 3, 1) := by decide +kernel
theorem dX5_odds_21 : decode cX5_odds 21 = .ok (.iconst 0, 1) := by decide +kernel
theorem dX5_odds_22 : decode cX5_odds 22 = .ok (.sipush 9999, 3) := by decide +kernel
theorem dX5_odds_25 : decode cX5_odds 25 = .ok (.invokestatic 81, 3) := by decide +kernel
theorem dX5_odds_28 : decode cX5_odds 28 = .ok (.ifCond .eq 13, 3) := by decide +kernel
theorem dX5_odds_31 : decode cX5_odds 31 = .ok (.iload 4, 2) := by decide +kernel
theorem dX5_odds_33 : decode cX5_odds 33 = .ok (.iconst 0, 1) := by decide +kernel
theorem dX5_odds_34 : decode cX5_odds 34 = .ok (.iconst 1, 1) := by decide +kernel
theorem dX5_odds_35 : decode cX5_odds 35 = .ok (.invokestatic 81, 3) := by decide +kernel
theorem dX5_odds_38 : decode cX5_odds 38 = .ok (.ifCond .ne 7, 3) := by decide +kernel
theorem dX5_odds_41 : decode cX5_odds 41 = .ok (.ldc2_w 198, 3) := by decide +kernel
theorem dX5_odds_44 : decode cX5_odds 44 = .ok (.lreturn, 1) := by decide +kernel
theorem dX5_odds_45 : decode cX5_odds 45 = .ok (.iconst 0, 1) := by decide +kernel
theorem dX5_odds_46 : decode cX5_odds 46 = .ok (.istore 5, 2) := by decide +kernel
theorem dX5_odds_48 : decode cX5_odds 48 = .ok (.iconst 0, 1) := by decide +kernel
theorem dX5_odds_49 : decode cX5_odds 49 = .ok (.istore 6, 2) := by decide +kernel
theorem dX5_odds_51 : decode cX5_odds 51 = .ok (.iload 6, 2) := by decide +kernel
theorem dX5_odds_53 : decode cX5_odds 53 = .ok (.iload_n 2, 1) := by decide +kernel
theorem dX5_odds_54 : decode cX5_odds 54 = .ok (.if_icmp .ge 27, 3) := by decide +kernel
theorem dX5_odds_57 : decode cX5_odds 57 = .ok (.aload_n 0, 1) := by decide +kernel
theorem dX5_odds_58 : decode cX5_odds 58 = .ok (.iload_n 1, 1) := by decide +kernel
theorem dX5_odds_59 : decode cX5_odds 59 = .ok (.iload 6, 2) := by decide +kernel
theorem dX5_odds_61 : decode cX5_odds 61 = .ok (.iadd, 1) := by decide +kernel
theorem dX5_odds_62 : decode cX5_odds 62 = .ok (.bipush 12, 2) := by decide +kernel
theorem dX5_odds_64 : decode cX5_odds 64 = .ok (.iconst 0, 1) := by decide +kernel
theorem dX5_odds_65 : decode cX5_odds 65 = .ok (.invokevirtual 227, 3) := by decide +kernel
theorem dX5_odds_68 : decode cX5_odds 68 = .ok (.iload_n 3, 1) := by decide +kernel
theorem dX5_odds_69 : decode cX5_odds 69 = .ok (.if_icmp .lt 6, 3) := by decide +kernel
theorem dX5_odds_72 : decode cX5_odds 72 = .ok (.iinc 5 1, 3) := by decide +kernel
theorem dX5_odds_75 : decode cX5_odds 75 = .ok (.iinc 6 1, 3) := by decide +kernel
theorem dX5_odds_78 : decode cX5_odds 78 = .ok (.goto (-27), 3) := by decide +kernel
theorem dX5_odds_81 : decode cX5_odds 81 = .ok (.iload 5, 2) := by decide +kernel
theorem dX5_odds_83 : decode cX5_odds 83 = .ok (.i2l, 1) := by decide +kernel
theorem dX5_odds_84 : decode cX5_odds 84 = .ok (.iload_n 2, 1) := by decide +kernel
theorem dX5_odds_85 : decode cX5_odds 85 = .ok (.i2l, 1) := by decide +kernel
theorem dX5_odds_86 : decode cX5_odds 86 = .ok (.iload 4, 2) := by decide +kernel
theorem dX5_odds_88 : decode cX5_odds 88 = .ok (.invokestatic 200, 3) := by decide +kernel
theorem dX5_odds_91 : decode cX5_odds 91 = .ok (.lreturn, 1) := by decide +kernel
set_option maxRecDepth 20000 in
theorem ggX5_image_X4_become : GoodIn wsX5_image wsX4_become := goodIn_r _ [9, 10, 11, 12, 13, 14, 15, 16, 17, 18, 19, 20, 21, 22, 23, 24, 8, 25, 35, 36, 37, 38, 39, 40, 41, 42, 43, 44, 45, 46] (by decide +kernel) (by decide +kernel)
set_option maxRecDepth 20000 in
theorem gX5_image_X4_become : GoodIn wsX5_image (wsV RX5 230 RX4 yX4_become wsX4_become) := goodIn_app (goodIn_of _ (by decide +kernel)) ggX5_image_X4_become
theorem dX5_image_0 : decode cX5_image 0 = .ok (.aload_n 0, 1) := by decide +kernel
theorem dX5_image_1 : decode cX5_image 1 = .ok (.getfield 60, 3) := by decide +kernel
theorem dX5_image_4 : decode cX5_image 4 = .ok (.aload_n 0, 1) := by decide +kernel
theorem dX5_image_5 : decode cX5_image 5 = .ok (.getfield 53, 3) := by decide +kernel
theorem dX5_image_8 : decode cX5_image 8 = .ok (.invokevirtual 230, 3) := by decide +kernel
theorem dX5_image_11 : decode cX5_image 11 = .ok (.aload_n 0, 1) := by decide +kernel
theorem dX5_image_12 : decode cX5_image 12 = .ok (.iconst 1, 1) := by decide +kernel
theorem dX5_image_13 : decode cX5_image 13 = .ok (.putfield 39, 3) := by decide +kernel
theorem dX5_image_16 : decode cX5_image 16 = .ok (.aload_n 0, 1) := by decide +kernel
theorem dX5_image_17 : decode cX5_image 17 = .ok (.getfield 60, 3) := by decide +kernel
theorem dX5_image_20 : decode cX5_image 20 = .ok (.getfield 63, 3) := by decide +kernel
theorem dX5_image_23 : decode cX5_image 23 = .ok (.ireturn, 1) := by decide +kernel
set_option maxRecDepth 20000 in
theorem ggX5_back_X4_become : GoodIn wsX5_back wsX4_become := goodIn_r _ [9, 10, 11, 12, 13, 14, 15, 16, 17, 18, 19, 20, 21, 22, 23, 24, 8, 25, 35, 36, 37, 38, 39, 40, 41, 42, 43, 44, 45, 46] (by decide +kernel) (by decide +kernel)
set_option maxRecDepth 20000 in
theorem gX5_back_X4_become : GoodIn wsX5_back (wsV RX5 230 RX4 yX4_become wsX4_become) := goodIn_app (goodIn_of _ (by decide +kernel)) ggX5_back_X4_become
theorem dX5_back_0 : decode cX5_back 0 = .ok (.aload_n 0, 1) := by decide +kernel
theorem dX5_back_1 : decode cX5_back 1 = .ok (.getfield 39, 3) := by decide +kernel
theorem dX5_back_4 : decode cX5_back 4 = .ok (.ifCond .ne 6, 3) := by decide +kernel
theorem dX5_back_7 : decode cX5_back 7 = .ok (.bipush (-3), 2) := by decide +kernel
theorem dX5_back_9 : decode cX5_back 9 = .ok (.ireturn, 1) := by decide +kernel
theorem dX5_back_10 : decode cX5_back 10 = .ok (.aload_n 0, 1) := by decide +kernel
theorem dX5_back_11 : decode cX5_back 11 = .ok (.getfield 53, 3) := by decide +kernel
theorem dX5_back_14 : decode cX5_back 14 = .ok (.aload_n 0, 1) := by decide +kernel
theorem dX5_back_15 : decode cX5_back 15 = .ok (.getfield 60, 3) := by decide +kernel
theorem dX5_back_18 : decode cX5_back 18 = .ok (.invokevirtual 230, 3) := by decide +kernel
theorem dX5_back_21 : decode cX5_back 21 = .ok (.aload_n 0, 1) := by decide +kernel
theorem dX5_back_22 : decode cX5_back 22 = .ok (.getfield 53, 3) := by decide +kernel
theorem dX5_back_25 : decode cX5_back 25 = .ok (.getfield 63, 3) := by decide +kernel
theorem dX5_back_28 : decode cX5_back 28 = .ok (.ireturn, 1) := by decide +kernel
set_option maxRecDepth 20000 in
theorem ggX5_sheet_X5_isSheet : GoodIn wsX5_sheet wsX5_isSheet := goodIn_r _ [5, 6, 7, 4, 8] (by decide +kernel) (by decide +kernel)
set_option maxRecDepth 20000 in
theorem gX5_sheet_X5_isSheet : GoodIn wsX5_sheet (va_wsS RX5 217 yX5_isSheet wsX5_isSheet) := goodIn_app (goodIn_of _ (by decide +kernel)) ggX5_sheet_X5_isSheet
set_option maxRecDepth 20000 in
theorem ggX5_sheet_X5_isWithin : GoodIn wsX5_sheet wsX5_isWithin := goodIn_r _ [8] (by decide +kernel) (by decide +kernel)
set_option maxRecDepth 20000 in
theorem gX5_sheet_X5_isWithin : GoodIn wsX5_sheet (va_wsS RX5 81 yX5_isWithin wsX5_isWithin) := goodIn_app (goodIn_of _ (by decide +kernel)) ggX5_sheet_X5_isWithin
set_option maxRecDepth 20000 in
theorem ggX5_sheet_X1_become : GoodIn wsX5_sheet wsX1_become := goodIn_r _ [13, 14, 15, 16, 26, 27, 28] (by decide +kernel) (by decide +kernel)
set_option maxRecDepth 20000 in
theorem gX5_sheet_X1_become : GoodIn wsX5_sheet (wsV RX5 220 RX1 yX1_become wsX1_become) := goodIn_app (goodIn_of _ (by decide +kernel)) ggX5_sheet_X1_become
theorem dX5_sheet_0 : decode cX5_sheet 0 = .ok (.iload_n 1, 1) := by decide +kernel
theorem dX5_sheet_1 : decode cX5_sheet 1 = .ok (.invokestatic 217, 3) := by decide +kernel
theorem dX5_sheet_4 : decode cX5_sheet 4 = .ok (.ifCond .eq 12, 3) := by decide +kernel
theorem dX5_sheet_7 : decode cX5_sheet 7 = .ok (.iload_n 2, 1) := by decide +kernel
theorem dX5_sheet_8 : decode cX5_sheet 8 = .ok (.iconst (-1), 1) := by decide +kernel
theorem dX5_sheet_9 : decode cX5_sheet 9 = .ok (.iconst 2, 1) := by decide +kernel
theorem dX5_sheet_10 : decode cX5_sheet 10 = .ok (.invokestatic 81, 3) := by decide +kernel
theorem dX5_sheet_13 : decode cX5_sheet 13 = .ok (.ifCond .ne 6, 3) := by decide +kernel
theorem dX5_sheet_16 : decode cX5_sheet 16 = .ok (.bipush (-2), 2) := by decide +kernel
theorem dX5_sheet_18 : decode cX5_sheet 18 = .ok (.ireturn, 1) := by decide +kernel
theorem dX5_sheet_19 : decode cX5_sheet 19 = .ok (.iload_n 2, 1) := by decide +kernel
theorem dX5_sheet_20 : decode cX5_sheet 20 = .ok (.iconst (-1), 1) := by decide +kernel
theorem dX5_sheet_21 : decode cX5_sheet 21 = .ok (.if_icmp .ne 16, 3) := by decide +kernel
theorem dX5_sheet_24 : decode cX5_sheet 24 = .ok (.aload_n 0, 1) := by decide +kernel
theorem dX5_sheet_25 : decode cX5_sheet 25 = .ok (.getfield 17, 3) := by decide +kernel
theorem dX5_sheet_28 : decode cX5_sheet 28 = .ok (.iload_n 1, 1) := by decide +kernel
theorem dX5_sheet_29 : decode cX5_sheet 29 = .ok (.aaload, 1) := by decide +kernel
theorem dX5_sheet_30 : decode cX5_sheet 30 = .ok (.iload_n 2, 1) := by decide +kernel
theorem dX5_sheet_31 : decode cX5_sheet 31 = .ok (.iconst 0, 1) := by decide +kernel
theorem dX5_sheet_32 : decode cX5_sheet 32 = .ok (.invokevirtual 220, 3) := by decide +kernel
theorem dX5_sheet_35 : decode cX5_sheet 35 = .ok (.iconst 1, 1) := by decide +kernel
theorem dX5_sheet_36 : decode cX5_sheet 36 = .ok (.ireturn, 1) := by decide +kernel
theorem dX5_sheet_37 : decode cX5_sheet 37 = .ok (.iload_n 3, 1) := by decide +kernel
theorem dX5_sheet_38 : decode cX5_sheet 38 = .ok (.bipush 40, 2) := by decide +kernel
theorem dX5_sheet_40 : decode cX5_sheet 40 = .ok (.if_icmp .le 6, 3) := by decide +kernel
theorem dX5_sheet_43 : decode cX5_sheet 43 = .ok (.bipush (-2), 2) := by decide +kernel
theorem dX5_sheet_45 : decode cX5_sheet 45 = .ok (.ireturn, 1) := by decide +kernel
theorem dX5_sheet_46 : decode cX5_sheet 46 = .ok (.iload_n 3, 1) := by decide +kernel
theorem dX5_sheet_47 : decode cX5_sheet 47 = .ok (.ifCond .ge 6, 3) := by decide +kernel
theorem dX5_sheet_50 : decode cX5_sheet 50 = .ok (.bipush (-14), 2) := by decide +kernel
theorem dX5_sheet_52 : decode cX5_sheet 52 = .ok (.ireturn, 1) := by decide +kernel
theorem dX5_sheet_53 : decode cX5_sheet 53 = .ok (.aload_n 0, 1) := by decide +kernel
theorem dX5_sheet_54 : decode cX5_sheet 54 = .ok (.getfield 17, 3) := by decide +kernel
theorem dX5_sheet_57 : decode cX5_sheet 57 = .ok (.iload_n 1, 1) := by decide +kernel
theorem dX5_sheet_58 : decode cX5_sheet 58 = .ok (.aaload, 1) := by decide +kernel
theorem dX5_sheet_59 : decode cX5_sheet 59 = .ok (.iload_n 2, 1) := by decide +kernel
theorem dX5_sheet_60 : decode cX5_sheet 60 = .ok (.iload_n 3, 1) := by decide +kernel
theorem dX5_sheet_61 : decode cX5_sheet 61 = .ok (.invokevirtual 220, 3) := by decide +kernel
theorem dX5_sheet_64 : decode cX5_sheet 64 = .ok (.iconst 1, 1) := by decide +kernel
theorem dX5_sheet_65 : decode cX5_sheet 65 = .ok (.ireturn, 1) := by decide +kernel
set_option maxRecDepth 20000 in
theorem ggX5_cell_X5_isSheet : GoodIn wsX5_cell wsX5_isSheet := goodIn_r _ [5, 6, 7, 4, 8] (by decide +kernel) (by decide +kernel)
set_option maxRecDepth 20000 in
theorem gX5_cell_X5_isSheet : GoodIn wsX5_cell (va_wsS RX5 217 yX5_isSheet wsX5_isSheet) := goodIn_app (goodIn_of _ (by decide +kernel)) ggX5_cell_X5_isSheet
set_option maxRecDepth 20000 in
theorem ggX5_cell_X1_isMissing : GoodIn wsX5_cell wsX1_isMissing := goodIn_r _ [13, 14, 34, 35, 36] (by decide +kernel) (by decide +kernel)
set_option maxRecDepth 20000 in
theorem gX5_cell_X1_isMissing : GoodIn wsX5_cell (wsV RX5 232 RX1 yX1_isMissing wsX1_isMissing) := goodIn_app (goodIn_of _ (by decide +kernel)) ggX5_cell_X1_isMissing
set_option maxRecDepth 20000 in
theorem ggX5_cell_X1_has : GoodIn wsX5_cell wsX1_has := goodIn_r _ [18, 19, 34, 35, 36] (by decide +kernel) (by decide +kernel)
set_option maxRecDepth 20000 in
theorem gX5_cell_X1_has : GoodIn wsX5_cell (wsV RX5 236 RX1 yX1_has wsX1_has) := goodIn_app (goodIn_of _ (by decide +kernel)) ggX5_cell_X1_has
set_option maxRecDepth 20000 in
theorem ggX5_cell_X1_write : GoodIn wsX5_cell wsX1_write := goodIn_r _ [23, 24, 14, 34, 35, 36] (by decide +kernel) (by decide +kernel)
set_option maxRecDepth 20000 in
theorem gX5_cell_X1_write : GoodIn wsX5_cell (wsV RX5 223 RX1 yX1_write wsX1_write) := goodIn_app (goodIn_of _ (by decide +kernel)) ggX5_cell_X1_write
theorem dX5_cell_0 : decode cX5_cell 0 = .ok (.iload_n 1, 1) := by decide +kernel
theorem dX5_cell_1 : decode cX5_cell 1 = .ok (.invokestatic 217, 3) := by decide +kernel
theorem dX5_cell_4 : decode cX5_cell 4 = .ok (.ifCond .ne 6, 3) := by decide +kernel
theorem dX5_cell_7 : decode cX5_cell 7 = .ok (.bipush (-2), 2) := by decide +kernel
theorem dX5_cell_9 : decode cX5_cell 9 = .ok (.ireturn, 1) := by decide +kernel
theorem dX5_cell_10 : decode cX5_cell 10 = .ok (.aload_n 0, 1) := by decide +kernel
theorem dX5_cell_11 : decode cX5_cell 11 = .ok (.getfield 17, 3) := by decide +kernel
theorem dX5_cell_14 : decode cX5_cell 14 = .ok (.iload_n 1, 1) := by decide +kernel
theorem dX5_cell_15 : decode cX5_cell 15 = .ok (.aaload, 1) := by decide +kernel
theorem dX5_cell_16 : decode cX5_cell 16 = .ok (.astore 4, 2) := by decide +kernel
theorem dX5_cell_18 : decode cX5_cell 18 = .ok (.aload 4, 2) := by decide +kernel
theorem dX5_cell_20 : decode cX5_cell 20 = .ok (.invokevirtual 232, 3) := by decide +kernel
theorem dX5_cell_23 : decode cX5_cell 23 = .ok (.ifCond .eq 6, 3) := by decide +kernel
theorem dX5_cell_26 : decode cX5_cell 26 = .ok (.bipush (-11), 2) := by decide +kernel
theorem dX5_cell_28 : decode cX5_cell 28 = .ok (.ireturn, 1) := by decide +kernel
theorem dX5_cell_29 : decode cX5_cell 29 = .ok (.aload 4, 2) := by decide +kernel
theorem dX5_cell_31 : decode cX5_cell 31 = .ok (.iload_n 2, 1) := by decide +kernel
theorem dX5_cell_32 : decode cX5_cell 32 = .ok (.iconst 1, 1) := by decide +kernel
theorem dX5_cell_33 : decode cX5_cell 33 = .ok (.invokevirtual 236, 3) := by decide +kernel
theorem dX5_cell_36 : decode cX5_cell 36 = .ok (.ifCond .ne 6, 3) := by decide +kernel
theorem dX5_cell_39 : decode cX5_cell 39 = .ok (.bipush (-12), 2) := by decide +kernel
theorem dX5_cell_41 : decode cX5_cell 41 = .ok (.ireturn, 1) := by decide +kernel
theorem dX5_cell_42 : decode cX5_cell 42 = .ok (.aload 4, 2) := by decide +kernel
theorem dX5_cell_44 : decode cX5_cell 44 = .ok (.iload_n 2, 1) := by decide +kernel
theorem dX5_cell_45 : decode cX5_cell 45 = .ok (.iload_n 3, 1) := by decide +kernel
theorem dX5_cell_46 : decode cX5_cell 46 = .ok (.invokevirtual 223, 3) := by decide +kernel
theorem dX5_cell_49 : decode cX5_cell 49 = .ok (.iconst 1, 1) := by decide +kernel
theorem dX5_cell_50 : decode cX5_cell 50 = .ok (.ireturn, 1) := by decide +kernel
set_option maxRecDepth 20000 in
theorem ggX5_copy_X5_isSheet : GoodIn wsX5_copy wsX5_isSheet := goodIn_r _ [11, 12, 13, 10, 14] (by decide +kernel) (by decide +kernel)
set_option maxRecDepth 20000 in
theorem gX5_copy_X5_isSheet : GoodIn wsX5_copy (va_wsS RX5 217 yX5_isSheet wsX5_isSheet) := goodIn_app (goodIn_of _ (by decide +kernel)) ggX5_copy_X5_isSheet
set_option maxRecDepth 20000 in
theorem ggX5_copy_X1_isMissing : GoodIn wsX5_copy wsX1_isMissing := goodIn_r _ [19, 20, 35, 36, 37] (by decide +kernel) (by decide +kernel)
set_option maxRecDepth 20000 in
theorem gX5_copy_X1_isMissing : GoodIn wsX5_copy (wsV RX5 232 RX1 yX1_isMissing wsX1_isMissing) := goodIn_app (goodIn_of _ (by decide +kernel)) ggX5_copy_X1_isMissing
set_option maxRecDepth 20000 in
theorem ggX5_copy_X1_has : GoodIn wsX5_copy wsX1_has := goodIn_r _ [24, 25, 35, 36, 37] (by decide +kernel) (by decide +kernel)
set_option maxRecDepth 20000 in
theorem gX5_copy_X1_has : GoodIn wsX5_copy (wsV RX5 236 RX1 yX1_has wsX1_has) := goodIn_app (goodIn_of _ (by decide +kernel)) ggX5_copy_X1_has
theorem dX5_copy_0 : decode cX5_copy 0 = .ok (.iload_n 1, 1) := by decide +kernel
theorem dX5_copy_1 : decode cX5_copy 1 = .ok (.invokestatic 217, 3) := by decide +kernel
theorem dX5_copy_4 : decode cX5_copy 4 = .ok (.ifCond .eq 10, 3) := by decide +kernel
theorem dX5_copy_7 : decode cX5_copy 7 = .ok (.iload_n 3, 1) := by decide +kernel
theorem dX5_copy_8 : decode cX5_copy 8 = .ok (.invokestatic 217, 3) := by decide +kernel
theorem dX5_copy_11 : decode cX5_copy 11 = .ok (.ifCond .ne 6, 3) := by decide +kernel
theorem dX5_copy_14 : decode cX5_copy 14 = .ok (.bipush (-2), 2) := by decide +kernel
theorem dX5_copy_16 : decode cX5_copy 16 = .ok (.ireturn, 1) := by decide +kernel
theorem dX5_copy_17 : decode cX5_copy 17 = .ok (.aload_n 0, 1) := by decide +kernel
theorem dX5_copy_18 : decode cX5_copy 18 = .ok (.getfield 17, 3) := by decide +kernel
theorem dX5_copy_21 : decode cX5_copy 21 = .ok (.iload_n 1, 1) := by decide +kernel
theorem dX5_copy_22 : decode cX5_copy 22 = .ok (.aaload, 1) := by decide +kernel
theorem dX5_copy_23 : decode cX5_copy 23 = .ok (.astore 6, 2) := by decide +kernel
theorem dX5_copy_25 : decode cX5_copy 25 = .ok (.aload_n 0, 1) := by decide +kernel
theorem dX5_copy_26 : decode cX5_copy 26 = .ok (.getfield 17, 3) := by decide +kernel
theorem dX5_copy_29 : decode cX5_copy 29 = .ok (.iload_n 3, 1) := by decide +kernel
theorem dX5_copy_30 : decode cX5_copy 30 = .ok (.aaload, 1) := by decide +kernel
theorem dX5_copy_31 : decode cX5_copy 31 = .ok (.astore 7, 2) := by decide +kernel
theorem dX5_copy_33 : decode cX5_copy 33 = .ok (.aload 6, 2) := by decide +kernel
theorem dX5_copy_35 : decode cX5_copy 35 = .ok (.invokevirtual 232, 3) := by decide +kernel
theorem dX5_copy_38 : decode cX5_copy 38 = .ok (.ifCond .ne 11, 3) := by decide +kernel
theorem dX5_copy_41 : decode cX5_copy 41 = .ok (.aload 7, 2) := by decide +kernel
theorem dX5_copy_43 : decode cX5_copy 43 = .ok (.invokevirtual 232, 3) := by decide +kernel
theorem dX5_copy_46 : decode cX5_copy 46 = .ok (.ifCond .eq 6, 3) := by decide +kernel
theorem dX5_copy_49 : decode cX5_copy 49 = .ok (.bipush (-11), 2) := by decide +kernel
theorem dX5_copy_51 : decode cX5_copy 51 = .ok (.ireturn, 1) := by decide +kernel
theorem dX5_copy_52 : decode cX5_copy 52 = .ok (.aload 6, 2) := by decide +kernel
theorem dX5_copy_54 : decode cX5_copy 54 = .ok (.getfield 239, 3) := by decide +kernel
theorem dX5_copy_57 : decode cX5_copy 57 = .ok (.aload 7, 2) := by decide +kernel
theorem dX5_copy_59 : decode cX5_copy 59 = .ok (.getfield 239, 3) := by decide +kernel
theorem dX5_copy_62 : decode cX5_copy 62 = .ok (.if_icmp .eq 6, 3) := by decide +kernel
theorem dX5_copy_65 : decode cX5_copy 65 = .ok (.bipush (-13), 2) := by decide +kernel
theorem dX5_copy_67 : decode cX5_copy 67 = .ok (.ireturn, 1) := by decide +kernel
theorem dX5_copy_68 : decode cX5_copy 68 = .ok (.aload 6, 2) := by decide +kernel
theorem dX5_copy_70 : decode cX5_copy 70 = .ok (.iload_n 2, 1) := by decide +kernel
theorem dX5_copy_71 : decode cX5_copy 71 = .ok (.iload 5, 2) := by decide +kernel
theorem dX5_copy_73 : decode cX5_copy 73 = .ok (.invokevirtual 236, 3) := by decide +kernel
theorem dX5_copy_76 : decode cX5_copy 76 = .ok (.ifCond .eq 15, 3) := by decide +kernel
theorem dX5_copy_79 : decode cX5_copy 79 = .ok (.aload 7, 2) := by decide +kernel
theorem dX5_copy_81 : decode cX5_copy 81 = .ok (.iload 4, 2) := by decide +kernel
theorem dX5_copy_83 : decode cX5_copy 83 = .ok (.iload 5, 2) := by decide +kernel
theorem dX5_copy_85 : decode cX5_copy 85 = .ok (.invokevirtual 236, 3) := by decide +kernel
theorem dX5_copy_88 : decode cX5_copy 88 = .ok (.ifCond .ne 6, 3) := by decide +kernel
theorem dX5_copy_91 : decode cX5_copy 91 = .ok (.bipush (-12), 2) := by decide +kernel
theorem dX5_copy_93 : decode cX5_copy 93 = .ok (.ireturn, 1) := by decide +kernel
theorem dX5_copy_94 : decode cX5_copy 94 = .ok (.aload 6, 2) := by decide +kernel
theorem dX5_copy_96 : decode cX5_copy 96 = .ok (.getfield 242, 3) := by decide +kernel
theorem dX5_copy_99 : decode cX5_copy 99 = .ok (.iload_n 2, 1) := by decide +kernel
theorem dX5_copy_100 : decode cX5_copy 100 = .ok (.aload 7, 2) := by decide +kernel
theorem dX5_copy_102 : decode cX5_copy 102 = .ok (.getfield 242, 3) := by decide +kernel
theorem dX5_copy_105 : decode cX5_copy 105 = .ok (.iload 4, 2) := by decide +kernel
theorem dX5_copy_107 : decode cX5_copy 107 = .ok (.iload 5, 2) := by decide +kernel
theorem dX5_copy_109 : decode cX5_copy 109 = .ok (.invokestatic 245, 3) := by decide +kernel
theorem dX5_copy_112 : decode cX5_copy 112 = .ok (.iload 5, 2) := by decide +kernel
theorem dX5_copy_114 : decode cX5_copy 114 = .ok (.ireturn, 1) := by decide +kernel
set_option maxRecDepth 20000 in
theorem ggX5_townBy_X5_isSheet : GoodIn wsX5_townBy wsX5_isSheet := goodIn_r _ [8, 9, 10, 7, 11] (by decide +kernel) (by decide +kernel)
set_option maxRecDepth 20000 in
theorem gX5_townBy_X5_isSheet : GoodIn wsX5_townBy (va_wsS RX5 217 yX5_isSheet wsX5_isSheet) := goodIn_app (goodIn_of _ (by decide +kernel)) ggX5_townBy_X5_isSheet
set_option maxRecDepth 20000 in
theorem ggX5_townBy_X5_isWithin : GoodIn wsX5_townBy wsX5_isWithin := goodIn_r _ [11] (by decide +kernel) (by decide +kernel)
set_option maxRecDepth 20000 in
theorem gX5_townBy_X5_isWithin : GoodIn wsX5_townBy (va_wsS RX5 81 yX5_isWithin wsX5_isWithin) := goodIn_app (goodIn_of _ (by decide +kernel)) ggX5_townBy_X5_isWithin
set_option maxRecDepth 20000 in
theorem ggX5_townBy_X1_isMissing : GoodIn wsX5_townBy wsX1_isMissing := goodIn_r _ [16, 17, 45, 46, 47] (by decide +kernel) (by decide +kernel)
set_option maxRecDepth 20000 in
theorem gX5_townBy_X1_isMissing : GoodIn wsX5_townBy (wsV RX5 232 RX1 yX1_isMissing wsX1_isMissing) := goodIn_app (goodIn_of _ (by decide +kernel)) ggX5_townBy_X1_isMissing
set_option maxRecDepth 20000 in
theorem ggX5_townBy_X1_has : GoodIn wsX5_townBy wsX1_has := goodIn_r _ [21, 22, 45, 46, 47] (by decide +kernel) (by decide +kernel)
set_option maxRecDepth 20000 in
theorem gX5_townBy_X1_has : GoodIn wsX5_townBy (wsV RX5 236 RX1 yX1_has wsX1_has) := goodIn_app (goodIn_of _ (by decide +kernel)) ggX5_townBy_X1_has
set_option maxRecDepth 20000 in
theorem ggX5_townBy_X4_join : GoodIn wsX5_townBy wsX4_join := goodIn_r _ [27, 28, 29, 30, 31, 32, 33, 34, 35, 10, 7, 11, 48, 49, 50, 51, 52, 53, 54, 55, 56, 57, 58, 59] (by decide +kernel) (by decide +kernel)
set_option maxRecDepth 20000 in
theorem gX5_townBy_X4_join : GoodIn wsX5_townBy (wsV RX5 112 RX4 yX4_join wsX4_join) := goodIn_app (goodIn_of _ (by decide +kernel)) ggX5_townBy_X4_join
theorem dX5_townBy_0 : decode cX5_townBy 0 = .ok (.iload_n 1, 1) := by decide +kernel
theorem dX5_townBy_1 : decode cX5_townBy 1 = .ok (.invokestatic 217, 3) := by decide +kernel
theorem dX5_townBy_4 : decode cX5_townBy 4 = .ok (.ifCond .eq 23, 3) := by decide +kernel
theorem dX5_townBy_7 : decode cX5_townBy 7 = .ok (.iload_n 2, 1) := by decide +kernel
theorem dX5_townBy_8 : decode cX5_townBy 8 = .ok (.iconst 0, 1) := by decide +kernel
theorem dX5_townBy_9 : decode cX5_townBy 9 = .ok (.iconst 2, 1) := by decide +kernel
theorem dX5_townBy_10 : decode cX5_townBy 10 = .ok (.invokestatic 81, 3) := by decide +kernel
theorem dX5_townBy_13 : decode cX5_townBy 13 = .ok (.ifCond .eq 14, 3) := by decide +kernel
theorem dX5_townBy_16 : decode cX5_townBy 16 = .ok (.iload 4, 2) := by decide +kernel
theorem dX5_townBy_18 : decode cX5_townBy 18 = .ok (.iconst 0, 1) := by decide +kernel
theorem dX5_townBy_19 : decode cX5_townBy 19 = .ok (.bipush 6, 2) := by decide +kernel
theorem dX5_townBy_21 : decode cX5_townBy 21 = .ok (.invokestatic 81, 3) := by decide +kernel
theorem dX5_townBy_24 : decode cX5_townBy 24 = .ok (.ifCond .ne 6, 3) := by decide +kernel
theorem dX5_townBy_27 : decode cX5_townBy 27 = .ok (.bipush (-2), 2) := by decide +kernel
theorem dX5_townBy_29 : decode cX5_townBy 29 = .ok (.ireturn, 1) := by decide +kernel
theorem dX5_townBy_30 : decode cX5_townBy 30 = .ok (.aload_n 0, 1) := by decide +kernel
theorem dX5_townBy_31 : decode cX5_townBy 31 = .ok (.getfield 17, 3) := by decide +kernel
theorem dX5_townBy_34 : decode cX5_townBy 34 = .ok (.iload_n 1, 1) := by decide +kernel
theorem dX5_townBy_35 : decode cX5_townBy 35 = .ok (.aaload, 1) := by decide +kernel
theorem dX5_townBy_36 : decode cX5_townBy 36 = .ok (.astore 5, 2) := by decide +kernel
theorem dX5_townBy_38 : decode cX5_townBy 38 = .ok (.aload 5, 2) := by decide +kernel
theorem dX5_townBy_40 : decode cX5_townBy 40 = .ok (.invokevirtual 232, 3) := by decide +kernel
theorem dX5_townBy_43 : decode cX5_townBy 43 = .ok (.ifCond .eq 6, 3) := by decide +kernel
theorem dX5_townBy_46 : decode cX5_townBy 46 = .ok (.bipush (-11), 2) := by decide +kernel
theorem dX5_townBy_48 : decode cX5_townBy 48 = .ok (.ireturn, 1) := by decide +kernel
theorem dX5_townBy_49 : decode cX5_townBy 49 = .ok (.aload 5, 2) := by decide +kernel
theorem dX5_townBy_51 : decode cX5_townBy 51 = .ok (.getfield 239, 3) := by decide +kernel
theorem dX5_townBy_54 : decode cX5_townBy 54 = .ok (.iload_n 2, 1) := by decide +kernel
theorem dX5_townBy_55 : decode cX5_townBy 55 = .ok (.if_icmp .eq 6, 3) := by decide +kernel
theorem dX5_townBy_58 : decode cX5_townBy 58 = .ok (.bipush (-13), 2) := by decide +kernel
theorem dX5_townBy_60 : decode cX5_townBy 60 = .ok (.ireturn, 1) := by decide +kernel
theorem dX5_townBy_61 : decode cX5_townBy 61 = .ok (.iconst 0, 1) := by decide +kernel
theorem dX5_townBy_62 : decode cX5_townBy 62 = .ok (.istore 6, 2) := by decide +kernel
theorem dX5_townBy_64 : decode cX5_townBy 64 = .ok (.iconst 0, 1) := by decide +kernel
theorem dX5_townBy_65 : decode cX5_townBy 65 = .ok (.istore 7, 2) := by decide +kernel
theorem dX5_townBy_67 : decode cX5_townBy 67 = .ok (.iload 7, 2) := by decide +kernel
theorem dX5_townBy_69 : decode cX5_townBy 69 = .ok (.iload 4, 2) := by decide +kernel
theorem dX5_townBy_71 : decode cX5_townBy 71 = .ok (.if_icmp .ge 72, 3) := by decide +kernel
theorem dX5_townBy_74 : decode cX5_townBy 74 = .ok (.iload_n 3, 1) := by decide +kernel
theorem dX5_townBy_75 : decode cX5_townBy 75 = .ok (.iconst 3, 1) := by decide +kernel
theorem dX5_townBy_76 : decode cX5_townBy 76 = .ok (.iload 7, 2) := by decide +kernel
theorem dX5_townBy_78 : decode cX5_townBy 78 = .ok (.imul, 1) := by decide +kernel
theorem dX5_townBy_79 : decode cX5_townBy 79 = .ok (.iadd, 1) := by decide +kernel
theorem dX5_townBy_80 : decode cX5_townBy 80 = .ok (.istore 8, 2) := by decide +kernel
theorem dX5_townBy_82 : decode cX5_townBy 82 = .ok (.aload 5, 2) := by decide +kernel
theorem dX5_townBy_84 : decode cX5_townBy 84 = .ok (.iload 8, 2) := by decide +kernel
theorem dX5_townBy_86 : decode cX5_townBy 86 = .ok (.iconst 3, 1) := by decide +kernel
theorem dX5_townBy_87 : decode cX5_townBy 87 = .ok (.invokevirtual 236, 3) := by decide +kernel
theorem dX5_townBy_90 : decode cX5_townBy 90 = .ok (.ifCond .ne 6, 3) := by decide +kernel
theorem dX5_townBy_93 : decode cX5_townBy 93 = .ok (.bipush (-12), 2) := by decide +kernel
theorem dX5_townBy_95 : decode cX5_townBy 95 = .ok (.ireturn, 1) := by decide +kernel
theorem dX5_townBy_96 : decode cX5_townBy 96 = .ok (.aload_n 0, 1) := by decide +kernel
theorem dX5_townBy_97 : decode cX5_townBy 97 = .ok (.getfield 53, 3) := by decide +kernel
theorem dX5_townBy_100 : decode cX5_townBy 100 = .ok (.aload 5, 2) := by decide +kernel
theorem dX5_townBy_102 : decode cX5_townBy 102 = .ok (.getfield 242, 3) := by decide +kernel
theorem dX5_townBy_105 : decode cX5_townBy 105 = .ok (.iload 8, 2) := by decide +kernel
theorem dX5_townBy_107 : decode cX5_townBy 107 = .ok (.iaload, 1) := by decide +kernel
theorem dX5_townBy_108 : decode cX5_townBy 108 = .ok (.aload 5, 2) := by decide +kernel
theorem dX5_townBy_110 : decode cX5_townBy 110 = .ok (.getfield 242, 3) := by decide +kernel
theorem dX5_townBy_113 : decode cX5_townBy 113 = .ok (.iload 8, 2) := by decide +kernel
theorem dX5_townBy_115 : decode cX5_townBy 115 = .ok (.iconst 1, 1) := by decide +kernel
theorem dX5_townBy_116 : decode cX5_townBy 116 = .ok (.iadd, 1) := by decide +kernel
theorem dX5_townBy_117 : decode cX5_townBy 117 = .ok (.iaload, 1) := by decide +kernel
theorem dX5_townBy_118 : decode cX5_townBy 118 = .ok (.aload 5, 2) := by decide +kernel
theorem dX5_townBy_120 : decode cX5_townBy 120 = .ok (.getfield 242, 3) := by decide +kernel
theorem dX5_townBy_123 : decode cX5_townBy 123 = .ok (.iload 8, 2) := by decide +kernel
theorem dX5_townBy_125 : decode cX5_townBy 125 = .ok (.iconst 2, 1) := by decide +kernel
theorem dX5_townBy_126 : decode cX5_townBy 126 = .ok (.iadd, 1) := by decide +kernel
theorem dX5_townBy_127 : decode cX5_townBy 127 = .ok (.iaload, 1) := by decide +kernel
theorem dX5_townBy_128 : decode cX5_townBy 128 = .ok (.invokevirtual 112, 3) := by decide +kernel
theorem dX5_townBy_131 : decode cX5_townBy 131 = .ok (.ifCond .lt 6, 3) := by decide +kernel
theorem dX5_townBy_134 : decode cX5_townBy 134 = .ok (.iinc 6 1, 3) := by decide +kernel
theorem dX5_townBy_137 : decode cX5_townBy 137 = .ok (.iinc 7 1, 3) := by decide +kernel
theorem dX5_townBy_140 : decode cX5_townBy 140 = .ok (.goto (-73), 3) := by decide +kernel
theorem dX5_townBy_143 : decode cX5_townBy 143 = .ok (.iload 6, 2) := by decide +kernel
theorem dX5_townBy_145 : decode cX5_townBy 145 = .ok (.ireturn, 1) := by decide +kernel
set_option maxRecDepth 20000 in
theorem ggX5_taken_X5_isWithin : GoodIn wsX5_taken wsX5_isWithin := goodIn_r _ [7] (by decide +kernel) (by decide +kernel)
set_option maxRecDepth 20000 in
theorem gX5_taken_X5_isWithin : GoodIn wsX5_taken (va_wsS RX5 81 yX5_isWithin wsX5_isWithin) := goodIn_app (goodIn_of _ (by decide +kernel)) ggX5_taken_X5_isWithin
set_option maxRecDepth 20000 in
theorem ggX5_taken_X4_has : GoodIn wsX5_taken wsX4_has := goodIn_r _ [12, 13, 26, 27, 28, 29, 30, 31, 32, 33, 34, 35, 36, 37] (by decide +kernel) (by decide +kernel)
set_option maxRecDepth 20000 in
theorem gX5_taken_X4_has : GoodIn wsX5_taken (wsV RX5 101 RX4 yX4_has wsX4_has) := goodIn_app (goodIn_of _ (by decide +kernel)) ggX5_taken_X4_has
set_option maxRecDepth 20000 in
theorem ggX5_taken_X5_isKindOf : GoodIn wsX5_taken wsX5_isKindOf := goodIn_r _ [16] (by decide +kernel) (by decide +kernel)
set_option maxRecDepth 20000 in
theorem gX5_taken_X5_isKindOf : GoodIn wsX5_taken (va_wsS RX5 254 yX5_isKindOf wsX5_isKindOf) := goodIn_app (goodIn_of _ (by decide +kernel)) ggX5_taken_X5_isKindOf
theorem dX5_taken_0 : decode cX5_taken 0 = .ok (.iload_n 2, 1) := by decide +kernel
theorem dX5_taken_1 : decode cX5_taken 1 = .ok (.iconst 0, 1) := by decide +kernel
theorem dX5_taken_2 : decode cX5_taken 2 = .ok (.bipush 6, 2) := by decide +kernel
theorem dX5_taken_4 : decode cX5_taken 4 = .ok (.invokestatic 81, 3) := by decide +kernel
theorem dX5_taken_7 : decode cX5_taken 7 = .ok (.ifCond .ne 6, 3) := by decide +kernel
theorem dX5_taken_10 : decode cX5_taken 10 = .ok (.bipush (-2), 2) := by decide +kernel
theorem dX5_taken_12 : decode cX5_taken 12 = .ok (.ireturn, 1) := by decide +kernel
theorem dX5_taken_13 : decode cX5_taken 13 = .ok (.iload_n 1, 1) := by decide +kernel
theorem dX5_taken_14 : decode cX5_taken 14 = .ok (.iconst 0, 1) := by decide +kernel
theorem dX5_taken_15 : decode cX5_taken 15 = .ok (.bipush 11, 2) := by decide +kernel
theorem dX5_taken_17 : decode cX5_taken 17 = .ok (.invokestatic 81, 3) := by decide +kernel
theorem dX5_taken_20 : decode cX5_taken 20 = .ok (.ifCond .ne 6, 3) := by decide +kernel
theorem dX5_taken_23 : decode cX5_taken 23 = .ok (.bipush (-12), 2) := by decide +kernel
theorem dX5_taken_25 : decode cX5_taken 25 = .ok (.ireturn, 1) := by decide +kernel
theorem dX5_taken_26 : decode cX5_taken 26 = .ok (.iload_n 1, 1) := by decide +kernel
theorem dX5_taken_27 : decode cX5_taken 27 = .ok (.bipush 6, 2) := by decide +kernel
theorem dX5_taken_29 : decode cX5_taken 29 = .ok (.if_icmp .lt 7, 3) := by decide +kernel
theorem dX5_taken_32 : decode cX5_taken 32 = .ok (.iconst 1, 1) := by decide +kernel
theorem dX5_taken_33 : decode cX5_taken 33 = .ok (.goto 4, 3) := by decide +kernel
theorem dX5_taken_36 : decode cX5_taken 36 = .ok (.iconst 0, 1) := by decide +kernel
theorem dX5_taken_37 : decode cX5_taken 37 = .ok (.istore_n 3, 1) := by decide +kernel
theorem dX5_taken_38 : decode cX5_taken 38 = .ok (.iload_n 3, 1) := by decide +kernel
theorem dX5_taken_39 : decode cX5_taken 39 = .ok (.ifCond .eq 10, 3) := by decide +kernel
theorem dX5_taken_42 : decode cX5_taken 42 = .ok (.iload_n 1, 1) := by decide +kernel
theorem dX5_taken_43 : decode cX5_taken 43 = .ok (.bipush 6, 2) := by decide +kernel
theorem dX5_taken_45 : decode cX5_taken 45 = .ok (.isub, 1) := by decide +kernel
theorem dX5_taken_46 : decode cX5_taken 46 = .ok (.goto 4, 3) := by decide +kernel
theorem dX5_taken_49 : decode cX5_taken 49 = .ok (.iload_n 1, 1) := by decide +kernel
theorem dX5_taken_50 : decode cX5_taken 50 = .ok (.istore 4, 2) := by decide +kernel
theorem dX5_taken_52 : decode cX5_taken 52 = .ok (.aload_n 0, 1) := by decide +kernel
theorem dX5_taken_53 : decode cX5_taken 53 = .ok (.getfield 53, 3) := by decide +kernel
theorem dX5_taken_56 : decode cX5_taken 56 = .ok (.iload 4, 2) := by decide +kernel
theorem dX5_taken_58 : decode cX5_taken 58 = .ok (.invokevirtual 101, 3) := by decide +kernel
theorem dX5_taken_61 : decode cX5_taken 61 = .ok (.ifCond .ne 6, 3) := by decide +kernel
theorem dX5_taken_64 : decode cX5_taken 64 = .ok (.bipush (-11), 2) := by decide +kernel
theorem dX5_taken_66 : decode cX5_taken 66 = .ok (.ireturn, 1) := by decide +kernel
theorem dX5_taken_67 : decode cX5_taken 67 = .ok (.iload_n 3, 1) := by decide +kernel
theorem dX5_taken_68 : decode cX5_taken 68 = .ok (.ifCond .eq 25, 3) := by decide +kernel
theorem dX5_taken_71 : decode cX5_taken 71 = .ok (.iload_n 2, 1) := by decide +kernel
theorem dX5_taken_72 : decode cX5_taken 72 = .ok (.bipush 6, 2) := by decide +kernel
theorem dX5_taken_74 : decode cX5_taken 74 = .ok (.if_icmp .ne 16, 3) := by decide +kernel
theorem dX5_taken_77 : decode cX5_taken 77 = .ok (.aload_n 0, 1) := by decide +kernel
theorem dX5_taken_78 : decode cX5_taken 78 = .ok (.getfield 53, 3) := by decide +kernel
theorem dX5_taken_81 : decode cX5_taken 81 = .ok (.getfield 251, 3) := by decide +kernel
theorem dX5_taken_84 : decode cX5_taken 84 = .ok (.iload 4, 2) := by decide +kernel
theorem dX5_taken_86 : decode cX5_taken 86 = .ok (.iaload, 1) := by decide +kernel
theorem dX5_taken_87 : decode cX5_taken 87 = .ok (.goto 5, 3) := by decide +kernel
theorem dX5_taken_90 : decode cX5_taken 90 = .ok (.bipush (-13), 2) := by decide +kernel
theorem dX5_taken_92 : decode cX5_taken 92 = .ok (.ireturn, 1) := by decide +kernel
theorem dX5_taken_93 : decode cX5_taken 93 = .ok (.aload_n 0, 1) := by decide +kernel
theorem dX5_taken_94 : decode cX5_taken 94 = .ok (.getfield 53, 3) := by decide +kernel
theorem dX5_taken_97 : decode cX5_taken 97 = .ok (.getfield 128, 3) := by decide +kernel
theorem dX5_taken_100 : decode cX5_taken 100 = .ok (.iload 4, 2) := by decide +kernel
theorem dX5_taken_102 : decode cX5_taken 102 = .ok (.iaload, 1) := by decide +kernel
theorem dX5_taken_103 : decode cX5_taken 103 = .ok (.iload_n 2, 1) := by decide +kernel
theorem dX5_taken_104 : decode cX5_taken 104 = .ok (.invokestatic 254, 3) := by decide +kernel
theorem dX5_taken_107 : decode cX5_taken 107 = .ok (.ifCond .eq 8, 3) := by decide +kernel
theorem dX5_taken_110 : decode cX5_taken 110 = .ok (.iload 4, 2) := by decide +kernel
theorem dX5_taken_112 : decode cX5_taken 112 = .ok (.goto 5, 3) := by decide +kernel
theorem dX5_taken_115 : decode cX5_taken 115 = .ok (.bipush (-13), 2) := by decide +kernel
theorem dX5_taken_117 : decode cX5_taken 117 = .ok (.ireturn, 1) := by decide +kernel
theorem dX5_isWithin_0 : decode cX5_isWithin 0 = .ok (.iload_n 0, 1) := by decide +kernel
theorem dX5_isWithin_1 : decode cX5_isWithin 1 = .ok (.iload_n 1, 1) := by decide +kernel
theorem dX5_isWithin_2 : decode cX5_isWithin 2 = .ok (.if_icmp .lt 12, 3) := by decide +kernel
theorem dX5_isWithin_5 : decode cX5_isWithin 5 = .ok (.iload_n 0, 1) := by decide +kernel
theorem dX5_isWithin_6 : decode cX5_isWithin 6 = .ok (.iload_n 2, 1) := by decide +kernel
theorem dX5_isWithin_7 : decode cX5_isWithin 7 = .ok (.if_icmp .gt 7, 3) := by decide +kernel
theorem dX5_isWithin_10 : decode cX5_isWithin 10 = .ok (.iconst 1, 1) := by decide +kernel
theorem dX5_isWithin_11 : decode cX5_isWithin 11 = .ok (.goto 4, 3) := by decide +kernel
theorem dX5_isWithin_14 : decode cX5_isWithin 14 = .ok (.iconst 0, 1) := by decide +kernel
theorem dX5_isWithin_15 : decode cX5_isWithin 15 = .ok (.ireturn, 1) := by decide +kernel
set_option maxRecDepth 20000 in
theorem ggX5_isByte_X5_isWithin : GoodIn wsX5_isByte wsX5_isWithin := goodIn_r _ [4] (by decide +kernel) (by decide +kernel)
set_option maxRecDepth 20000 in
theorem gX5_isByte_X5_isWithin : GoodIn wsX5_isByte (va_wsS RX5 81 yX5_isWithin wsX5_isWithin) := goodIn_app (goodIn_of _ (by decide +kernel)) ggX5_isByte_X5_isWithin
theorem dX5_isByte_0 : decode cX5_isByte 0 = .ok (.iload_n 0, 1) := by decide +kernel
theorem dX5_isByte_1 : decode cX5_isByte 1 = .ok (.iconst 0, 1) := by decide +kernel
theorem dX5_isByte_2 : decode cX5_isByte 2 = .ok (.sipush 255, 3) := by decide +kernel
theorem dX5_isByte_5 : decode cX5_isByte 5 = .ok (.invokestatic 81, 3) := by decide +kernel
theorem dX5_isByte_8 : decode cX5_isByte 8 = .ok (.ireturn, 1) := by decide +kernel
set_option maxRecDepth 20000 in
theorem ggX5_isSheet_X5_isWithin : GoodIn wsX5_isSheet wsX5_isWithin := goodIn_r _ [4] (by decide +kernel) (by decide +kernel)
set_option maxRecDepth 20000 in
theorem gX5_isSheet_X5_isWithin : GoodIn wsX5_isSheet (va_wsS RX5 81 yX5_isWithin wsX5_isWithin) := goodIn_app (goodIn_of _ (by decide +kernel)) ggX5_isSheet_X5_isWithin
theorem dX5_isSheet_0 : decode cX5_isSheet 0 = .ok (.iload_n 0, 1) := by decide +kernel
theorem dX5_isSheet_1 : decode cX5_isSheet 1 = .ok (.iconst 0, 1) := by decide +kernel
theorem dX5_isSheet_2 : decode cX5_isSheet 2 = .ok (.iconst 3, 1) := by decide +kernel
theorem dX5_isSheet_3 : decode cX5_isSheet 3 = .ok (.invokestatic 81, 3) := by decide +kernel
theorem dX5_isSheet_6 : decode cX5_isSheet 6 = .ok (.ireturn, 1) := by decide +kernel
theorem dX5_isKindOf_0 : decode cX5_isKindOf 0 = .ok (.iload_n 0, 1) := by decide +kernel
theorem dX5_isKindOf_1 : decode cX5_isKindOf 1 = .ok (.lookupswitch 67 #[(3, 27), (4, 47)], 27) := by decide +kernel
theorem dX5_isKindOf_28 : decode cX5_isKindOf 28 = .ok (.iload_n 1, 1) := by decide +kernel
theorem dX5_isKindOf_29 : decode cX5_isKindOf 29 = .ok (.iconst 3, 1) := by decide +kernel
theorem dX5_isKindOf_30 : decode cX5_isKindOf 30 = .ok (.if_icmp .eq 12, 3) := by decide +kernel
theorem dX5_isKindOf_33 : decode cX5_isKindOf 33 = .ok (.iload_n 1, 1) := by decide +kernel
theorem dX5_isKindOf_34 : decode cX5_isKindOf 34 = .ok (.iconst 1, 1) := by decide +kernel
theorem dX5_isKindOf_35 : decode cX5_isKindOf 35 = .ok (.if_icmp .eq 7, 3) := by decide +kernel
theorem dX5_isKindOf_38 : decode cX5_isKindOf 38 = .ok (.iload_n 1, 1) := by decide +kernel
theorem dX5_isKindOf_39 : decode cX5_isKindOf 39 = .ok (.ifCond .ne 7, 3) := by decide +kernel
theorem dX5_isKindOf_42 : decode cX5_isKindOf 42 = .ok (.iconst 1, 1) := by decide +kernel
theorem dX5_isKindOf_43 : decode cX5_isKindOf 43 = .ok (.goto 4, 3) := by decide +kernel
theorem dX5_isKindOf_46 : decode cX5_isKindOf 46 = .ok (.iconst 0, 1) := by decide +kernel
theorem dX5_isKindOf_47 : decode cX5_isKindOf 47 = .ok (.ireturn, 1) := by decide +kernel
theorem dX5_isKindOf_48 : decode cX5_isKindOf 48 = .ok (.iload_n 1, 1) := by decide +kernel
theorem dX5_isKindOf_49 : decode cX5_isKindOf 49 = .ok (.iconst 4, 1) := by decide +kernel
theorem dX5_isKindOf_50 : decode cX5_isKindOf 50 = .ok (.if_icmp .eq 12, 3) := by decide +kernel
theorem dX5_isKindOf_53 : decode cX5_isKindOf 53 = .ok (.iload_n 1, 1) := by decide +kernel
theorem dX5_isKindOf_54 : decode cX5_isKindOf 54 = .ok (.iconst 2, 1) := by decide +kernel
theorem dX5_isKindOf_55 : decode cX5_isKindOf 55 = .ok (.if_icmp .eq 7, 3) := by decide +kernel
theorem dX5_isKindOf_58 : decode cX5_isKindOf 58 = .ok (.iload_n 1, 1) := by decide +kernel
theorem dX5_isKindOf_59 : decode cX5_isKindOf 59 = .ok (.ifCond .ne 7, 3) := by decide +kernel
theorem dX5_isKindOf_62 : decode cX5_isKindOf 62 = .ok (.iconst 1, 1) := by decide +kernel
theorem dX5_isKindOf_63 : decode cX5_isKindOf 63 = .ok (.goto 4, 3) := by decide +kernel
theorem dX5_isKindOf_66 : decode cX5_isKindOf 66 = .ok (.iconst 0, 1) := by decide +kernel
theorem dX5_isKindOf_67 : decode cX5_isKindOf 67 = .ok (.ireturn, 1) := by decide +kernel
theorem dX5_isKindOf_68 : decode cX5_isKindOf 68 = .ok (.iload_n 1, 1) := by decide +kernel
theorem dX5_isKindOf_69 : decode cX5_isKindOf 69 = .ok (.iload_n 0, 1) := by decide +kernel
theorem dX5_isKindOf_70 : decode cX5_isKindOf 70 = .ok (.if_icmp .eq 7, 3) := by decide +kernel
theorem dX5_isKindOf_73 : decode cX5_isKindOf 73 = .ok (.iload_n 1, 1) := by decide +kernel
theorem dX5_isKindOf_74 : decode cX5_isKindOf 74 = .ok (.ifCond .ne 7, 3) := by decide +kernel
theorem dX5_isKindOf_77 : decode cX5_isKindOf 77 = .ok (.iconst 1, 1) := by decide +kernel
theorem dX5_isKindOf_78 : decode cX5_isKindOf 78 = .ok (.goto 4, 3) := by decide +kernel
theorem dX5_isKindOf_81 : decode cX5_isKindOf 81 = .ok (.iconst 0, 1) := by decide +kernel
theorem dX5_isKindOf_82 : decode cX5_isKindOf 82 = .ok (.ireturn, 1) := by decide +kernel
theorem dX5_mostOf_0 : decode cX5_mostOf 0 = .ok (.iload_n 0, 1) := by decide +kernel
theorem dX5_mostOf_1 : decode cX5_mostOf 1 = .ok (.tableswitch 44 0 3 #[31, 34, 38, 42], 31) := by decide +kernel
theorem dX5_mostOf_32 : decode cX5_mostOf 32 = .ok (.bipush 99, 2) := by decide +kernel
theorem dX5_mostOf_34 : decode cX5_mostOf 34 = .ok (.ireturn, 1) := by decide +kernel
theorem dX5_mostOf_35 : decode cX5_mostOf 35 = .ok (.sipush 9999, 3) := by decide +kernel
theorem dX5_mostOf_38 : decode cX5_mostOf 38 = .ok (.ireturn, 1) := by decide +kernel
theorem dX5_mostOf_39 : decode cX5_mostOf 39 = .ok (.ldc_w 257, 3) := by decide +kernel
theorem dX5_mostOf_42 : decode cX5_mostOf 42 = .ok (.ireturn, 1) := by decide +kernel
theorem dX5_mostOf_43 : decode cX5_mostOf 43 = .ok (.iconst 1, 1) := by decide +kernel
theorem dX5_mostOf_44 : decode cX5_mostOf 44 = .ok (.ireturn, 1) := by decide +kernel
theorem dX5_mostOf_45 : decode cX5_mostOf 45 = .ok (.iconst (-1), 1) := by decide +kernel
theorem dX5_mostOf_46 : decode cX5_mostOf 46 = .ok (.ireturn, 1) := by decide +kernel
theorem dX5_lowestTerms_0 : decode cX5_lowestTerms 0 = .ok (.lload_n 0, 1) := by decide +kernel
theorem dX5_lowestTerms_1 : decode cX5_lowestTerms 1 = .ok (.lstore 5, 2) := by decide +kernel
theorem dX5_lowestTerms_3 : decode cX5_lowestTerms 3 = .ok (.lload_n 2, 1) := by decide +kernel
theorem dX5_lowestTerms_4 : decode cX5_lowestTerms 4 = .ok (.lstore 7, 2) := by decide +kernel
theorem dX5_lowestTerms_6 : decode cX5_lowestTerms 6 = .ok (.iconst 0, 1) := by decide +kernel
theorem dX5_lowestTerms_7 : decode cX5_lowestTerms 7 = .ok (.istore 9, 2) := by decide +kernel
theorem dX5_lowestTerms_9 : decode cX5_lowestTerms 9 = .ok (.iload 9, 2) := by decide +kernel
theorem dX5_lowestTerms_11 : decode cX5_lowestTerms 11 = .ok (.sipush 1000, 3) := by decide +kernel
theorem dX5_lowestTerms_14 : decode cX5_lowestTerms 14 = .ok (.if_icmp .ge 31, 3) := by decide +kernel
theorem dX5_lowestTerms_17 : decode cX5_lowestTerms 17 = .ok (.lload 5, 2) := by decide +kernel
theorem dX5_lowestTerms_19 : decode cX5_lowestTerms 19 = .ok (.lconst 0, 1) := by decide +kernel
theorem dX5_lowestTerms_20 : decode cX5_lowestTerms 20 = .ok (.lcmp, 1) := by decide +kernel
theorem dX5_lowestTerms_21 : decode cX5_lowestTerms 21 = .ok (.ifCond .eq 24, 3) := by decide +kernel
theorem dX5_lowestTerms_24 : decode cX5_lowestTerms 24 = .ok (.lload 7, 2) := by decide +kernel
theorem dX5_lowestTerms_26 : decode cX5_lowestTerms 26 = .ok (.lload 5, 2) := by decide +kernel
theorem dX5_lowestTerms_28 : decode cX5_lowestTerms 28 = .ok (.lrem, 1) := by decide +kernel
theorem dX5_lowestTerms_29 : decode cX5_lowestTerms 29 = .ok (.lstore 10, 2) := by decide +kernel
theorem dX5_lowestTerms_31 : decode cX5_lowestTerms 31 = .ok (.lload 5, 2) := by decide +kernel
theorem dX5_lowestTerms_33 : decode cX5_lowestTerms 33 = .ok (.lstore 7, 2) := by decide +kernel
theorem dX5_lowestTerms_35 : decode cX5_lowestTerms 35 = .ok (.lload 10, 2) := by decide +kernel
theorem dX5_lowestTerms_37 : decode cX5_lowestTerms 37 = .ok (.lstore 5, 2) := by decide +kernel
theorem dX5_lowestTerms_39 : decode cX5_lowestTerms 39 = .ok (.iinc 9 1, 3) := by decide +kernel
theorem dX5_lowestTerms_42 : decode cX5_lowestTerms 42 = .ok (.goto (-33), 3) := by decide +kernel
theorem dX5_lowestTerms_45 : decode cX5_lowestTerms 45 = .ok (.lload 7, 2) := by decide +kernel
theorem dX5_lowestTerms_47 : decode cX5_lowestTerms 47 = .ok (.lconst 0, 1) := by decide +kernel
theorem dX5_lowestTerms_48 : decode cX5_lowestTerms 48 = .ok (.lcmp, 1) := by decide +kernel
theorem dX5_lowestTerms_49 : decode cX5_lowestTerms 49 = .ok (.ifCond .ne 7, 3) := by decide +kernel
theorem dX5_lowestTerms_52 : decode cX5_lowestTerms 52 = .ok (.ldc2_w 198, 3) := by decide +kernel
theorem dX5_lowestTerms_55 : decode cX5_lowestTerms 55 = .ok (.lreturn, 1) := by decide +kernel
theorem dX5_lowestTerms_56 : decode cX5_lowestTerms 56 = .ok (.iload 4, 2) := by decide +kernel
theorem dX5_lowestTerms_58 : decode cX5_lowestTerms 58 = .ok (.ifCond .ne 10, 3) := by decide +kernel
theorem dX5_lowestTerms_61 : decode cX5_lowestTerms 61 = .ok (.lload_n 0, 1) := by decide +kernel
theorem dX5_lowestTerms_62 : decode cX5_lowestTerms 62 = .ok (.lload 7, 2) := by decide +kernel
theorem dX5_lowestTerms_64 : decode cX5_lowestTerms 64 = .ok (.ldiv, 1) := by decide +kernel
theorem dX5_lowestTerms_65 : decode cX5_lowestTerms 65 = .ok (.goto 7, 3) := by decide +kernel
theorem dX5_lowestTerms_68 : decode cX5_lowestTerms 68 = .ok (.lload_n 2, 1) := by decide +kernel
theorem dX5_lowestTerms_69 : decode cX5_lowestTerms 69 = .ok (.lload 7, 2) := by decide +kernel
theorem dX5_lowestTerms_71 : decode cX5_lowestTerms 71 = .ok (.ldiv, 1) := by decide +kernel
theorem dX5_lowestTerms_72 : decode cX5_lowestTerms 72 = .ok (.lreturn, 1) := by decide +kernel
set_option maxRecDepth 20000 in
theorem ggX5_startThought_X4_become : GoodIn wsX5_startThought wsX4_become := goodIn_r _ [7, 8, 9, 10, 11, 12, 13, 14, 15, 16, 17, 18, 19, 20, 21, 22, 6, 23, 33, 34, 35, 36, 37, 38, 39, 40, 41, 42, 43, 44] (by decide +kernel) (by decide +kernel)
set_option maxRecDepth 20000 in
theorem gX5_startThought_X4_become : GoodIn wsX5_startThought (wsV RX5 230 RX4 yX4_become wsX4_become) := goodIn_app (goodIn_of _ (by decide +kernel)) ggX5_startThought_X4_become
theorem dX5_startThought_0 : decode cX5_startThought 0 = .ok (.aload_n 0, 1) := by decide +kernel
theorem dX5_startThought_1 : decode cX5_startThought 1 = .ok (.getfield 57, 3) := by decide +kernel
theorem dX5_startThought_4 : decode cX5_startThought 4 = .ok (.aload_n 0, 1) := by decide +kernel
theorem dX5_startThought_5 : decode cX5_startThought 5 = .ok (.getfield 53, 3) := by decide +kernel
theorem dX5_startThought_8 : decode cX5_startThought 8 = .ok (.invokevirtual 230, 3) := by decide +kernel
theorem dX5_startThought_11 : decode cX5_startThought 11 = .ok (.aload_n 0, 1) := by decide +kernel
theorem dX5_startThought_12 : decode cX5_startThought 12 = .ok (.getfield 57, 3) := by decide +kernel
theorem dX5_startThought_15 : decode cX5_startThought 15 = .ok (.areturn, 1) := by decide +kernel
set_option maxRecDepth 20000 in
theorem ggX5_refusalOfTold_X5_isSheet : GoodIn wsX5_refusalOfTold wsX5_isSheet := goodIn_r _ [6, 7, 8, 5, 9] (by decide +kernel) (by decide +kernel)
set_option maxRecDepth 20000 in
theorem gX5_refusalOfTold_X5_isSheet : GoodIn wsX5_refusalOfTold (va_wsS RX5 217 yX5_isSheet wsX5_isSheet) := goodIn_app (goodIn_of _ (by decide +kernel)) ggX5_refusalOfTold_X5_isSheet
set_option maxRecDepth 20000 in
theorem ggX5_refusalOfTold_X1_isMissing : GoodIn wsX5_refusalOfTold wsX1_isMissing := goodIn_r _ [14, 15, 25, 26, 27] (by decide +kernel) (by decide +kernel)
set_option maxRecDepth 20000 in
theorem gX5_refusalOfTold_X1_isMissing : GoodIn wsX5_refusalOfTold (wsV RX5 232 RX1 yX1_isMissing wsX1_isMissing) := goodIn_app (goodIn_of _ (by decide +kernel)) ggX5_refusalOfTold_X1_isMissing
theorem dX5_refusalOfTold_0 : decode cX5_refusalOfTold 0 = .ok (.iload_n 1, 1) := by decide +kernel
theorem dX5_refusalOfTold_1 : decode cX5_refusalOfTold 1 = .ok (.invokestatic 217, 3) := by decide +kernel
theorem dX5_refusalOfTold_4 : decode cX5_refusalOfTold 4 = .ok (.ifCond .ne 6, 3) := by decide +kernel
theorem dX5_refusalOfTold_7 : decode cX5_refusalOfTold 7 = .ok (.bipush (-2), 2) := by decide +kernel
theorem dX5_refusalOfTold_9 : decode cX5_refusalOfTold 9 = .ok (.ireturn, 1) := by decide +kernel
theorem dX5_refusalOfTold_10 : decode cX5_refusalOfTold 10 = .ok (.aload_n 0, 1) := by decide +kernel
theorem dX5_refusalOfTold_11 : decode cX5_refusalOfTold 11 = .ok (.getfield 17, 3) := by decide +kernel
theorem dX5_refusalOfTold_14 : decode cX5_refusalOfTold 14 = .ok (.iload_n 1, 1) := by decide +kernel
theorem dX5_refusalOfTold_15 : decode cX5_refusalOfTold 15 = .ok (.aaload, 1) := by decide +kernel
theorem dX5_refusalOfTold_16 : decode cX5_refusalOfTold 16 = .ok (.invokevirtual 232, 3) := by decide +kernel
theorem dX5_refusalOfTold_19 : decode cX5_refusalOfTold 19 = .ok (.ifCond .eq 6, 3) := by decide +kernel
theorem dX5_refusalOfTold_22 : decode cX5_refusalOfTold 22 = .ok (.bipush (-11), 2) := by decide +kernel
theorem dX5_refusalOfTold_24 : decode cX5_refusalOfTold 24 = .ok (.ireturn, 1) := by decide +kernel
theorem dX5_refusalOfTold_25 : decode cX5_refusalOfTold 25 = .ok (.aload_n 0, 1) := by decide +kernel
theorem dX5_refusalOfTold_26 : decode cX5_refusalOfTold 26 = .ok (.getfield 17, 3) := by decide +kernel
theorem dX5_refusalOfTold_29 : decode cX5_refusalOfTold 29 = .ok (.iload_n 1, 1) := by decide +kernel
theorem dX5_refusalOfTold_30 : decode cX5_refusalOfTold 30 = .ok (.aaload, 1) := by decide +kernel
theorem dX5_refusalOfTold_31 : decode cX5_refusalOfTold 31 = .ok (.getfield 258, 3) := by decide +kernel
theorem dX5_refusalOfTold_34 : decode cX5_refusalOfTold 34 = .ok (.bipush 24, 2) := by decide +kernel
theorem dX5_refusalOfTold_36 : decode cX5_refusalOfTold 36 = .ok (.if_icmp .le 8, 3) := by decide +kernel
theorem dX5_refusalOfTold_39 : decode cX5_refusalOfTold 39 = .ok (.bipush (-2), 2) := by decide +kernel
theorem dX5_refusalOfTold_41 : decode cX5_refusalOfTold 41 = .ok (.goto 4, 3) := by decide +kernel
theorem dX5_refusalOfTold_44 : decode cX5_refusalOfTold 44 = .ok (.iconst 0, 1) := by decide +kernel
theorem dX5_refusalOfTold_45 : decode cX5_refusalOfTold 45 = .ok (.ireturn, 1) := by decide +kernel
set_option maxRecDepth 20000 in
theorem ggX5_refusalOfToldAbout_X5_refusalOfTold : GoodIn wsX5_refusalOfToldAbout wsX5_refusalOfTold := goodIn_r _ [6, 7, 8, 9, 10, 5, 11, 12, 13, 14, 15, 16, 17, 18, 19, 20, 27, 28, 29, 30, 31, 32, 33, 34, 35, 36, 37, 38] (by decide +kernel) (by decide +kernel)
set_option maxRecDepth 20000 in
theorem gX5_refusalOfToldAbout_X5_refusalOfTold : GoodIn wsX5_refusalOfToldAbout (wsV RX5 204 RX5 yX5_refusalOfTold wsX5_refusalOfTold) := goodIn_app (goodIn_of _ (by decide +kernel)) ggX5_refusalOfToldAbout_X5_refusalOfTold
set_option maxRecDepth 20000 in
theorem ggX5_refusalOfToldAbout_X4_has : GoodIn wsX5_refusalOfToldAbout wsX4_has := goodIn_r _ [25, 26, 39, 40, 41, 42, 43, 44, 45, 46, 47, 48, 49, 50] (by decide +kernel) (by decide +kernel)
set_option maxRecDepth 20000 in
theorem gX5_refusalOfToldAbout_X4_has : GoodIn wsX5_refusalOfToldAbout (wsV RX5 101 RX4 yX4_has wsX4_has) := goodIn_app (goodIn_of _ (by decide +kernel)) ggX5_refusalOfToldAbout_X4_has
set_option maxRecDepth 20000 in
theorem ggX5_refusalOfToldAbout_X5_isWithin : GoodIn wsX5_refusalOfToldAbout wsX5_isWithin := goodIn_r _ [14] (by decide +kernel) (by decide +kernel)
set_option maxRecDepth 20000 in
theorem gX5_refusalOfToldAbout_X5_isWithin : GoodIn wsX5_refusalOfToldAbout (va_wsS RX5 81 yX5_isWithin wsX5_isWithin) := goodIn_app (goodIn_of _ (by decide +kernel)) ggX5_refusalOfToldAbout_X5_isWithin
theorem dX5_refusalOfToldAbout_0 : decode cX5_refusalOfToldAbout 0 = .ok (.aload_n 0, 1) := by decide +kernel
theorem dX5_refusalOfToldAbout_1 : decode cX5_refusalOfToldAbout 1 = .ok (.iload_n 1, 1) := by decide +kernel
theorem dX5_refusalOfToldAbout_2 : decode cX5_refusalOfToldAbout 2 = .ok (.invokevirtual 204, 3) := by decide +kernel
theorem dX5_refusalOfToldAbout_5 : decode cX5_refusalOfToldAbout 5 = .ok (.istore 4, 2) := by decide +kernel
theorem dX5_refusalOfToldAbout_7 : decode cX5_refusalOfToldAbout 7 = .ok (.iload 4, 2) := by decide +kernel
theorem dX5_refusalOfToldAbout_9 : decode cX5_refusalOfToldAbout 9 = .ok (.ifCond .eq 6, 3) := by decide +kernel
theorem dX5_refusalOfToldAbout_12 : decode cX5_refusalOfToldAbout 12 = .ok (.iload 4, 2) := by decide +kernel
theorem dX5_refusalOfToldAbout_14 : decode cX5_refusalOfToldAbout 14 = .ok (.ireturn, 1) := by decide +kernel
theorem dX5_refusalOfToldAbout_15 : decode cX5_refusalOfToldAbout 15 = .ok (.aload_n 0, 1) := by decide +kernel
theorem dX5_refusalOfToldAbout_16 : decode cX5_refusalOfToldAbout 16 = .ok (.getfield 53, 3) := by decide +kernel
theorem dX5_refusalOfToldAbout_19 : decode cX5_refusalOfToldAbout 19 = .ok (.iload_n 2, 1) := by decide +kernel
theorem dX5_refusalOfToldAbout_20 : decode cX5_refusalOfToldAbout 20 = .ok (.invokevirtual 101, 3) := by decide +kernel
theorem dX5_refusalOfToldAbout_23 : decode cX5_refusalOfToldAbout 23 = .ok (.ifCond .ne 6, 3) := by decide +kernel
theorem dX5_refusalOfToldAbout_26 : decode cX5_refusalOfToldAbout 26 = .ok (.bipush (-5), 2) := by decide +kernel
theorem dX5_refusalOfToldAbout_28 : decode cX5_refusalOfToldAbout 28 = .ok (.ireturn, 1) := by decide +kernel
theorem dX5_refusalOfToldAbout_29 : decode cX5_refusalOfToldAbout 29 = .ok (.iload_n 3, 1) := by decide +kernel
theorem dX5_refusalOfToldAbout_30 : decode cX5_refusalOfToldAbout 30 = .ok (.iconst 0, 1) := by decide +kernel
theorem dX5_refusalOfToldAbout_31 : decode cX5_refusalOfToldAbout 31 = .ok (.iconst 1, 1) := by decide +kernel
theorem dX5_refusalOfToldAbout_32 : decode cX5_refusalOfToldAbout 32 = .ok (.invokestatic 81, 3) := by decide +kernel
theorem dX5_refusalOfToldAbout_35 : decode cX5_refusalOfToldAbout 35 = .ok (.ifCond .eq 7, 3) := by decide +kernel
theorem dX5_refusalOfToldAbout_38 : decode cX5_refusalOfToldAbout 38 = .ok (.iconst 0, 1) := by decide +kernel
theorem dX5_refusalOfToldAbout_39 : decode cX5_refusalOfToldAbout 39 = .ok (.goto 5, 3) := by decide +kernel
theorem dX5_refusalOfToldAbout_42 : decode cX5_refusalOfToldAbout 42 = .ok (.bipush (-7), 2) := by decide +kernel
theorem dX5_refusalOfToldAbout_44 : decode cX5_refusalOfToldAbout 44 = .ok (.ireturn, 1) := by decide +kernel
set_option maxRecDepth 20000 in
theorem ggX5_firstOtherwise_X4_liars : GoodIn wsX5_firstOtherwise wsX4_liars := goodIn_r _ [8, 9, 10, 11, 12, 7, 13, 14, 15, 16, 17, 18, 19, 20, 21, 22, 23, 24, 25, 26, 27, 28, 29, 30, 31, 32, 33, 34, 35, 36, 37, 38, 39, 40, 41, 42, 43, 44, 45, 46, 47, 48, 49, 50, 51, 52, 53, 54, 55, 56, 57, 58, 59, 60, 61, 62, 94, 95, 96, 97, 98, 99, 100, 101, 102, 103, 104, 105, 106, 107, 108, 109] (by decide +kernel) (by decide +kernel)
set_option maxRecDepth 20000 in
theorem gX5_firstOtherwise_X4_liars : GoodIn wsX5_firstOtherwise (wsV RX5 144 RX4 yX4_liars wsX4_liars) := goodIn_app (goodIn_of _ (by decide +kernel)) ggX5_firstOtherwise_X4_liars
set_option maxRecDepth 20000 in
theorem ggX5_firstOtherwise_X4_passHour : GoodIn wsX5_firstOtherwise wsX4_passHour := goodIn_r _ [66, 9, 57, 59, 46, 47, 48, 67, 50, 51, 58, 16, 68, 69, 31, 70, 71, 72, 7, 73, 74, 75, 76, 77, 14, 15, 17, 18, 19, 20, 21, 37, 38, 39, 40, 41, 42, 43, 44, 45, 49, 52, 53, 54, 55, 56, 60, 61, 62, 78, 79, 80, 81, 94, 95, 96, 97, 98, 99, 100, 101, 102, 103, 104, 105, 106, 107, 108, 109] (by decide +kernel) (by decide +kernel)
set_option maxRecDepth 20000 in
theorem gX5_firstOtherwise_X4_passHour : GoodIn wsX5_firstOtherwise (wsV RX5 154 RX4 yX4_passHour wsX4_passHour) := goodIn_app (goodIn_of _ (by decide +kernel)) ggX5_firstOtherwise_X4_passHour
theorem dX5_firstOtherwise_0 : decode cX5_firstOtherwise 0 = .ok (.aload_n 0, 1) := by decide +kernel
theorem dX5_firstOtherwise_1 : decode cX5_firstOtherwise 1 = .ok (.getfield 17, 3) := by decide +kernel
theorem dX5_firstOtherwise_4 : decode cX5_firstOtherwise 4 = .ok (.iload_n 1, 1) := by decide +kernel
theorem dX5_firstOtherwise_5 : decode cX5_firstOtherwise 5 = .ok (.aaload, 1) := by decide +kernel
theorem dX5_firstOtherwise_6 : decode cX5_firstOtherwise 6 = .ok (.astore_n 3, 1) := by decide +kernel
theorem dX5_firstOtherwise_7 : decode cX5_firstOtherwise 7 = .ok (.iconst 0, 1) := by decide +kernel
theorem dX5_firstOtherwise_8 : decode cX5_firstOtherwise 8 = .ok (.istore 4, 2) := by decide +kernel
theorem dX5_firstOtherwise_10 : decode cX5_firstOtherwise 10 = .ok (.iload 4, 2) := by decide +kernel
theorem dX5_firstOtherwise_12 : decode cX5_firstOtherwise 12 = .ok (.aload_n 3, 1) := by decide +kernel
theorem dX5_firstOtherwise_13 : decode cX5_firstOtherwise 13 = .ok (.getfield 258, 3) := by decide +kernel
theorem dX5_firstOtherwise_16 : decode cX5_firstOtherwise 16 = .ok (.if_icmp .ge 37, 3) := by decide +kernel
theorem dX5_firstOtherwise_19 : decode cX5_firstOtherwise 19 = .ok (.iload 4, 2) := by decide +kernel
theorem dX5_firstOtherwise_21 : decode cX5_firstOtherwise 21 = .ok (.bipush 40, 2) := by decide +kernel
theorem dX5_firstOtherwise_23 : decode cX5_firstOtherwise 23 = .ok (.if_icmp .ge 30, 3) := by decide +kernel
theorem dX5_firstOtherwise_26 : decode cX5_firstOtherwise 26 = .ok (.aload_n 2, 1) := by decide +kernel
theorem dX5_firstOtherwise_27 : decode cX5_firstOtherwise 27 = .ok (.aload_n 2, 1) := by decide +kernel
theorem dX5_firstOtherwise_28 : decode cX5_firstOtherwise 28 = .ok (.invokevirtual 144, 3) := by decide +kernel
theorem dX5_firstOtherwise_31 : decode cX5_firstOtherwise 31 = .ok (.invokevirtual 154, 3) := by decide +kernel
theorem dX5_firstOtherwise_34 : decode cX5_firstOtherwise 34 = .ok (.aload_n 3, 1) := by decide +kernel
theorem dX5_firstOtherwise_35 : decode cX5_firstOtherwise 35 = .ok (.getfield 242, 3) := by decide +kernel
theorem dX5_firstOtherwise_38 : decode cX5_firstOtherwise 38 = .ok (.iload 4, 2) := by decide +kernel
theorem dX5_firstOtherwise_40 : decode cX5_firstOtherwise 40 = .ok (.iaload, 1) := by decide +kernel
theorem dX5_firstOtherwise_41 : decode cX5_firstOtherwise 41 = .ok (.if_icmp .eq 6, 3) := by decide +kernel
theorem dX5_firstOtherwise_44 : decode cX5_firstOtherwise 44 = .ok (.iload 4, 2) := by decide +kernel
theorem dX5_firstOtherwise_46 : decode cX5_firstOtherwise 46 = .ok (.ireturn, 1) := by decide +kernel
theorem dX5_firstOtherwise_47 : decode cX5_firstOtherwise 47 = .ok (.iinc 4 1, 3) := by decide +kernel
theorem dX5_firstOtherwise_50 : decode cX5_firstOtherwise 50 = .ok (.goto (-40), 3) := by decide +kernel
theorem dX5_firstOtherwise_53 : decode cX5_firstOtherwise 53 = .ok (.iconst (-1), 1) := by decide +kernel
theorem dX5_firstOtherwise_54 : decode cX5_firstOtherwise 54 = .ok (.ireturn, 1) := by decide +kernel
set_option maxRecDepth 20000 in
theorem ggX5_inCrowd_X5_startThought : GoodIn wsX5_inCrowd wsX5_startThought := goodIn_r _ [8, 9, 10, 11, 12, 13, 14, 15, 16, 17, 18, 19, 20, 21, 22, 23, 24, 25, 26, 27, 28, 29, 30, 31, 109, 110, 111, 112, 113, 114, 115, 116, 117, 118, 119, 120, 121, 122, 123, 124, 125, 126, 127, 128, 129] (by decide +kernel) (by decide +kernel)
set_option maxRecDepth 20000 in
theorem gX5_inCrowd_X5_startThought : GoodIn wsX5_inCrowd (wsV RX5 157 RX5 yX5_startThought wsX5_startThought) := goodIn_app (goodIn_of _ (by decide +kernel)) ggX5_inCrowd_X5_startThought
set_option maxRecDepth 20000 in
theorem ggX5_inCrowd_X4_turnVow : GoodIn wsX5_inCrowd wsX4_turnVow := goodIn_r _ [35, 21, 36, 37, 38, 14, 39, 22, 118, 119, 120, 121, 122, 123, 124, 125, 126, 127, 128, 129] (by decide +kernel) (by decide +kernel)
set_option maxRecDepth 20000 in
theorem gX5_inCrowd_X4_turnVow : GoodIn wsX5_inCrowd (wsV RX5 183 RX4 yX4_turnVow wsX4_turnVow) := goodIn_app (goodIn_of _ (by decide +kernel)) ggX5_inCrowd_X4_turnVow
set_option maxRecDepth 20000 in
theorem ggX5_inCrowd_X4_liars : GoodIn wsX5_inCrowd wsX4_liars := goodIn_r _ [43, 22, 44, 45, 46, 14, 47, 16, 26, 25, 17, 36, 37, 38, 39, 48, 49, 50, 51, 21, 52, 53, 54, 55, 23, 56, 57, 58, 59, 20, 60, 61, 62, 63, 64, 65, 66, 67, 68, 69, 70, 71, 72, 73, 74, 75, 76, 77, 78, 79, 18, 19, 80, 81, 82, 83, 118, 119, 120, 121, 122, 123, 124, 125, 126, 127, 128, 129, 130, 131, 132, 133] (by decide +kernel) (by decide +kernel)
set_option maxRecDepth 20000 in
theorem gX5_inCrowd_X4_liars : GoodIn wsX5_inCrowd (wsV RX5 144 RX4 yX4_liars wsX4_liars) := goodIn_app (goodIn_of _ (by decide +kernel)) ggX5_inCrowd_X4_liars
set_option maxRecDepth 20000 in
theorem ggX5_inCrowd_J6_bitCount_0f7a4 : GoodIn wsX5_inCrowd wsJ6_bitCount_0f7a4 := goodIn_r _ [87, 88, 89, 90] (by decide +kernel) (by decide +kernel)
set_option maxRecDepth 20000 in
theorem gX5_inCrowd_J6_bitCount_0f7a4 : GoodIn wsX5_inCrowd (va_wsS RX5 186 yJ6_bitCount_0f7a4 wsJ6_bitCount_0f7a4) := goodIn_app (goodIn_of _ (by decide +kernel)) ggX5_inCrowd_J6_bitCount_0f7a4
set_option maxRecDepth 20000 in
theorem ggX5_inCrowd_X4_passHour : GoodIn wsX5_inCrowd wsX4_passHour := goodIn_r _ [94, 22, 18, 80, 69, 70, 71, 95, 73, 74, 19, 25, 96, 24, 23, 97, 98, 99, 14, 100, 101, 102, 103, 104, 16, 26, 17, 36, 37, 38, 39, 60, 61, 62, 63, 64, 65, 66, 67, 68, 72, 75, 76, 77, 78, 79, 81, 82, 83, 105, 106, 107, 108, 118, 119, 120, 121, 122, 123, 124, 125, 126, 127, 128, 129, 130, 131, 132, 133] (by decide +kernel) (by decide +kernel)
set_option maxRecDepth 20000 in
theorem gX5_inCrowd_X4_passHour : GoodIn wsX5_inCrowd (wsV RX5 154 RX4 yX4_passHour wsX4_passHour) := goodIn_app (goodIn_of _ (by decide +kernel)) ggX5_inCrowd_X4_passHour
theorem dX5_inCrowd_0 : decode cX5_inCrowd 0 = .ok (.aload_n 0, 1) := by decide +kernel
theorem dX5_inCrowd_1 : decode cX5_inCrowd 1 = .ok (.invokevirtual 157, 3) := by decide +kernel
theorem dX5_inCrowd_4 : decode cX5_inCrowd 4 = .ok (.astore 4, 2) := by decide +kernel
theorem dX5_inCrowd_6 : decode cX5_inCrowd 6 = .ok (.iload_n 1, 1) := by decide +kernel
theorem dX5_inCrowd_7 : decode cX5_inCrowd 7 = .ok (.i2l, 1) := by decide +kernel
theorem dX5_inCrowd_8 : decode cX5_inCrowd 8 = .ok (.lconst 1, 1) := by decide +kernel
theorem dX5_inCrowd_9 : decode cX5_inCrowd 9 = .ok (.ladd, 1) := by decide +kernel
theorem dX5_inCrowd_10 : decode cX5_inCrowd 10 = .ok (.lstore 5, 2) := by decide +kernel
theorem dX5_inCrowd_12 : decode cX5_inCrowd 12 = .ok (.iconst 0, 1) := by decide +kernel
theorem dX5_inCrowd_13 : decode cX5_inCrowd 13 = .ok (.istore 7, 2) := by decide +kernel
theorem dX5_inCrowd_15 : decode cX5_inCrowd 15 = .ok (.iconst 0, 1) := by decide +kernel
theorem dX5_inCrowd_16 : decode cX5_inCrowd 16 = .ok (.istore 8, 2) := by decide +kernel
theorem dX5_inCrowd_18 : decode cX5_inCrowd 18 = .ok (.iconst 0, 1) := by decide +kernel
theorem dX5_inCrowd_19 : decode cX5_inCrowd 19 = .ok (.istore 9, 2) := by decide +kernel
theorem dX5_inCrowd_21 : decode cX5_inCrowd 21 = .ok (.iload 9, 2) := by decide +kernel
theorem dX5_inCrowd_23 : decode cX5_inCrowd 23 = .ok (.iload_n 2, 1) := by decide +kernel
theorem dX5_inCrowd_24 : decode cX5_inCrowd 24 = .ok (.if_icmp .ge 62, 3) := by decide +kernel
theorem dX5_inCrowd_27 : decode cX5_inCrowd 27 = .ok (.lload 5, 2) := by decide +kernel
theorem dX5_inCrowd_29 : decode cX5_inCrowd 29 = .ok (.ldc2_w 259, 3) := by decide +kernel
theorem dX5_inCrowd_32 : decode cX5_inCrowd 32 = .ok (.lmul, 1) := by decide +kernel
theorem dX5_inCrowd_33 : decode cX5_inCrowd 33 = .ok (.ldc2_w 261, 3) := by decide +kernel
theorem dX5_inCrowd_36 : decode cX5_inCrowd 36 = .ok (.lrem, 1) := by decide +kernel
theorem dX5_inCrowd_37 : decode cX5_inCrowd 37 = .ok (.lstore 5, 2) := by decide +kernel
theorem dX5_inCrowd_39 : decode cX5_inCrowd 39 = .ok (.aload 4, 2) := by decide +kernel
theorem dX5_inCrowd_41 : decode cX5_inCrowd 41 = .ok (.lload 5, 2) := by decide +kernel
theorem dX5_inCrowd_43 : decode cX5_inCrowd 43 = .ok (.ldc2_w 263, 3) := by decide +kernel
theorem dX5_inCrowd_46 : decode cX5_inCrowd 46 = .ok (.lrem, 1) := by decide +kernel
theorem dX5_inCrowd_47 : decode cX5_inCrowd 47 = .ok (.l2i, 1) := by decide +kernel
theorem dX5_inCrowd_48 : decode cX5_inCrowd 48 = .ok (.invokevirtual 183, 3) := by decide +kernel
theorem dX5_inCrowd_51 : decode cX5_inCrowd 51 = .ok (.aload 4, 2) := by decide +kernel
theorem dX5_inCrowd_53 : decode cX5_inCrowd 53 = .ok (.invokevirtual 144, 3) := by decide +kernel
theorem dX5_inCrowd_56 : decode cX5_inCrowd 56 = .ok (.istore 10, 2) := by decide +kernel
theorem dX5_inCrowd_58 : decode cX5_inCrowd 58 = .ok (.iload 8, 2) := by decide +kernel
theorem dX5_inCrowd_60 : decode cX5_inCrowd 60 = .ok (.iload 10, 2) := by decide +kernel
theorem dX5_inCrowd_62 : decode cX5_inCrowd 62 = .ok (.invokestatic 186, 3) := by decide +kernel
theorem dX5_inCrowd_65 : decode cX5_inCrowd 65 = .ok (.iadd, 1) := by decide +kernel
theorem dX5_inCrowd_66 : decode cX5_inCrowd 66 = .ok (.istore 8, 2) := by decide +kernel
theorem dX5_inCrowd_68 : decode cX5_inCrowd 68 = .ok (.iload 7, 2) := by decide +kernel
theorem dX5_inCrowd_70 : decode cX5_inCrowd 70 = .ok (.aload 4, 2) := by decide +kernel
theorem dX5_inCrowd_72 : decode cX5_inCrowd 72 = .ok (.iload 10, 2) := by decide +kernel
theorem dX5_inCrowd_74 : decode cX5_inCrowd 74 = .ok (.invokevirtual 154, 3) := by decide +kernel
theorem dX5_inCrowd_77 : decode cX5_inCrowd 77 = .ok (.iadd, 1) := by decide +kernel
theorem dX5_inCrowd_78 : decode cX5_inCrowd 78 = .ok (.istore 7, 2) := by decide +kernel
theorem dX5_inCrowd_80 : decode cX5_inCrowd 80 = .ok (.iinc 9 1, 3) := by decide +kernel
theorem dX5_inCrowd_83 : decode cX5_inCrowd 83 = .ok (.goto (-62), 3) := by decide +kernel
theorem dX5_inCrowd_86 : decode cX5_inCrowd 86 = .ok (.iload_n 3, 1) := by decide +kernel
theorem dX5_inCrowd_87 : decode cX5_inCrowd 87 = .ok (.ifCond .ne 8, 3) := by decide +kernel
theorem dX5_inCrowd_90 : decode cX5_inCrowd 90 = .ok (.iload 7, 2) := by decide +kernel
theorem dX5_inCrowd_92 : decode cX5_inCrowd 92 = .ok (.goto 5, 3) := by decide +kernel
theorem dX5_inCrowd_95 : decode cX5_inCrowd 95 = .ok (.iload 8, 2) := by decide +kernel
theorem dX5_inCrowd_97 : decode cX5_inCrowd 97 = .ok (.ireturn, 1) := by decide +kernel
set_option maxRecDepth 20000 in
theorem ggX6_init_X6_text : GoodIn wsX6_init wsX6_text := goodIn_r _ [30, 31, 32, 33, 34, 35, 11, 25, 36, 37, 38, 39, 29, 40, 9, 41, 42, 43, 44, 45, 46, 47, 18, 48, 49, 50, 51, 52, 53, 54, 55, 56, 57, 58, 10, 59, 60, 61, 62, 19, 63, 64, 65, 66, 67, 68, 69, 70, 71, 72, 73, 74, 75, 76, 77, 78, 79, 80, 81, 82, 83, 84, 85, 86, 87, 88, 89, 90, 91, 92, 93, 94, 95, 96, 97, 98, 99, 100, 101, 102, 103, 104, 105, 106, 107, 108, 109, 110, 111, 112, 113, 114, 115] (by decide +kernel) (by decide +kernel)
set_option maxRecDepth 20000 in
theorem gX6_init_X6_text : GoodIn wsX6_init (wsV RX6 74 RX6 yX6_text wsX6_text) := goodIn_app (goodIn_of _ (by decide +kernel)) ggX6_init_X6_text
theorem dX6_init_0 : decode cX6_init 0 = .ok (.aload_n 0, 1) := by decide +kernel
theorem dX6_init_1 : decode cX6_init 1 = .ok (.invokespecial 1, 3) := by decide +kernel
theorem dX6_init_4 : decode cX6_init 4 = .ok (.aload_n 0, 1) := by decide +kernel
theorem dX6_init_5 : decode cX6_init 5 = .ok (.bipush 6, 2) := by decide +kernel
theorem dX6_init_7 : decode cX6_init 7 = .ok (.newarray .int, 2) := by decide +kernel
theorem dX6_init_9 : decode cX6_init 9 = .ok (.putfield 7, 3) := by decide +kernel
theorem dX6_init_12 : decode cX6_init 12 = .ok (.aload_n 0, 1) := by decide +kernel
theorem dX6_init_13 : decode cX6_init 13 = .ok (.bipush 6, 2) := by decide +kernel
theorem dX6_init_15 : decode cX6_init 15 = .ok (.newarray .int, 2) := by decide +kernel
theorem dX6_init_17 : decode cX6_init 17 = .ok (.putfield 13, 3) := by decide +kernel
theorem dX6_init_20 : decode cX6_init 20 = .ok (.aload_n 0, 1) := by decide +kernel
theorem dX6_init_21 : decode cX6_init 21 = .ok (.bipush 24, 2) := by decide +kernel
theorem dX6_init_23 : decode cX6_init 23 = .ok (.newarray .int, 2) := by decide +kernel
theorem dX6_init_25 : decode cX6_init 25 = .ok (.putfield 16, 3) := by decide +kernel
theorem dX6_init_28 : decode cX6_init 28 = .ok (.aload_n 0, 1) := by decide +kernel
theorem dX6_init_29 : decode cX6_init 29 = .ok (.iconst 3, 1) := by decide +kernel
theorem dX6_init_30 : decode cX6_init 30 = .ok (.newarray .int, 2) := by decide +kernel
theorem dX6_init_32 : decode cX6_init 32 = .ok (.putfield 19, 3) := by decide +kernel
theorem dX6_init_35 : decode cX6_init 35 = .ok (.aload_n 0, 1) := by decide +kernel
theorem dX6_init_36 : decode cX6_init 36 = .ok (.sipush 160, 3) := by decide +kernel
theorem dX6_init_39 : decode cX6_init 39 = .ok (.newarray .int, 2) := by decide +kernel
theorem dX6_init_41 : decode cX6_init 41 = .ok (.putfield 22, 3) := by decide +kernel
theorem dX6_init_44 : decode cX6_init 44 = .ok (.aload_n 0, 1) := by decide +kernel
theorem dX6_init_45 : decode cX6_init 45 = .ok (.sipush 1200, 3) := by decide +kernel
theorem dX6_init_48 : decode cX6_init 48 = .ok (.newarray .int, 2) := by decide +kernel
theorem dX6_init_50 : decode cX6_init 50 = .ok (.putfield 25, 3) := by decide +kernel
theorem dX6_init_53 : decode cX6_init 53 = .ok (.aload_n 0, 1) := by decide +kernel
