theorem dX6_text_0 : decode cX6_text 0 = .ok (.aload_n 0, 1) := by decide +kernel
theorem dX6_text_1 : decode cX6_text 1 = .ok (.getfield 85, 3) := by decide +kernel
theorem dX6_text_4 : decode cX6_text 4 = .ok (.bipush 6, 2) := by decide +kernel
theorem dX6_text_6 : decode cX6_text 6 = .ok (.if_icmp .ne 6, 3) := by decide +kernel
theorem dX6_text_9 : decode cX6_text 9 = .ok (.bipush (-4), 2) := by decide +kernel
theorem dX6_text_11 : decode cX6_text 11 = .ok (.ireturn, 1) := by decide +kernel
theorem dX6_text_12 : decode cX6_text 12 = .ok (.aload_n 0, 1) := by decide +kernel
theorem dX6_text_13 : decode cX6_text 13 = .ok (.iconst 0, 1) := by decide +kernel
theorem dX6_text_14 : decode cX6_text 14 = .ok (.putfield 95, 3) := by decide +kernel
theorem dX6_text_17 : decode cX6_text 17 = .ok (.aload_n 0, 1) := by decide +kernel
theorem dX6_text_18 : decode cX6_text 18 = .ok (.iconst 0, 1) := by decide +kernel
theorem dX6_text_19 : decode cX6_text 19 = .ok (.putfield 111, 3) := by decide +kernel
theorem dX6_text_22 : decode cX6_text 22 = .ok (.iconst 1, 1) := by decide +kernel
theorem dX6_text_23 : decode cX6_text 23 = .ok (.istore_n 1, 1) := by decide +kernel
theorem dX6_text_24 : decode cX6_text 24 = .ok (.iconst 0, 1) := by decide +kernel
theorem dX6_text_25 : decode cX6_text 25 = .ok (.istore_n 2, 1) := by decide +kernel
theorem dX6_text_26 : decode cX6_text 26 = .ok (.iload_n 2, 1) := by decide +kernel
theorem dX6_text_27 : decode cX6_text 27 = .ok (.iconst 3, 1) := by decide +kernel
theorem dX6_text_28 : decode cX6_text 28 = .ok (.if_icmp .ge 73, 3) := by decide +kernel
theorem dX6_text_31 : decode cX6_text 31 = .ok (.iload_n 1, 1) := by decide +kernel
theorem dX6_text_32 : decode cX6_text 32 = .ok (.ifCond .eq 69, 3) := by decide +kernel
theorem dX6_text_35 : decode cX6_text 35 = .ok (.aload_n 0, 1) := by decide +kernel
theorem dX6_text_36 : decode cX6_text 36 = .ok (.invokevirtual 134, 3) := by decide +kernel
theorem dX6_text_39 : decode cX6_text 39 = .ok (.aload_n 0, 1) := by decide +kernel
theorem dX6_text_40 : decode cX6_text 40 = .ok (.getfield 101, 3) := by decide +kernel
theorem dX6_text_43 : decode cX6_text 43 = .ok (.iconst 3, 1) := by decide +kernel
theorem dX6_text_44 : decode cX6_text 44 = .ok (.if_icmp .ne 15, 3) := by decide +kernel
theorem dX6_text_47 : decode cX6_text 47 = .ok (.aload_n 0, 1) := by decide +kernel
theorem dX6_text_48 : decode cX6_text 48 = .ok (.getfield 104, 3) := by decide +kernel
theorem dX6_text_51 : decode cX6_text 51 = .ok (.iload_n 2, 1) := by decide +kernel
theorem dX6_text_52 : decode cX6_text 52 = .ok (.if_icmp .ne 7, 3) := by decide +kernel
theorem dX6_text_55 : decode cX6_text 55 = .ok (.iconst 1, 1) := by decide +kernel
theorem dX6_text_56 : decode cX6_text 56 = .ok (.goto 4, 3) := by decide +kernel
theorem dX6_text_59 : decode cX6_text 59 = .ok (.iconst 0, 1) := by decide +kernel
theorem dX6_text_60 : decode cX6_text 60 = .ok (.istore_n 1, 1) := by decide +kernel
theorem dX6_text_61 : decode cX6_text 61 = .ok (.aload_n 0, 1) := by decide +kernel
theorem dX6_text_62 : decode cX6_text 62 = .ok (.getfield 28, 3) := by decide +kernel
theorem dX6_text_65 : decode cX6_text 65 = .ok (.iconst 4, 1) := by decide +kernel
theorem dX6_text_66 : decode cX6_text 66 = .ok (.aload_n 0, 1) := by decide +kernel
theorem dX6_text_67 : decode cX6_text 67 = .ok (.getfield 85, 3) := by decide +kernel
theorem dX6_text_70 : decode cX6_text 70 = .ok (.imul, 1) := by decide +kernel
theorem dX6_text_71 : decode cX6_text 71 = .ok (.iload_n 2, 1) := by decide +kernel
theorem dX6_text_72 : decode cX6_text 72 = .ok (.iadd, 1) := by decide +kernel
theorem dX6_text_73 : decode cX6_text 73 = .ok (.aload_n 0, 1) := by decide +kernel
theorem dX6_text_74 : decode cX6_text 74 = .ok (.getfield 111, 3) := by decide +kernel
theorem dX6_text_77 : decode cX6_text 77 = .ok (.iastore, 1) := by decide +kernel
theorem dX6_text_78 : decode cX6_text 78 = .ok (.iload_n 1, 1) := by decide +kernel
theorem dX6_text_79 : decode cX6_text 79 = .ok (.ifCond .eq 14, 3) := by decide +kernel
theorem dX6_text_82 : decode cX6_text 82 = .ok (.aload_n 0, 1) := by decide +kernel
theorem dX6_text_83 : decode cX6_text 83 = .ok (.invokevirtual 147, 3) := by decide +kernel
theorem dX6_text_86 : decode cX6_text 86 = .ok (.ifCond .eq 7, 3) := by decide +kernel
theorem dX6_text_89 : decode cX6_text 89 = .ok (.iconst 1, 1) := by decide +kernel
theorem dX6_text_90 : decode cX6_text 90 = .ok (.goto 4, 3) := by decide +kernel
theorem dX6_text_93 : decode cX6_text 93 = .ok (.iconst 0, 1) := by decide +kernel
theorem dX6_text_94 : decode cX6_text 94 = .ok (.istore_n 1, 1) := by decide +kernel
theorem dX6_text_95 : decode cX6_text 95 = .ok (.iinc 2 1, 3) := by decide +kernel
theorem dX6_text_98 : decode cX6_text 98 = .ok (.goto (-72), 3) := by decide +kernel
theorem dX6_text_101 : decode cX6_text 101 = .ok (.iload_n 1, 1) := by decide +kernel
theorem dX6_text_102 : decode cX6_text 102 = .ok (.ifCond .eq 20, 3) := by decide +kernel
theorem dX6_text_105 : decode cX6_text 105 = .ok (.aload_n 0, 1) := by decide +kernel
theorem dX6_text_106 : decode cX6_text 106 = .ok (.invokevirtual 134, 3) := by decide +kernel
theorem dX6_text_109 : decode cX6_text 109 = .ok (.aload_n 0, 1) := by decide +kernel
theorem dX6_text_110 : decode cX6_text 110 = .ok (.getfield 101, 3) := by decide +kernel
theorem dX6_text_113 : decode cX6_text 113 = .ok (.ifCond .ne 7, 3) := by decide +kernel
theorem dX6_text_116 : decode cX6_text 116 = .ok (.iconst 1, 1) := by decide +kernel
theorem dX6_text_117 : decode cX6_text 117 = .ok (.goto 4, 3) := by decide +kernel
theorem dX6_text_120 : decode cX6_text 120 = .ok (.iconst 0, 1) := by decide +kernel
theorem dX6_text_121 : decode cX6_text 121 = .ok (.istore_n 1, 1) := by decide +kernel
theorem dX6_text_122 : decode cX6_text 122 = .ok (.aload_n 0, 1) := by decide +kernel
theorem dX6_text_123 : decode cX6_text 123 = .ok (.getfield 28, 3) := by decide +kernel
theorem dX6_text_126 : decode cX6_text 126 = .ok (.iconst 4, 1) := by decide +kernel
theorem dX6_text_127 : decode cX6_text 127 = .ok (.aload_n 0, 1) := by decide +kernel
theorem dX6_text_128 : decode cX6_text 128 = .ok (.getfield 85, 3) := by decide +kernel
theorem dX6_text_131 : decode cX6_text 131 = .ok (.imul, 1) := by decide +kernel
theorem dX6_text_132 : decode cX6_text 132 = .ok (.iconst 3, 1) := by decide +kernel
theorem dX6_text_133 : decode cX6_text 133 = .ok (.iadd, 1) := by decide +kernel
theorem dX6_text_134 : decode cX6_text 134 = .ok (.aload_n 0, 1) := by decide +kernel
theorem dX6_text_135 : decode cX6_text 135 = .ok (.getfield 111, 3) := by decide +kernel
theorem dX6_text_138 : decode cX6_text 138 = .ok (.iastore, 1) := by decide +kernel
theorem dX6_text_139 : decode cX6_text 139 = .ok (.aload_n 0, 1) := by decide +kernel
theorem dX6_text_140 : decode cX6_text 140 = .ok (.iconst 0, 1) := by decide +kernel
theorem dX6_text_141 : decode cX6_text 141 = .ok (.putfield 70, 3) := by decide +kernel
theorem dX6_text_144 : decode cX6_text 144 = .ok (.iload_n 1, 1) := by decide +kernel
theorem dX6_text_145 : decode cX6_text 145 = .ok (.ifCond .ne 11, 3) := by decide +kernel
theorem dX6_text_148 : decode cX6_text 148 = .ok (.bipush (-100), 2) := by decide +kernel
theorem dX6_text_150 : decode cX6_text 150 = .ok (.aload_n 0, 1) := by decide +kernel
theorem dX6_text_151 : decode cX6_text 151 = .ok (.getfield 98, 3) := by decide +kernel
theorem dX6_text_154 : decode cX6_text 154 = .ok (.isub, 1) := by decide +kernel
theorem dX6_text_155 : decode cX6_text 155 = .ok (.ireturn, 1) := by decide +kernel
theorem dX6_text_156 : decode cX6_text 156 = .ok (.aload_n 0, 1) := by decide +kernel
theorem dX6_text_157 : decode cX6_text 157 = .ok (.dup, 1) := by decide +kernel
theorem dX6_text_158 : decode cX6_text 158 = .ok (.getfield 85, 3) := by decide +kernel
theorem dX6_text_161 : decode cX6_text 161 = .ok (.iconst 1, 1) := by decide +kernel
theorem dX6_text_162 : decode cX6_text 162 = .ok (.iadd, 1) := by decide +kernel
theorem dX6_text_163 : decode cX6_text 163 = .ok (.putfield 85, 3) := by decide +kernel
theorem dX6_text_166 : decode cX6_text 166 = .ok (.aload_n 0, 1) := by decide +kernel
theorem dX6_text_167 : decode cX6_text 167 = .ok (.getfield 85, 3) := by decide +kernel
theorem dX6_text_170 : decode cX6_text 170 = .ok (.iconst 1, 1) := by decide +kernel
theorem dX6_text_171 : decode cX6_text 171 = .ok (.isub, 1) := by decide +kernel
theorem dX6_text_172 : decode cX6_text 172 = .ok (.ireturn, 1) := by decide +kernel
theorem dX6_two_0 : decode cX6_two 0 = .ok (.iload_n 0, 1) := by decide +kernel
theorem dX6_two_1 : decode cX6_two 1 = .ok (.tableswitch 101 11 17 #[43, 57, 101, 71, 82, 93, 97], 43) := by decide +kernel
theorem dX6_two_44 : decode cX6_two 44 = .ok (.iload_n 1, 1) := by decide +kernel
theorem dX6_two_45 : decode cX6_two 45 = .ok (.ifCond .ne 7, 3) := by decide +kernel
theorem dX6_two_48 : decode cX6_two 48 = .ok (.iload_n 2, 1) := by decide +kernel
theorem dX6_two_49 : decode cX6_two 49 = .ok (.ifCond .eq 7, 3) := by decide +kernel
theorem dX6_two_52 : decode cX6_two 52 = .ok (.iconst 1, 1) := by decide +kernel
theorem dX6_two_53 : decode cX6_two 53 = .ok (.goto 4, 3) := by decide +kernel
theorem dX6_two_56 : decode cX6_two 56 = .ok (.iconst 0, 1) := by decide +kernel
theorem dX6_two_57 : decode cX6_two 57 = .ok (.ireturn, 1) := by decide +kernel
theorem dX6_two_58 : decode cX6_two 58 = .ok (.iload_n 1, 1) := by decide +kernel
theorem dX6_two_59 : decode cX6_two 59 = .ok (.ifCond .eq 11, 3) := by decide +kernel
theorem dX6_two_62 : decode cX6_two 62 = .ok (.iload_n 2, 1) := by decide +kernel
theorem dX6_two_63 : decode cX6_two 63 = .ok (.ifCond .eq 7, 3) := by decide +kernel
theorem dX6_two_66 : decode cX6_two 66 = .ok (.iconst 1, 1) := by decide +kernel
theorem dX6_two_67 : decode cX6_two 67 = .ok (.goto 4, 3) := by decide +kernel
theorem dX6_two_70 : decode cX6_two 70 = .ok (.iconst 0, 1) := by decide +kernel
theorem dX6_two_71 : decode cX6_two 71 = .ok (.ireturn, 1) := by decide +kernel
theorem dX6_two_72 : decode cX6_two 72 = .ok (.iload_n 1, 1) := by decide +kernel
theorem dX6_two_73 : decode cX6_two 73 = .ok (.iload_n 2, 1) := by decide +kernel
theorem dX6_two_74 : decode cX6_two 74 = .ok (.if_icmp .ge 7, 3) := by decide +kernel
theorem dX6_two_77 : decode cX6_two 77 = .ok (.iconst 1, 1) := by decide +kernel
theorem dX6_two_78 : decode cX6_two 78 = .ok (.goto 4, 3) := by decide +kernel
theorem dX6_two_81 : decode cX6_two 81 = .ok (.iconst 0, 1) := by decide +kernel
theorem dX6_two_82 : decode cX6_two 82 = .ok (.ireturn, 1) := by decide +kernel
theorem dX6_two_83 : decode cX6_two 83 = .ok (.iload_n 1, 1) := by decide +kernel
theorem dX6_two_84 : decode cX6_two 84 = .ok (.iload_n 2, 1) := by decide +kernel
theorem dX6_two_85 : decode cX6_two 85 = .ok (.if_icmp .ne 7, 3) := by decide +kernel
theorem dX6_two_88 : decode cX6_two 88 = .ok (.iconst 1, 1) := by decide +kernel
theorem dX6_two_89 : decode cX6_two 89 = .ok (.goto 4, 3) := by decide +kernel
theorem dX6_two_92 : decode cX6_two 92 = .ok (.iconst 0, 1) := by decide +kernel
theorem dX6_two_93 : decode cX6_two 93 = .ok (.ireturn, 1) := by decide +kernel
theorem dX6_two_94 : decode cX6_two 94 = .ok (.iload_n 1, 1) := by decide +kernel
theorem dX6_two_95 : decode cX6_two 95 = .ok (.iload_n 2, 1) := by decide +kernel
theorem dX6_two_96 : decode cX6_two 96 = .ok (.iadd, 1) := by decide +kernel
theorem dX6_two_97 : decode cX6_two 97 = .ok (.ireturn, 1) := by decide +kernel
theorem dX6_two_98 : decode cX6_two 98 = .ok (.iload_n 1, 1) := by decide +kernel
theorem dX6_two_99 : decode cX6_two 99 = .ok (.iload_n 2, 1) := by decide +kernel
theorem dX6_two_100 : decode cX6_two 100 = .ok (.isub, 1) := by decide +kernel
theorem dX6_two_101 : decode cX6_two 101 = .ok (.ireturn, 1) := by decide +kernel
theorem dX6_two_102 : decode cX6_two 102 = .ok (.iload_n 1, 1) := by decide +kernel
theorem dX6_two_103 : decode cX6_two 103 = .ok (.iload_n 2, 1) := by decide +kernel
theorem dX6_two_104 : decode cX6_two 104 = .ok (.imul, 1) := by decide +kernel
theorem dX6_two_105 : decode cX6_two 105 = .ok (.ireturn, 1) := by decide +kernel
set_option maxRecDepth 20000 in
theorem ggX6_says_X6_two : GoodIn wsX6_says wsX6_two := goodIn_r _ [10] (by decide +kernel) (by decide +kernel)
set_option maxRecDepth 20000 in
theorem gX6_says_X6_two : GoodIn wsX6_says (va_wsS RX6 151 yX6_two wsX6_two) := goodIn_app (goodIn_of _ (by decide +kernel)) ggX6_says_X6_two
theorem dX6_says_0 : decode cX6_says 0 = .ok (.iconst 0, 1) := by decide +kernel
theorem dX6_says_1 : decode cX6_says 1 = .ok (.istore_n 2, 1) := by decide +kernel
theorem dX6_says_2 : decode cX6_says 2 = .ok (.aload_n 0, 1) := by decide +kernel
theorem dX6_says_3 : decode cX6_says 3 = .ok (.getfield 28, 3) := by decide +kernel
theorem dX6_says_6 : decode cX6_says 6 = .ok (.iconst 4, 1) := by decide +kernel
theorem dX6_says_7 : decode cX6_says 7 = .ok (.aload_n 0, 1) := by decide +kernel
theorem dX6_says_8 : decode cX6_says 8 = .ok (.getfield 88, 3) := by decide +kernel
theorem dX6_says_11 : decode cX6_says 11 = .ok (.imul, 1) := by decide +kernel
theorem dX6_says_12 : decode cX6_says 12 = .ok (.iload_n 1, 1) := by decide +kernel
theorem dX6_says_13 : decode cX6_says 13 = .ok (.iadd, 1) := by decide +kernel
theorem dX6_says_14 : decode cX6_says 14 = .ok (.iaload, 1) := by decide +kernel
theorem dX6_says_15 : decode cX6_says 15 = .ok (.istore_n 3, 1) := by decide +kernel
theorem dX6_says_16 : decode cX6_says 16 = .ok (.iload_n 3, 1) := by decide +kernel
theorem dX6_says_17 : decode cX6_says 17 = .ok (.aload_n 0, 1) := by decide +kernel
theorem dX6_says_18 : decode cX6_says 18 = .ok (.getfield 28, 3) := by decide +kernel
theorem dX6_says_21 : decode cX6_says 21 = .ok (.iconst 4, 1) := by decide +kernel
theorem dX6_says_22 : decode cX6_says 22 = .ok (.aload_n 0, 1) := by decide +kernel
theorem dX6_says_23 : decode cX6_says 23 = .ok (.getfield 88, 3) := by decide +kernel
theorem dX6_says_26 : decode cX6_says 26 = .ok (.imul, 1) := by decide +kernel
theorem dX6_says_27 : decode cX6_says 27 = .ok (.iload_n 1, 1) := by decide +kernel
theorem dX6_says_28 : decode cX6_says 28 = .ok (.iadd, 1) := by decide +kernel
theorem dX6_says_29 : decode cX6_says 29 = .ok (.iconst 1, 1) := by decide +kernel
theorem dX6_says_30 : decode cX6_says 30 = .ok (.iadd, 1) := by decide +kernel
theorem dX6_says_31 : decode cX6_says 31 = .ok (.iaload, 1) := by decide +kernel
theorem dX6_says_32 : decode cX6_says 32 = .ok (.if_icmp .ge 165, 3) := by decide +kernel
theorem dX6_says_35 : decode cX6_says 35 = .ok (.aload_n 0, 1) := by decide +kernel
theorem dX6_says_36 : decode cX6_says 36 = .ok (.getfield 25, 3) := by decide +kernel
theorem dX6_says_39 : decode cX6_says 39 = .ok (.sipush 200, 3) := by decide +kernel
theorem dX6_says_42 : decode cX6_says 42 = .ok (.aload_n 0, 1) := by decide +kernel
theorem dX6_says_43 : decode cX6_says 43 = .ok (.getfield 88, 3) := by decide +kernel
theorem dX6_says_46 : decode cX6_says 46 = .ok (.imul, 1) := by decide +kernel
theorem dX6_says_47 : decode cX6_says 47 = .ok (.iload_n 3, 1) := by decide +kernel
theorem dX6_says_48 : decode cX6_says 48 = .ok (.iadd, 1) := by decide +kernel
theorem dX6_says_49 : decode cX6_says 49 = .ok (.iaload, 1) := by decide +kernel
theorem dX6_says_50 : decode cX6_says 50 = .ok (.istore 4, 2) := by decide +kernel
theorem dX6_says_52 : decode cX6_says 52 = .ok (.iload 4, 2) := by decide +kernel
theorem dX6_says_54 : decode cX6_says 54 = .ok (.ldc 137, 2) := by decide +kernel
theorem dX6_says_56 : decode cX6_says 56 = .ok (.if_icmp .ge 10, 3) := by decide +kernel
theorem dX6_says_59 : decode cX6_says 59 = .ok (.iload 4, 2) := by decide +kernel
theorem dX6_says_61 : decode cX6_says 61 = .ok (.bipush 11, 2) := by decide +kernel
theorem dX6_says_63 : decode cX6_says 63 = .ok (.if_icmp .ge 37, 3) := by decide +kernel
theorem dX6_says_66 : decode cX6_says 66 = .ok (.aload_n 0, 1) := by decide +kernel
theorem dX6_says_67 : decode cX6_says 67 = .ok (.getfield 55, 3) := by decide +kernel
theorem dX6_says_70 : decode cX6_says 70 = .ok (.iload_n 2, 1) := by decide +kernel
theorem dX6_says_71 : decode cX6_says 71 = .ok (.iload 4, 2) := by decide +kernel
theorem dX6_says_73 : decode cX6_says 73 = .ok (.bipush 11, 2) := by decide +kernel
theorem dX6_says_75 : decode cX6_says 75 = .ok (.if_icmp .ge 13, 3) := by decide +kernel
theorem dX6_says_78 : decode cX6_says 78 = .ok (.aload_n 0, 1) := by decide +kernel
theorem dX6_says_79 : decode cX6_says 79 = .ok (.getfield 58, 3) := by decide +kernel
theorem dX6_says_82 : decode cX6_says 82 = .ok (.iload 4, 2) := by decide +kernel
theorem dX6_says_84 : decode cX6_says 84 = .ok (.iaload, 1) := by decide +kernel
theorem dX6_says_85 : decode cX6_says 85 = .ok (.goto 8, 3) := by decide +kernel
theorem dX6_says_88 : decode cX6_says 88 = .ok (.iload 4, 2) := by decide +kernel
theorem dX6_says_90 : decode cX6_says 90 = .ok (.ldc 137, 2) := by decide +kernel
theorem dX6_says_92 : decode cX6_says 92 = .ok (.isub, 1) := by decide +kernel
theorem dX6_says_93 : decode cX6_says 93 = .ok (.iastore, 1) := by decide +kernel
theorem dX6_says_94 : decode cX6_says 94 = .ok (.iinc 2 1, 3) := by decide +kernel
theorem dX6_says_97 : decode cX6_says 97 = .ok (.goto 94, 3) := by decide +kernel
theorem dX6_says_100 : decode cX6_says 100 = .ok (.iload 4, 2) := by decide +kernel
theorem dX6_says_102 : decode cX6_says 102 = .ok (.bipush 13, 2) := by decide +kernel
theorem dX6_says_104 : decode cX6_says 104 = .ok (.if_icmp .ne 30, 3) := by decide +kernel
theorem dX6_says_107 : decode cX6_says 107 = .ok (.aload_n 0, 1) := by decide +kernel
theorem dX6_says_108 : decode cX6_says 108 = .ok (.getfield 55, 3) := by decide +kernel
theorem dX6_says_111 : decode cX6_says 111 = .ok (.iload_n 2, 1) := by decide +kernel
theorem dX6_says_112 : decode cX6_says 112 = .ok (.iconst 1, 1) := by decide +kernel
theorem dX6_says_113 : decode cX6_says 113 = .ok (.isub, 1) := by decide +kernel
theorem dX6_says_114 : decode cX6_says 114 = .ok (.aload_n 0, 1) := by decide +kernel
theorem dX6_says_115 : decode cX6_says 115 = .ok (.getfield 55, 3) := by decide +kernel
theorem dX6_says_118 : decode cX6_says 118 = .ok (.iload_n 2, 1) := by decide +kernel
theorem dX6_says_119 : decode cX6_says 119 = .ok (.iconst 1, 1) := by decide +kernel
theorem dX6_says_120 : decode cX6_says 120 = .ok (.isub, 1) := by decide +kernel
theorem dX6_says_121 : decode cX6_says 121 = .ok (.iaload, 1) := by decide +kernel
theorem dX6_says_122 : decode cX6_says 122 = .ok (.ifCond .ne 7, 3) := by decide +kernel
theorem dX6_says_125 : decode cX6_says 125 = .ok (.iconst 1, 1) := by decide +kernel
theorem dX6_says_126 : decode cX6_says 126 = .ok (.goto 4, 3) := by decide +kernel
theorem dX6_says_129 : decode cX6_says 129 = .ok (.iconst 0, 1) := by decide +kernel
theorem dX6_says_130 : decode cX6_says 130 = .ok (.iastore, 1) := by decide +kernel
theorem dX6_says_131 : decode cX6_says 131 = .ok (.goto 60, 3) := by decide +kernel
theorem dX6_says_134 : decode cX6_says 134 = .ok (.iload 4, 2) := by decide +kernel
theorem dX6_says_136 : decode cX6_says 136 = .ok (.bipush 19, 2) := by decide +kernel
theorem dX6_says_138 : decode cX6_says 138 = .ok (.if_icmp .ne 23, 3) := by decide +kernel
theorem dX6_says_141 : decode cX6_says 141 = .ok (.aload_n 0, 1) := by decide +kernel
theorem dX6_says_142 : decode cX6_says 142 = .ok (.getfield 55, 3) := by decide +kernel
theorem dX6_says_145 : decode cX6_says 145 = .ok (.iload_n 2, 1) := by decide +kernel
theorem dX6_says_146 : decode cX6_says 146 = .ok (.iconst 1, 1) := by decide +kernel
theorem dX6_says_147 : decode cX6_says 147 = .ok (.isub, 1) := by decide +kernel
theorem dX6_says_148 : decode cX6_says 148 = .ok (.aload_n 0, 1) := by decide +kernel
theorem dX6_says_149 : decode cX6_says 149 = .ok (.getfield 55, 3) := by decide +kernel
theorem dX6_says_152 : decode cX6_says 152 = .ok (.iload_n 2, 1) := by decide +kernel
theorem dX6_says_153 : decode cX6_says 153 = .ok (.iconst 1, 1) := by decide +kernel
theorem dX6_says_154 : decode cX6_says 154 = .ok (.isub, 1) := by decide +kernel
theorem dX6_says_155 : decode cX6_says 155 = .ok (.iaload, 1) := by decide +kernel
theorem dX6_says_156 : decode cX6_says 156 = .ok (.ineg, 1) := by decide +kernel
theorem dX6_says_157 : decode cX6_says 157 = .ok (.iastore, 1) := by decide +kernel
theorem dX6_says_158 : decode cX6_says 158 = .ok (.goto 33, 3) := by decide +kernel
theorem dX6_says_161 : decode cX6_says 161 = .ok (.iinc 2 (-1), 3) := by decide +kernel
theorem dX6_says_164 : decode cX6_says 164 = .ok (.aload_n 0, 1) := by decide +kernel
theorem dX6_says_165 : decode cX6_says 165 = .ok (.getfield 55, 3) := by decide +kernel
theorem dX6_says_168 : decode cX6_says 168 = .ok (.iload_n 2, 1) := by decide +kernel
theorem dX6_says_169 : decode cX6_says 169 = .ok (.iconst 1, 1) := by decide +kernel
theorem dX6_says_170 : decode cX6_says 170 = .ok (.isub, 1) := by decide +kernel
theorem dX6_says_171 : decode cX6_says 171 = .ok (.iload 4, 2) := by decide +kernel
theorem dX6_says_173 : decode cX6_says 173 = .ok (.aload_n 0, 1) := by decide +kernel
theorem dX6_says_174 : decode cX6_says 174 = .ok (.getfield 55, 3) := by decide +kernel
theorem dX6_says_177 : decode cX6_says 177 = .ok (.iload_n 2, 1) := by decide +kernel
theorem dX6_says_178 : decode cX6_says 178 = .ok (.iconst 1, 1) := by decide +kernel
theorem dX6_says_179 : decode cX6_says 179 = .ok (.isub, 1) := by decide +kernel
theorem dX6_says_180 : decode cX6_says 180 = .ok (.iaload, 1) := by decide +kernel
theorem dX6_says_181 : decode cX6_says 181 = .ok (.aload_n 0, 1) := by decide +kernel
theorem dX6_says_182 : decode cX6_says 182 = .ok (.getfield 55, 3) := by decide +kernel
theorem dX6_says_185 : decode cX6_says 185 = .ok (.iload_n 2, 1) := by decide +kernel
theorem dX6_says_186 : decode cX6_says 186 = .ok (.iaload, 1) := by decide +kernel
theorem dX6_says_187 : decode cX6_says 187 = .ok (.invokestatic 151, 3) := by decide +kernel
theorem dX6_says_190 : decode cX6_says 190 = .ok (.iastore, 1) := by decide +kernel
theorem dX6_says_191 : decode cX6_says 191 = .ok (.iinc 3 1, 3) := by decide +kernel
theorem dX6_says_194 : decode cX6_says 194 = .ok (.goto (-178), 3) := by decide +kernel
theorem dX6_says_197 : decode cX6_says 197 = .ok (.aload_n 0, 1) := by decide +kernel
theorem dX6_says_198 : decode cX6_says 198 = .ok (.getfield 55, 3) := by decide +kernel
theorem dX6_says_201 : decode cX6_says 201 = .ok (.iconst 0, 1) := by decide +kernel
theorem dX6_says_202 : decode cX6_says 202 = .ok (.iaload, 1) := by decide +kernel
theorem dX6_says_203 : decode cX6_says 203 = .ok (.ireturn, 1) := by decide +kernel
set_option maxRecDepth 20000 in
theorem ggX6_force_X6_in : GoodIn wsX6_force wsX6_in := goodIn_r _ [6] (by decide +kernel) (by decide +kernel)
set_option maxRecDepth 20000 in
theorem gX6_force_X6_in : GoodIn wsX6_force (va_wsS RX6 81 yX6_in wsX6_in) := goodIn_app (goodIn_of _ (by decide +kernel)) ggX6_force_X6_in
theorem dX6_force_0 : decode cX6_force 0 = .ok (.iload_n 1, 1) := by decide +kernel
theorem dX6_force_1 : decode cX6_force 1 = .ok (.iconst 0, 1) := by decide +kernel
theorem dX6_force_2 : decode cX6_force 2 = .ok (.aload_n 0, 1) := by decide +kernel
theorem dX6_force_3 : decode cX6_force 3 = .ok (.getfield 85, 3) := by decide +kernel
theorem dX6_force_6 : decode cX6_force 6 = .ok (.iconst 1, 1) := by decide +kernel
theorem dX6_force_7 : decode cX6_force 7 = .ok (.isub, 1) := by decide +kernel
theorem dX6_force_8 : decode cX6_force 8 = .ok (.invokestatic 81, 3) := by decide +kernel
theorem dX6_force_11 : decode cX6_force 11 = .ok (.ifCond .ne 6, 3) := by decide +kernel
theorem dX6_force_14 : decode cX6_force 14 = .ok (.bipush (-2), 2) := by decide +kernel
theorem dX6_force_16 : decode cX6_force 16 = .ok (.ireturn, 1) := by decide +kernel
theorem dX6_force_17 : decode cX6_force 17 = .ok (.aload_n 0, 1) := by decide +kernel
theorem dX6_force_18 : decode cX6_force 18 = .ok (.getfield 88, 3) := by decide +kernel
theorem dX6_force_21 : decode cX6_force 21 = .ok (.istore_n 2, 1) := by decide +kernel
theorem dX6_force_22 : decode cX6_force 22 = .ok (.aload_n 0, 1) := by decide +kernel
theorem dX6_force_23 : decode cX6_force 23 = .ok (.iload_n 1, 1) := by decide +kernel
theorem dX6_force_24 : decode cX6_force 24 = .ok (.putfield 88, 3) := by decide +kernel
theorem dX6_force_27 : decode cX6_force 27 = .ok (.iload_n 2, 1) := by decide +kernel
theorem dX6_force_28 : decode cX6_force 28 = .ok (.ireturn, 1) := by decide +kernel
set_option maxRecDepth 20000 in
theorem ggX6_asksOf_X6_within : GoodIn wsX6_asksOf wsX6_within := goodIn_r _ [9] (by decide +kernel) (by decide +kernel)
set_option maxRecDepth 20000 in
theorem gX6_asksOf_X6_within : GoodIn wsX6_asksOf (va_wsS RX6 155 yX6_within wsX6_within) := goodIn_app (goodIn_of _ (by decide +kernel)) ggX6_asksOf_X6_within
set_option maxRecDepth 20000 in
theorem ggX6_asksOf_X6_ofDay : GoodIn wsX6_asksOf wsX6_ofDay := goodIn_r _ [13, 3, 26, 27, 28, 29, 30, 31, 32, 33, 34, 35, 36, 37, 38, 39, 40, 41, 42, 43, 44, 45, 46, 47, 48, 49, 50, 51, 52, 53, 54, 55, 56, 57, 58, 59] (by decide +kernel) (by decide +kernel)
set_option maxRecDepth 20000 in
theorem gX6_asksOf_X6_ofDay : GoodIn wsX6_asksOf (wsV RX6 158 RX6 yX6_ofDay wsX6_ofDay) := goodIn_app (goodIn_of _ (by decide +kernel)) ggX6_asksOf_X6_ofDay
set_option maxRecDepth 20000 in
theorem ggX6_asksOf_X6_says : GoodIn wsX6_asksOf wsX6_says := goodIn_r _ [17, 18, 19, 20, 21, 22, 1, 23, 24, 8, 25, 26, 27, 28, 29, 30, 31, 32, 33, 34, 35, 36, 37, 38, 39, 40, 41, 42, 43, 44, 45, 46, 47, 48, 49, 50, 51, 52, 53, 54, 55, 56, 57, 58, 59] (by decide +kernel) (by decide +kernel)
set_option maxRecDepth 20000 in
theorem gX6_asksOf_X6_says : GoodIn wsX6_asksOf (wsV RX6 161 RX6 yX6_says wsX6_says) := goodIn_app (goodIn_of _ (by decide +kernel)) ggX6_asksOf_X6_says
theorem dX6_asksOf_0 : decode cX6_asksOf 0 = .ok (.aload_n 0, 1) := by decide +kernel
theorem dX6_asksOf_1 : decode cX6_asksOf 1 = .ok (.getfield 58, 3) := by decide +kernel
theorem dX6_asksOf_4 : decode cX6_asksOf 4 = .ok (.iconst 0, 1) := by decide +kernel
theorem dX6_asksOf_5 : decode cX6_asksOf 5 = .ok (.aload_n 0, 1) := by decide +kernel
theorem dX6_asksOf_6 : decode cX6_asksOf 6 = .ok (.getfield 16, 3) := by decide +kernel
theorem dX6_asksOf_9 : decode cX6_asksOf 9 = .ok (.iconst 4, 1) := by decide +kernel
theorem dX6_asksOf_10 : decode cX6_asksOf 10 = .ok (.iload_n 2, 1) := by decide +kernel
theorem dX6_asksOf_11 : decode cX6_asksOf 11 = .ok (.imul, 1) := by decide +kernel
theorem dX6_asksOf_12 : decode cX6_asksOf 12 = .ok (.iaload, 1) := by decide +kernel
theorem dX6_asksOf_13 : decode cX6_asksOf 13 = .ok (.iastore, 1) := by decide +kernel
theorem dX6_asksOf_14 : decode cX6_asksOf 14 = .ok (.aload_n 0, 1) := by decide +kernel
theorem dX6_asksOf_15 : decode cX6_asksOf 15 = .ok (.getfield 58, 3) := by decide +kernel
theorem dX6_asksOf_18 : decode cX6_asksOf 18 = .ok (.iconst 1, 1) := by decide +kernel
theorem dX6_asksOf_19 : decode cX6_asksOf 19 = .ok (.aload_n 0, 1) := by decide +kernel
theorem dX6_asksOf_20 : decode cX6_asksOf 20 = .ok (.getfield 16, 3) := by decide +kernel
theorem dX6_asksOf_23 : decode cX6_asksOf 23 = .ok (.iconst 4, 1) := by decide +kernel
theorem dX6_asksOf_24 : decode cX6_asksOf 24 = .ok (.iload_n 2, 1) := by decide +kernel
theorem dX6_asksOf_25 : decode cX6_asksOf 25 = .ok (.imul, 1) := by decide +kernel
theorem dX6_asksOf_26 : decode cX6_asksOf 26 = .ok (.iconst 1, 1) := by decide +kernel
theorem dX6_asksOf_27 : decode cX6_asksOf 27 = .ok (.iadd, 1) := by decide +kernel
theorem dX6_asksOf_28 : decode cX6_asksOf 28 = .ok (.iaload, 1) := by decide +kernel
theorem dX6_asksOf_29 : decode cX6_asksOf 29 = .ok (.iconst 0, 1) := by decide +kernel
theorem dX6_asksOf_30 : decode cX6_asksOf 30 = .ok (.bipush 99, 2) := by decide +kernel
theorem dX6_asksOf_32 : decode cX6_asksOf 32 = .ok (.invokestatic 155, 3) := by decide +kernel
theorem dX6_asksOf_35 : decode cX6_asksOf 35 = .ok (.iastore, 1) := by decide +kernel
theorem dX6_asksOf_36 : decode cX6_asksOf 36 = .ok (.aload_n 0, 1) := by decide +kernel
theorem dX6_asksOf_37 : decode cX6_asksOf 37 = .ok (.getfield 58, 3) := by decide +kernel
theorem dX6_asksOf_40 : decode cX6_asksOf 40 = .ok (.iconst 2, 1) := by decide +kernel
theorem dX6_asksOf_41 : decode cX6_asksOf 41 = .ok (.aload_n 0, 1) := by decide +kernel
theorem dX6_asksOf_42 : decode cX6_asksOf 42 = .ok (.invokevirtual 158, 3) := by decide +kernel
theorem dX6_asksOf_45 : decode cX6_asksOf 45 = .ok (.iastore, 1) := by decide +kernel
theorem dX6_asksOf_46 : decode cX6_asksOf 46 = .ok (.aload_n 0, 1) := by decide +kernel
theorem dX6_asksOf_47 : decode cX6_asksOf 47 = .ok (.getfield 58, 3) := by decide +kernel
theorem dX6_asksOf_50 : decode cX6_asksOf 50 = .ok (.iconst 3, 1) := by decide +kernel
theorem dX6_asksOf_51 : decode cX6_asksOf 51 = .ok (.aload_n 0, 1) := by decide +kernel
theorem dX6_asksOf_52 : decode cX6_asksOf 52 = .ok (.getfield 19, 3) := by decide +kernel
theorem dX6_asksOf_55 : decode cX6_asksOf 55 = .ok (.iconst 2, 1) := by decide +kernel
theorem dX6_asksOf_56 : decode cX6_asksOf 56 = .ok (.iaload, 1) := by decide +kernel
theorem dX6_asksOf_57 : decode cX6_asksOf 57 = .ok (.iastore, 1) := by decide +kernel
theorem dX6_asksOf_58 : decode cX6_asksOf 58 = .ok (.aload_n 0, 1) := by decide +kernel
theorem dX6_asksOf_59 : decode cX6_asksOf 59 = .ok (.getfield 58, 3) := by decide +kernel
theorem dX6_asksOf_62 : decode cX6_asksOf 62 = .ok (.iconst 4, 1) := by decide +kernel
theorem dX6_asksOf_63 : decode cX6_asksOf 63 = .ok (.aload_n 0, 1) := by decide +kernel
theorem dX6_asksOf_64 : decode cX6_asksOf 64 = .ok (.getfield 78, 3) := by decide +kernel
theorem dX6_asksOf_67 : decode cX6_asksOf 67 = .ok (.iastore, 1) := by decide +kernel
theorem dX6_asksOf_68 : decode cX6_asksOf 68 = .ok (.aload_n 0, 1) := by decide +kernel
theorem dX6_asksOf_69 : decode cX6_asksOf 69 = .ok (.getfield 58, 3) := by decide +kernel
theorem dX6_asksOf_72 : decode cX6_asksOf 72 = .ok (.iconst 5, 1) := by decide +kernel
theorem dX6_asksOf_73 : decode cX6_asksOf 73 = .ok (.aload_n 0, 1) := by decide +kernel
theorem dX6_asksOf_74 : decode cX6_asksOf 74 = .ok (.getfield 13, 3) := by decide +kernel
theorem dX6_asksOf_77 : decode cX6_asksOf 77 = .ok (.iload_n 2, 1) := by decide +kernel
theorem dX6_asksOf_78 : decode cX6_asksOf 78 = .ok (.iaload, 1) := by decide +kernel
theorem dX6_asksOf_79 : decode cX6_asksOf 79 = .ok (.iastore, 1) := by decide +kernel
theorem dX6_asksOf_80 : decode cX6_asksOf 80 = .ok (.aload_n 0, 1) := by decide +kernel
theorem dX6_asksOf_81 : decode cX6_asksOf 81 = .ok (.iload_n 1, 1) := by decide +kernel
theorem dX6_asksOf_82 : decode cX6_asksOf 82 = .ok (.invokevirtual 161, 3) := by decide +kernel
theorem dX6_asksOf_85 : decode cX6_asksOf 85 = .ok (.iload_n 1, 1) := by decide +kernel
theorem dX6_asksOf_86 : decode cX6_asksOf 86 = .ok (.iconst 1, 1) := by decide +kernel
theorem dX6_asksOf_87 : decode cX6_asksOf 87 = .ok (.if_icmp .ne 8, 3) := by decide +kernel
theorem dX6_asksOf_90 : decode cX6_asksOf 90 = .ok (.bipush (-99), 2) := by decide +kernel
theorem dX6_asksOf_92 : decode cX6_asksOf 92 = .ok (.goto 4, 3) := by decide +kernel
theorem dX6_asksOf_95 : decode cX6_asksOf 95 = .ok (.iconst 0, 1) := by decide +kernel
theorem dX6_asksOf_96 : decode cX6_asksOf 96 = .ok (.bipush 99, 2) := by decide +kernel
theorem dX6_asksOf_98 : decode cX6_asksOf 98 = .ok (.invokestatic 155, 3) := by decide +kernel
theorem dX6_asksOf_101 : decode cX6_asksOf 101 = .ok (.ireturn, 1) := by decide +kernel
set_option maxRecDepth 20000 in
theorem ggX6_asks_X6_in : GoodIn wsX6_asks wsX6_in := goodIn_r _ [4] (by decide +kernel) (by decide +kernel)
set_option maxRecDepth 20000 in
theorem gX6_asks_X6_in : GoodIn wsX6_asks (va_wsS RX6 81 yX6_in wsX6_in) := goodIn_app (goodIn_of _ (by decide +kernel)) ggX6_asks_X6_in
set_option maxRecDepth 20000 in
theorem ggX6_asks_X6_isOne : GoodIn wsX6_asks wsX6_isOne := goodIn_r _ [8, 9, 1, 2, 3, 4, 37, 38, 39, 40, 41, 42, 43, 44, 45, 46, 47, 48, 49, 50, 51, 52, 53, 54, 55, 56, 57, 58, 59, 60, 61, 62, 63, 64, 65, 66, 67, 68, 69, 70] (by decide +kernel) (by decide +kernel)
set_option maxRecDepth 20000 in
theorem gX6_asks_X6_isOne : GoodIn wsX6_asks (wsV RX6 164 RX6 yX6_isOne wsX6_isOne) := goodIn_app (goodIn_of _ (by decide +kernel)) ggX6_asks_X6_isOne
set_option maxRecDepth 20000 in
theorem ggX6_asks_X6_asksOf : GoodIn wsX6_asks wsX6_asksOf := goodIn_r _ [13, 14, 15, 16, 9, 17, 18, 19, 3, 20, 21, 22, 23, 24, 25, 26, 27, 28, 29, 30, 31, 32, 33, 34, 35, 36, 37, 38, 39, 40, 41, 42, 43, 44, 45, 46, 47, 48, 49, 50, 51, 52, 53, 54, 55, 56, 57, 58, 59, 60, 61, 62, 63, 64, 65, 66, 67, 68, 69, 70] (by decide +kernel) (by decide +kernel)
set_option maxRecDepth 20000 in
theorem gX6_asks_X6_asksOf : GoodIn wsX6_asks (wsV RX6 167 RX6 yX6_asksOf wsX6_asksOf) := goodIn_app (goodIn_of _ (by decide +kernel)) ggX6_asks_X6_asksOf
theorem dX6_asks_0 : decode cX6_asks 0 = .ok (.iload_n 1, 1) := by decide +kernel
theorem dX6_asks_1 : decode cX6_asks 1 = .ok (.iconst 0, 1) := by decide +kernel
theorem dX6_asks_2 : decode cX6_asks 2 = .ok (.iconst 2, 1) := by decide +kernel
theorem dX6_asks_3 : decode cX6_asks 3 = .ok (.invokestatic 81, 3) := by decide +kernel
theorem dX6_asks_6 : decode cX6_asks 6 = .ok (.ifCond .eq 20, 3) := by decide +kernel
theorem dX6_asks_9 : decode cX6_asks 9 = .ok (.aload_n 0, 1) := by decide +kernel
theorem dX6_asks_10 : decode cX6_asks 10 = .ok (.iload_n 2, 1) := by decide +kernel
theorem dX6_asks_11 : decode cX6_asks 11 = .ok (.invokevirtual 164, 3) := by decide +kernel
theorem dX6_asks_14 : decode cX6_asks 14 = .ok (.ifCond .eq 12, 3) := by decide +kernel
theorem dX6_asks_17 : decode cX6_asks 17 = .ok (.aload_n 0, 1) := by decide +kernel
theorem dX6_asks_18 : decode cX6_asks 18 = .ok (.iload_n 1, 1) := by decide +kernel
theorem dX6_asks_19 : decode cX6_asks 19 = .ok (.iload_n 2, 1) := by decide +kernel
theorem dX6_asks_20 : decode cX6_asks 20 = .ok (.invokevirtual 167, 3) := by decide +kernel
theorem dX6_asks_23 : decode cX6_asks 23 = .ok (.goto 6, 3) := by decide +kernel
theorem dX6_asks_26 : decode cX6_asks 26 = .ok (.sipush (-1000), 3) := by decide +kernel
theorem dX6_asks_29 : decode cX6_asks 29 = .ok (.ireturn, 1) := by decide +kernel
set_option maxRecDepth 20000 in
theorem ggX6_person_X6_in : GoodIn wsX6_person wsX6_in := goodIn_r _ [9] (by decide +kernel) (by decide +kernel)
set_option maxRecDepth 20000 in
theorem gX6_person_X6_in : GoodIn wsX6_person (va_wsS RX6 81 yX6_in wsX6_in) := goodIn_app (goodIn_of _ (by decide +kernel)) ggX6_person_X6_in
theorem dX6_person_0 : decode cX6_person 0 = .ok (.iload_n 1, 1) := by decide +kernel
theorem dX6_person_1 : decode cX6_person 1 = .ok (.iconst 0, 1) := by decide +kernel
theorem dX6_person_2 : decode cX6_person 2 = .ok (.bipush 59, 2) := by decide +kernel
theorem dX6_person_4 : decode cX6_person 4 = .ok (.invokestatic 81, 3) := by decide +kernel
theorem dX6_person_7 : decode cX6_person 7 = .ok (.ifCond .eq 23, 3) := by decide +kernel
theorem dX6_person_10 : decode cX6_person 10 = .ok (.iload_n 2, 1) := by decide +kernel
theorem dX6_person_11 : decode cX6_person 11 = .ok (.iconst 0, 1) := by decide +kernel
theorem dX6_person_12 : decode cX6_person 12 = .ok (.bipush 99, 2) := by decide +kernel
theorem dX6_person_14 : decode cX6_person 14 = .ok (.invokestatic 81, 3) := by decide +kernel
theorem dX6_person_17 : decode cX6_person 17 = .ok (.ifCond .eq 13, 3) := by decide +kernel
theorem dX6_person_20 : decode cX6_person 20 = .ok (.iload_n 3, 1) := by decide +kernel
theorem dX6_person_21 : decode cX6_person 21 = .ok (.iconst 0, 1) := by decide +kernel
theorem dX6_person_22 : decode cX6_person 22 = .ok (.ldc 170, 2) := by decide +kernel
theorem dX6_person_24 : decode cX6_person 24 = .ok (.invokestatic 81, 3) := by decide +kernel
theorem dX6_person_27 : decode cX6_person 27 = .ok (.ifCond .ne 6, 3) := by decide +kernel
theorem dX6_person_30 : decode cX6_person 30 = .ok (.bipush (-2), 2) := by decide +kernel
theorem dX6_person_32 : decode cX6_person 32 = .ok (.ireturn, 1) := by decide +kernel
theorem dX6_person_33 : decode cX6_person 33 = .ok (.aload_n 0, 1) := by decide +kernel
theorem dX6_person_34 : decode cX6_person 34 = .ok (.getfield 78, 3) := by decide +kernel
theorem dX6_person_37 : decode cX6_person 37 = .ok (.bipush 6, 2) := by decide +kernel
theorem dX6_person_39 : decode cX6_person 39 = .ok (.if_icmp .ne 6, 3) := by decide +kernel
theorem dX6_person_42 : decode cX6_person 42 = .ok (.bipush (-4), 2) := by decide +kernel
theorem dX6_person_44 : decode cX6_person 44 = .ok (.ireturn, 1) := by decide +kernel
theorem dX6_person_45 : decode cX6_person 45 = .ok (.aload_n 0, 1) := by decide +kernel
theorem dX6_person_46 : decode cX6_person 46 = .ok (.getfield 7, 3) := by decide +kernel
theorem dX6_person_49 : decode cX6_person 49 = .ok (.aload_n 0, 1) := by decide +kernel
theorem dX6_person_50 : decode cX6_person 50 = .ok (.getfield 78, 3) := by decide +kernel
theorem dX6_person_53 : decode cX6_person 53 = .ok (.iload_n 1, 1) := by decide +kernel
theorem dX6_person_54 : decode cX6_person 54 = .ok (.bipush 10, 2) := by decide +kernel
theorem dX6_person_56 : decode cX6_person 56 = .ok (.idiv, 1) := by decide +kernel
theorem dX6_person_57 : decode cX6_person 57 = .ok (.iastore, 1) := by decide +kernel
theorem dX6_person_58 : decode cX6_person 58 = .ok (.aload_n 0, 1) := by decide +kernel
theorem dX6_person_59 : decode cX6_person 59 = .ok (.getfield 13, 3) := by decide +kernel
theorem dX6_person_62 : decode cX6_person 62 = .ok (.aload_n 0, 1) := by decide +kernel
theorem dX6_person_63 : decode cX6_person 63 = .ok (.getfield 78, 3) := by decide +kernel
theorem dX6_person_66 : decode cX6_person 66 = .ok (.iload_n 1, 1) := by decide +kernel
theorem dX6_person_67 : decode cX6_person 67 = .ok (.bipush 10, 2) := by decide +kernel
theorem dX6_person_69 : decode cX6_person 69 = .ok (.irem, 1) := by decide +kernel
theorem dX6_person_70 : decode cX6_person 70 = .ok (.iastore, 1) := by decide +kernel
theorem dX6_person_71 : decode cX6_person 71 = .ok (.aload_n 0, 1) := by decide +kernel
theorem dX6_person_72 : decode cX6_person 72 = .ok (.getfield 16, 3) := by decide +kernel
theorem dX6_person_75 : decode cX6_person 75 = .ok (.iconst 4, 1) := by decide +kernel
theorem dX6_person_76 : decode cX6_person 76 = .ok (.aload_n 0, 1) := by decide +kernel
theorem dX6_person_77 : decode cX6_person 77 = .ok (.getfield 78, 3) := by decide +kernel
theorem dX6_person_80 : decode cX6_person 80 = .ok (.imul, 1) := by decide +kernel
theorem dX6_person_81 : decode cX6_person 81 = .ok (.iload_n 2, 1) := by decide +kernel
theorem dX6_person_82 : decode cX6_person 82 = .ok (.iastore, 1) := by decide +kernel
theorem dX6_person_83 : decode cX6_person 83 = .ok (.aload_n 0, 1) := by decide +kernel
theorem dX6_person_84 : decode cX6_person 84 = .ok (.getfield 16, 3) := by decide +kernel
theorem dX6_person_87 : decode cX6_person 87 = .ok (.iconst 4, 1) := by decide +kernel
theorem dX6_person_88 : decode cX6_person 88 = .ok (.aload_n 0, 1) := by decide +kernel
theorem dX6_person_89 : decode cX6_person 89 = .ok (.getfield 78, 3) := by decide +kernel
theorem dX6_person_92 : decode cX6_person 92 = .ok (.imul, 1) := by decide +kernel
theorem dX6_person_93 : decode cX6_person 93 = .ok (.iconst 1, 1) := by decide +kernel
theorem dX6_person_94 : decode cX6_person 94 = .ok (.iadd, 1) := by decide +kernel
theorem dX6_person_95 : decode cX6_person 95 = .ok (.iconst 0, 1) := by decide +kernel
theorem dX6_person_96 : decode cX6_person 96 = .ok (.iastore, 1) := by decide +kernel
theorem dX6_person_97 : decode cX6_person 97 = .ok (.aload_n 0, 1) := by decide +kernel
theorem dX6_person_98 : decode cX6_person 98 = .ok (.getfield 16, 3) := by decide +kernel
theorem dX6_person_101 : decode cX6_person 101 = .ok (.iconst 4, 1) := by decide +kernel
theorem dX6_person_102 : decode cX6_person 102 = .ok (.aload_n 0, 1) := by decide +kernel
theorem dX6_person_103 : decode cX6_person 103 = .ok (.getfield 78, 3) := by decide +kernel
theorem dX6_person_106 : decode cX6_person 106 = .ok (.imul, 1) := by decide +kernel
theorem dX6_person_107 : decode cX6_person 107 = .ok (.iconst 2, 1) := by decide +kernel
theorem dX6_person_108 : decode cX6_person 108 = .ok (.iadd, 1) := by decide +kernel
theorem dX6_person_109 : decode cX6_person 109 = .ok (.iload_n 3, 1) := by decide +kernel
theorem dX6_person_110 : decode cX6_person 110 = .ok (.iastore, 1) := by decide +kernel
theorem dX6_person_111 : decode cX6_person 111 = .ok (.aload_n 0, 1) := by decide +kernel
theorem dX6_person_112 : decode cX6_person 112 = .ok (.getfield 16, 3) := by decide +kernel
theorem dX6_person_115 : decode cX6_person 115 = .ok (.iconst 4, 1) := by decide +kernel
theorem dX6_person_116 : decode cX6_person 116 = .ok (.aload_n 0, 1) := by decide +kernel
theorem dX6_person_117 : decode cX6_person 117 = .ok (.getfield 78, 3) := by decide +kernel
theorem dX6_person_120 : decode cX6_person 120 = .ok (.imul, 1) := by decide +kernel
theorem dX6_person_121 : decode cX6_person 121 = .ok (.iconst 3, 1) := by decide +kernel
theorem dX6_person_122 : decode cX6_person 122 = .ok (.iadd, 1) := by decide +kernel
theorem dX6_person_123 : decode cX6_person 123 = .ok (.iconst 0, 1) := by decide +kernel
theorem dX6_person_124 : decode cX6_person 124 = .ok (.iastore, 1) := by decide +kernel
theorem dX6_person_125 : decode cX6_person 125 = .ok (.aload_n 0, 1) := by decide +kernel
theorem dX6_person_126 : decode cX6_person 126 = .ok (.dup, 1) := by decide +kernel
theorem dX6_person_127 : decode cX6_person 127 = .ok (.getfield 78, 3) := by decide +kernel
theorem dX6_person_130 : decode cX6_person 130 = .ok (.iconst 1, 1) := by decide +kernel
theorem dX6_person_131 : decode cX6_person 131 = .ok (.iadd, 1) := by decide +kernel
theorem dX6_person_132 : decode cX6_person 132 = .ok (.putfield 78, 3) := by decide +kernel
theorem dX6_person_135 : decode cX6_person 135 = .ok (.aload_n 0, 1) := by decide +kernel
theorem dX6_person_136 : decode cX6_person 136 = .ok (.getfield 78, 3) := by decide +kernel
theorem dX6_person_139 : decode cX6_person 139 = .ok (.iconst 1, 1) := by decide +kernel
theorem dX6_person_140 : decode cX6_person 140 = .ok (.isub, 1) := by decide +kernel
theorem dX6_person_141 : decode cX6_person 141 = .ok (.ireturn, 1) := by decide +kernel
theorem dX6_mostOf_0 : decode cX6_mostOf 0 = .ok (.iload_n 0, 1) := by decide +kernel
theorem dX6_mostOf_1 : decode cX6_mostOf 1 = .ok (.ifCond .ne 8, 3) := by decide +kernel
theorem dX6_mostOf_4 : decode cX6_mostOf 4 = .ok (.bipush 99, 2) := by decide +kernel
theorem dX6_mostOf_6 : decode cX6_mostOf 6 = .ok (.goto 25, 3) := by decide +kernel
theorem dX6_mostOf_9 : decode cX6_mostOf 9 = .ok (.iload_n 0, 1) := by decide +kernel
theorem dX6_mostOf_10 : decode cX6_mostOf 10 = .ok (.iconst 1, 1) := by decide +kernel
theorem dX6_mostOf_11 : decode cX6_mostOf 11 = .ok (.if_icmp .ne 9, 3) := by decide +kernel
theorem dX6_mostOf_14 : decode cX6_mostOf 14 = .ok (.sipush 9999, 3) := by decide +kernel
theorem dX6_mostOf_17 : decode cX6_mostOf 17 = .ok (.goto 14, 3) := by decide +kernel
theorem dX6_mostOf_20 : decode cX6_mostOf 20 = .ok (.iload_n 0, 1) := by decide +kernel
theorem dX6_mostOf_21 : decode cX6_mostOf 21 = .ok (.iconst 2, 1) := by decide +kernel
theorem dX6_mostOf_22 : decode cX6_mostOf 22 = .ok (.if_icmp .ne 8, 3) := by decide +kernel
theorem dX6_mostOf_25 : decode cX6_mostOf 25 = .ok (.ldc 170, 2) := by decide +kernel
theorem dX6_mostOf_27 : decode cX6_mostOf 27 = .ok (.goto 4, 3) := by decide +kernel
theorem dX6_mostOf_30 : decode cX6_mostOf 30 = .ok (.iconst 1, 1) := by decide +kernel
theorem dX6_mostOf_31 : decode cX6_mostOf 31 = .ok (.ireturn, 1) := by decide +kernel
set_option maxRecDepth 20000 in
theorem ggX6_put_X6_isOne : GoodIn wsX6_put wsX6_isOne := goodIn_r _ [6, 7, 8, 9, 5, 10, 15, 16, 17, 18, 19, 20, 21, 22, 23, 24, 25, 26, 27, 28, 29, 30, 31, 32, 33, 34, 35, 36, 37, 38, 39, 40, 41, 42, 43, 44, 45, 46, 47, 48] (by decide +kernel) (by decide +kernel)
set_option maxRecDepth 20000 in
theorem gX6_put_X6_isOne : GoodIn wsX6_put (wsV RX6 164 RX6 yX6_isOne wsX6_isOne) := goodIn_app (goodIn_of _ (by decide +kernel)) ggX6_put_X6_isOne
set_option maxRecDepth 20000 in
theorem ggX6_put_X6_in : GoodIn wsX6_put wsX6_in := goodIn_r _ [10] (by decide +kernel) (by decide +kernel)
set_option maxRecDepth 20000 in
theorem gX6_put_X6_in : GoodIn wsX6_put (va_wsS RX6 81 yX6_in wsX6_in) := goodIn_app (goodIn_of _ (by decide +kernel)) ggX6_put_X6_in
set_option maxRecDepth 20000 in
theorem ggX6_put_X6_mostOf : GoodIn wsX6_put wsX6_mostOf := goodIn_r _ [13, 14] (by decide +kernel) (by decide +kernel)
set_option maxRecDepth 20000 in
theorem gX6_put_X6_mostOf : GoodIn wsX6_put (va_wsS RX6 171 yX6_mostOf wsX6_mostOf) := goodIn_app (goodIn_of _ (by decide +kernel)) ggX6_put_X6_mostOf
theorem dX6_put_0 : decode cX6_put 0 = .ok (.aload_n 0, 1) := by decide +kernel
theorem dX6_put_1 : decode cX6_put 1 = .ok (.iload_n 1, 1) := by decide +kernel
theorem dX6_put_2 : decode cX6_put 2 = .ok (.invokevirtual 164, 3) := by decide +kernel
theorem dX6_put_5 : decode cX6_put 5 = .ok (.ifCond .ne 6, 3) := by decide +kernel
theorem dX6_put_8 : decode cX6_put 8 = .ok (.bipush (-5), 2) := by decide +kernel
theorem dX6_put_10 : decode cX6_put 10 = .ok (.ireturn, 1) := by decide +kernel
theorem dX6_put_11 : decode cX6_put 11 = .ok (.iload_n 2, 1) := by decide +kernel
theorem dX6_put_12 : decode cX6_put 12 = .ok (.iconst 0, 1) := by decide +kernel
theorem dX6_put_13 : decode cX6_put 13 = .ok (.iconst 3, 1) := by decide +kernel
theorem dX6_put_14 : decode cX6_put 14 = .ok (.invokestatic 81, 3) := by decide +kernel
theorem dX6_put_17 : decode cX6_put 17 = .ok (.ifCond .eq 15, 3) := by decide +kernel
theorem dX6_put_20 : decode cX6_put 20 = .ok (.iload_n 3, 1) := by decide +kernel
theorem dX6_put_21 : decode cX6_put 21 = .ok (.iconst 0, 1) := by decide +kernel
theorem dX6_put_22 : decode cX6_put 22 = .ok (.iload_n 2, 1) := by decide +kernel
theorem dX6_put_23 : decode cX6_put 23 = .ok (.invokestatic 171, 3) := by decide +kernel
theorem dX6_put_26 : decode cX6_put 26 = .ok (.invokestatic 81, 3) := by decide +kernel
theorem dX6_put_29 : decode cX6_put 29 = .ok (.ifCond .ne 6, 3) := by decide +kernel
theorem dX6_put_32 : decode cX6_put 32 = .ok (.bipush (-7), 2) := by decide +kernel
theorem dX6_put_34 : decode cX6_put 34 = .ok (.ireturn, 1) := by decide +kernel
theorem dX6_put_35 : decode cX6_put 35 = .ok (.aload_n 0, 1) := by decide +kernel
theorem dX6_put_36 : decode cX6_put 36 = .ok (.getfield 16, 3) := by decide +kernel
theorem dX6_put_39 : decode cX6_put 39 = .ok (.iconst 4, 1) := by decide +kernel
theorem dX6_put_40 : decode cX6_put 40 = .ok (.iload_n 1, 1) := by decide +kernel
theorem dX6_put_41 : decode cX6_put 41 = .ok (.imul, 1) := by decide +kernel
theorem dX6_put_42 : decode cX6_put 42 = .ok (.iload_n 2, 1) := by decide +kernel
theorem dX6_put_43 : decode cX6_put 43 = .ok (.iadd, 1) := by decide +kernel
theorem dX6_put_44 : decode cX6_put 44 = .ok (.iaload, 1) := by decide +kernel
theorem dX6_put_45 : decode cX6_put 45 = .ok (.istore 4, 2) := by decide +kernel
theorem dX6_put_47 : decode cX6_put 47 = .ok (.aload_n 0, 1) := by decide +kernel
theorem dX6_put_48 : decode cX6_put 48 = .ok (.getfield 16, 3) := by decide +kernel
theorem dX6_put_51 : decode cX6_put 51 = .ok (.iconst 4, 1) := by decide +kernel
theorem dX6_put_52 : decode cX6_put 52 = .ok (.iload_n 1, 1) := by decide +kernel
theorem dX6_put_53 : decode cX6_put 53 = .ok (.imul, 1) := by decide +kernel
theorem dX6_put_54 : decode cX6_put 54 = .ok (.iload_n 2, 1) := by decide +kernel
theorem dX6_put_55 : decode cX6_put 55 = .ok (.iadd, 1) := by decide +kernel
theorem dX6_put_56 : decode cX6_put 56 = .ok (.iload_n 3, 1) := by decide +kernel
theorem dX6_put_57 : decode cX6_put 57 = .ok (.iastore, 1) := by decide +kernel
theorem dX6_put_58 : decode cX6_put 58 = .ok (.iload 4, 2) := by decide +kernel
theorem dX6_put_60 : decode cX6_put 60 = .ok (.ireturn, 1) := by decide +kernel
set_option maxRecDepth 20000 in
theorem ggX6_lies_X6_ofDay : GoodIn wsX6_lies wsX6_ofDay := goodIn_r _ [9, 4, 31, 32, 33, 34, 35, 36, 37, 38, 39, 40, 41, 42, 43, 44, 45, 46, 47, 48, 49, 50, 51, 52, 53, 54, 55, 56, 57, 58, 59, 60, 61, 62, 63, 64] (by decide +kernel) (by decide +kernel)
set_option maxRecDepth 20000 in
theorem gX6_lies_X6_ofDay : GoodIn wsX6_lies (wsV RX6 158 RX6 yX6_ofDay wsX6_ofDay) := goodIn_app (goodIn_of _ (by decide +kernel)) ggX6_lies_X6_ofDay
set_option maxRecDepth 20000 in
theorem ggX6_lies_X6_asksOf : GoodIn wsX6_lies wsX6_asksOf := goodIn_r _ [13, 14, 1, 4, 15, 3, 16, 17, 8, 18, 5, 6, 7, 9, 19, 20, 21, 22, 23, 24, 25, 26, 27, 28, 29, 30, 31, 32, 33, 34, 35, 36, 37, 38, 39, 40, 41, 42, 43, 44, 45, 46, 47, 48, 49, 50, 51, 52, 53, 54, 55, 56, 57, 58, 59, 60, 61, 62, 63, 64] (by decide +kernel) (by decide +kernel)
set_option maxRecDepth 20000 in
theorem gX6_lies_X6_asksOf : GoodIn wsX6_lies (wsV RX6 167 RX6 yX6_asksOf wsX6_asksOf) := goodIn_app (goodIn_of _ (by decide +kernel)) ggX6_lies_X6_asksOf
theorem dX6_lies_0 : decode cX6_lies 0 = .ok (.aload_n 0, 1) := by decide +kernel
theorem dX6_lies_1 : decode cX6_lies 1 = .ok (.getfield 16, 3) := by decide +kernel
theorem dX6_lies_4 : decode cX6_lies 4 = .ok (.iconst 4, 1) := by decide +kernel
theorem dX6_lies_5 : decode cX6_lies 5 = .ok (.iload_n 1, 1) := by decide +kernel
theorem dX6_lies_6 : decode cX6_lies 6 = .ok (.imul, 1) := by decide +kernel
theorem dX6_lies_7 : decode cX6_lies 7 = .ok (.iconst 3, 1) := by decide +kernel
theorem dX6_lies_8 : decode cX6_lies 8 = .ok (.iadd, 1) := by decide +kernel
theorem dX6_lies_9 : decode cX6_lies 9 = .ok (.iaload, 1) := by decide +kernel
theorem dX6_lies_10 : decode cX6_lies 10 = .ok (.iconst 1, 1) := by decide +kernel
theorem dX6_lies_11 : decode cX6_lies 11 = .ok (.if_icmp .ne 5, 3) := by decide +kernel
theorem dX6_lies_14 : decode cX6_lies 14 = .ok (.iconst 0, 1) := by decide +kernel
theorem dX6_lies_15 : decode cX6_lies 15 = .ok (.ireturn, 1) := by decide +kernel
theorem dX6_lies_16 : decode cX6_lies 16 = .ok (.aload_n 0, 1) := by decide +kernel
theorem dX6_lies_17 : decode cX6_lies 17 = .ok (.getfield 16, 3) := by decide +kernel
theorem dX6_lies_20 : decode cX6_lies 20 = .ok (.iconst 4, 1) := by decide +kernel
theorem dX6_lies_21 : decode cX6_lies 21 = .ok (.iload_n 1, 1) := by decide +kernel
theorem dX6_lies_22 : decode cX6_lies 22 = .ok (.imul, 1) := by decide +kernel
theorem dX6_lies_23 : decode cX6_lies 23 = .ok (.iconst 2, 1) := by decide +kernel
theorem dX6_lies_24 : decode cX6_lies 24 = .ok (.iadd, 1) := by decide +kernel
theorem dX6_lies_25 : decode cX6_lies 25 = .ok (.iaload, 1) := by decide +kernel
theorem dX6_lies_26 : decode cX6_lies 26 = .ok (.aload_n 0, 1) := by decide +kernel
theorem dX6_lies_27 : decode cX6_lies 27 = .ok (.invokevirtual 158, 3) := by decide +kernel
theorem dX6_lies_30 : decode cX6_lies 30 = .ok (.ishr, 1) := by decide +kernel
theorem dX6_lies_31 : decode cX6_lies 31 = .ok (.iconst 1, 1) := by decide +kernel
theorem dX6_lies_32 : decode cX6_lies 32 = .ok (.iand, 1) := by decide +kernel
theorem dX6_lies_33 : decode cX6_lies 33 = .ok (.iconst 1, 1) := by decide +kernel
theorem dX6_lies_34 : decode cX6_lies 34 = .ok (.if_icmp .ne 7, 3) := by decide +kernel
theorem dX6_lies_37 : decode cX6_lies 37 = .ok (.iconst 1, 1) := by decide +kernel
theorem dX6_lies_38 : decode cX6_lies 38 = .ok (.goto 4, 3) := by decide +kernel
theorem dX6_lies_41 : decode cX6_lies 41 = .ok (.iconst 0, 1) := by decide +kernel
theorem dX6_lies_42 : decode cX6_lies 42 = .ok (.istore_n 2, 1) := by decide +kernel
theorem dX6_lies_43 : decode cX6_lies 43 = .ok (.aload_n 0, 1) := by decide +kernel
theorem dX6_lies_44 : decode cX6_lies 44 = .ok (.getfield 7, 3) := by decide +kernel
theorem dX6_lies_47 : decode cX6_lies 47 = .ok (.iload_n 1, 1) := by decide +kernel
theorem dX6_lies_48 : decode cX6_lies 48 = .ok (.iaload, 1) := by decide +kernel
theorem dX6_lies_49 : decode cX6_lies 49 = .ok (.iconst 5, 1) := by decide +kernel
theorem dX6_lies_50 : decode cX6_lies 50 = .ok (.if_icmp .ne 5, 3) := by decide +kernel
theorem dX6_lies_53 : decode cX6_lies 53 = .ok (.iconst 1, 1) := by decide +kernel
theorem dX6_lies_54 : decode cX6_lies 54 = .ok (.ireturn, 1) := by decide +kernel
theorem dX6_lies_55 : decode cX6_lies 55 = .ok (.aload_n 0, 1) := by decide +kernel
theorem dX6_lies_56 : decode cX6_lies 56 = .ok (.getfield 7, 3) := by decide +kernel
theorem dX6_lies_59 : decode cX6_lies 59 = .ok (.iload_n 1, 1) := by decide +kernel
theorem dX6_lies_60 : decode cX6_lies 60 = .ok (.iaload, 1) := by decide +kernel
theorem dX6_lies_61 : decode cX6_lies 61 = .ok (.iconst 4, 1) := by decide +kernel
theorem dX6_lies_62 : decode cX6_lies 62 = .ok (.if_icmp .ne 5, 3) := by decide +kernel
theorem dX6_lies_65 : decode cX6_lies 65 = .ok (.iload_n 2, 1) := by decide +kernel
theorem dX6_lies_66 : decode cX6_lies 66 = .ok (.ireturn, 1) := by decide +kernel
theorem dX6_lies_67 : decode cX6_lies 67 = .ok (.aload_n 0, 1) := by decide +kernel
theorem dX6_lies_68 : decode cX6_lies 68 = .ok (.iconst 0, 1) := by decide +kernel
theorem dX6_lies_69 : decode cX6_lies 69 = .ok (.iload_n 1, 1) := by decide +kernel
theorem dX6_lies_70 : decode cX6_lies 70 = .ok (.invokevirtual 167, 3) := by decide +kernel
theorem dX6_lies_73 : decode cX6_lies 73 = .ok (.ifCond .eq 7, 3) := by decide +kernel
theorem dX6_lies_76 : decode cX6_lies 76 = .ok (.iconst 1, 1) := by decide +kernel
theorem dX6_lies_77 : decode cX6_lies 77 = .ok (.goto 4, 3) := by decide +kernel
theorem dX6_lies_80 : decode cX6_lies 80 = .ok (.iconst 0, 1) := by decide +kernel
theorem dX6_lies_81 : decode cX6_lies 81 = .ok (.istore_n 3, 1) := by decide +kernel
theorem dX6_lies_82 : decode cX6_lies 82 = .ok (.iload_n 3, 1) := by decide +kernel
theorem dX6_lies_83 : decode cX6_lies 83 = .ok (.ifCond .eq 27, 3) := by decide +kernel
theorem dX6_lies_86 : decode cX6_lies 86 = .ok (.iload_n 2, 1) := by decide +kernel
theorem dX6_lies_87 : decode cX6_lies 87 = .ok (.ifCond .ne 19, 3) := by decide +kernel
theorem dX6_lies_90 : decode cX6_lies 90 = .ok (.aload_n 0, 1) := by decide +kernel
theorem dX6_lies_91 : decode cX6_lies 91 = .ok (.invokevirtual 158, 3) := by decide +kernel
theorem dX6_lies_94 : decode cX6_lies 94 = .ok (.bipush 12, 2) := by decide +kernel
theorem dX6_lies_96 : decode cX6_lies 96 = .ok (.irem, 1) := by decide +kernel
theorem dX6_lies_97 : decode cX6_lies 97 = .ok (.aload_n 0, 1) := by decide +kernel
theorem dX6_lies_98 : decode cX6_lies 98 = .ok (.getfield 13, 3) := by decide +kernel
theorem dX6_lies_101 : decode cX6_lies 101 = .ok (.iload_n 1, 1) := by decide +kernel
theorem dX6_lies_102 : decode cX6_lies 102 = .ok (.iaload, 1) := by decide +kernel
theorem dX6_lies_103 : decode cX6_lies 103 = .ok (.if_icmp .ne 7, 3) := by decide +kernel
theorem dX6_lies_106 : decode cX6_lies 106 = .ok (.iconst 1, 1) := by decide +kernel
theorem dX6_lies_107 : decode cX6_lies 107 = .ok (.goto 4, 3) := by decide +kernel
theorem dX6_lies_110 : decode cX6_lies 110 = .ok (.iconst 0, 1) := by decide +kernel
theorem dX6_lies_111 : decode cX6_lies 111 = .ok (.istore 4, 2) := by decide +kernel
theorem dX6_lies_113 : decode cX6_lies 113 = .ok (.aload_n 0, 1) := by decide +kernel
theorem dX6_lies_114 : decode cX6_lies 114 = .ok (.getfield 7, 3) := by decide +kernel
theorem dX6_lies_117 : decode cX6_lies 117 = .ok (.iload_n 1, 1) := by decide +kernel
theorem dX6_lies_118 : decode cX6_lies 118 = .ok (.iaload, 1) := by decide +kernel
theorem dX6_lies_119 : decode cX6_lies 119 = .ok (.iconst 1, 1) := by decide +kernel
theorem dX6_lies_120 : decode cX6_lies 120 = .ok (.if_icmp .ne 8, 3) := by decide +kernel
theorem dX6_lies_123 : decode cX6_lies 123 = .ok (.iload 4, 2) := by decide +kernel
theorem dX6_lies_125 : decode cX6_lies 125 = .ok (.goto 54, 3) := by decide +kernel
theorem dX6_lies_128 : decode cX6_lies 128 = .ok (.aload_n 0, 1) := by decide +kernel
theorem dX6_lies_129 : decode cX6_lies 129 = .ok (.getfield 7, 3) := by decide +kernel
theorem dX6_lies_132 : decode cX6_lies 132 = .ok (.iload_n 1, 1) := by decide +kernel
theorem dX6_lies_133 : decode cX6_lies 133 = .ok (.iaload, 1) := by decide +kernel
theorem dX6_lies_134 : decode cX6_lies 134 = .ok (.iconst 3, 1) := by decide +kernel
theorem dX6_lies_135 : decode cX6_lies 135 = .ok (.if_icmp .ne 31, 3) := by decide +kernel
theorem dX6_lies_138 : decode cX6_lies 138 = .ok (.iload 4, 2) := by decide +kernel
theorem dX6_lies_140 : decode cX6_lies 140 = .ok (.ifCond .eq 22, 3) := by decide +kernel
theorem dX6_lies_143 : decode cX6_lies 143 = .ok (.aload_n 0, 1) := by decide +kernel
theorem dX6_lies_144 : decode cX6_lies 144 = .ok (.getfield 19, 3) := by decide +kernel
theorem dX6_lies_147 : decode cX6_lies 147 = .ok (.iconst 2, 1) := by decide +kernel
theorem dX6_lies_148 : decode cX6_lies 148 = .ok (.iaload, 1) := by decide +kernel
theorem dX6_lies_149 : decode cX6_lies 149 = .ok (.aload_n 0, 1) := by decide +kernel
theorem dX6_lies_150 : decode cX6_lies 150 = .ok (.getfield 13, 3) := by decide +kernel
theorem dX6_lies_153 : decode cX6_lies 153 = .ok (.iload_n 1, 1) := by decide +kernel
theorem dX6_lies_154 : decode cX6_lies 154 = .ok (.iaload, 1) := by decide +kernel
theorem dX6_lies_155 : decode cX6_lies 155 = .ok (.if_icmp .le 7, 3) := by decide +kernel
theorem dX6_lies_158 : decode cX6_lies 158 = .ok (.iconst 1, 1) := by decide +kernel
theorem dX6_lies_159 : decode cX6_lies 159 = .ok (.goto 20, 3) := by decide +kernel
theorem dX6_lies_162 : decode cX6_lies 162 = .ok (.iconst 0, 1) := by decide +kernel
theorem dX6_lies_163 : decode cX6_lies 163 = .ok (.goto 16, 3) := by decide +kernel
theorem dX6_lies_166 : decode cX6_lies 166 = .ok (.iload_n 3, 1) := by decide +kernel
theorem dX6_lies_167 : decode cX6_lies 167 = .ok (.ifCond .eq 11, 3) := by decide +kernel
theorem dX6_lies_170 : decode cX6_lies 170 = .ok (.iload_n 2, 1) := by decide +kernel
theorem dX6_lies_171 : decode cX6_lies 171 = .ok (.ifCond .eq 7, 3) := by decide +kernel
theorem dX6_lies_174 : decode cX6_lies 174 = .ok (.iconst 1, 1) := by decide +kernel
theorem dX6_lies_175 : decode cX6_lies 175 = .ok (.goto 4, 3) := by decide +kernel
theorem dX6_lies_178 : decode cX6_lies 178 = .ok (.iconst 0, 1) := by decide +kernel
theorem dX6_lies_179 : decode cX6_lies 179 = .ok (.ireturn, 1) := by decide +kernel
set_option maxRecDepth 20000 in
theorem ggX6_costsOf_X6_asksOf : GoodIn wsX6_costsOf wsX6_asksOf := goodIn_r _ [7, 8, 9, 2, 10, 11, 12, 13, 6, 14, 15, 16, 17, 18, 19, 20, 21, 22, 23, 24, 25, 26, 27, 28, 29, 30, 31, 32, 33, 34, 35, 36, 37, 38, 39, 40, 41, 42, 43, 44, 45, 46, 47, 48, 49, 50, 51, 52, 53, 54, 55, 56, 57, 58, 59, 60, 61, 62, 63, 64] (by decide +kernel) (by decide +kernel)
set_option maxRecDepth 20000 in
theorem gX6_costsOf_X6_asksOf : GoodIn wsX6_costsOf (wsV RX6 167 RX6 yX6_asksOf wsX6_asksOf) := goodIn_app (goodIn_of _ (by decide +kernel)) ggX6_costsOf_X6_asksOf
theorem dX6_costsOf_0 : decode cX6_costsOf 0 = .ok (.aload_n 0, 1) := by decide +kernel
theorem dX6_costsOf_1 : decode cX6_costsOf 1 = .ok (.iconst 1, 1) := by decide +kernel
theorem dX6_costsOf_2 : decode cX6_costsOf 2 = .ok (.iload_n 1, 1) := by decide +kernel
theorem dX6_costsOf_3 : decode cX6_costsOf 3 = .ok (.invokevirtual 167, 3) := by decide +kernel
theorem dX6_costsOf_6 : decode cX6_costsOf 6 = .ok (.istore_n 2, 1) := by decide +kernel
theorem dX6_costsOf_7 : decode cX6_costsOf 7 = .ok (.aload_n 0, 1) := by decide +kernel
theorem dX6_costsOf_8 : decode cX6_costsOf 8 = .ok (.getfield 7, 3) := by decide +kernel
theorem dX6_costsOf_11 : decode cX6_costsOf 11 = .ok (.iload_n 1, 1) := by decide +kernel
theorem dX6_costsOf_12 : decode cX6_costsOf 12 = .ok (.iaload, 1) := by decide +kernel
theorem dX6_costsOf_13 : decode cX6_costsOf 13 = .ok (.tableswitch 51 1 4 #[31, 35, 31, 35], 31) := by decide +kernel
theorem dX6_costsOf_44 : decode cX6_costsOf 44 = .ok (.iload_n 2, 1) := by decide +kernel
theorem dX6_costsOf_45 : decode cX6_costsOf 45 = .ok (.iconst 2, 1) := by decide +kernel
theorem dX6_costsOf_46 : decode cX6_costsOf 46 = .ok (.idiv, 1) := by decide +kernel
theorem dX6_costsOf_47 : decode cX6_costsOf 47 = .ok (.ireturn, 1) := by decide +kernel
theorem dX6_costsOf_48 : decode cX6_costsOf 48 = .ok (.aload_n 0, 1) := by decide +kernel
theorem dX6_costsOf_49 : decode cX6_costsOf 49 = .ok (.getfield 19, 3) := by decide +kernel
theorem dX6_costsOf_52 : decode cX6_costsOf 52 = .ok (.iconst 2, 1) := by decide +kernel
theorem dX6_costsOf_53 : decode cX6_costsOf 53 = .ok (.iaload, 1) := by decide +kernel
theorem dX6_costsOf_54 : decode cX6_costsOf 54 = .ok (.iconst 5, 1) := by decide +kernel
theorem dX6_costsOf_55 : decode cX6_costsOf 55 = .ok (.if_icmp .lt 7, 3) := by decide +kernel
theorem dX6_costsOf_58 : decode cX6_costsOf 58 = .ok (.iconst 0, 1) := by decide +kernel
theorem dX6_costsOf_59 : decode cX6_costsOf 59 = .ok (.goto 4, 3) := by decide +kernel
theorem dX6_costsOf_62 : decode cX6_costsOf 62 = .ok (.iload_n 2, 1) := by decide +kernel
theorem dX6_costsOf_63 : decode cX6_costsOf 63 = .ok (.ireturn, 1) := by decide +kernel
theorem dX6_costsOf_64 : decode cX6_costsOf 64 = .ok (.iload_n 2, 1) := by decide +kernel
theorem dX6_costsOf_65 : decode cX6_costsOf 65 = .ok (.ireturn, 1) := by decide +kernel
set_option maxRecDepth 20000 in
theorem ggX6_strokesOf_X6_asksOf : GoodIn wsX6_strokesOf wsX6_asksOf := goodIn_r _ [7, 8, 9, 10, 11, 2, 12, 13, 6, 14, 15, 16, 17, 18, 19, 20, 21, 22, 23, 24, 25, 26, 27, 28, 29, 30, 31, 32, 33, 34, 35, 36, 37, 38, 39, 40, 41, 42, 43, 44, 45, 46, 47, 48, 49, 50, 51, 52, 53, 54, 55, 56, 57, 58, 59, 60, 61, 62, 63, 64] (by decide +kernel) (by decide +kernel)
set_option maxRecDepth 20000 in
theorem gX6_strokesOf_X6_asksOf : GoodIn wsX6_strokesOf (wsV RX6 167 RX6 yX6_asksOf wsX6_asksOf) := goodIn_app (goodIn_of _ (by decide +kernel)) ggX6_strokesOf_X6_asksOf
set_option maxRecDepth 20000 in
theorem ggX6_strokesOf_X6_ofDay : GoodIn wsX6_strokesOf wsX6_ofDay := goodIn_r _ [18, 10, 31, 32, 33, 34, 35, 36, 37, 38, 39, 40, 41, 42, 43, 44, 45, 46, 47, 48, 49, 50, 51, 52, 53, 54, 55, 56, 57, 58, 59, 60, 61, 62, 63, 64] (by decide +kernel) (by decide +kernel)
set_option maxRecDepth 20000 in
theorem gX6_strokesOf_X6_ofDay : GoodIn wsX6_strokesOf (wsV RX6 158 RX6 yX6_ofDay wsX6_ofDay) := goodIn_app (goodIn_of _ (by decide +kernel)) ggX6_strokesOf_X6_ofDay
theorem dX6_strokesOf_0 : decode cX6_strokesOf 0 = .ok (.aload_n 0, 1) := by decide +kernel
theorem dX6_strokesOf_1 : decode cX6_strokesOf 1 = .ok (.iconst 2, 1) := by decide +kernel
theorem dX6_strokesOf_2 : decode cX6_strokesOf 2 = .ok (.iload_n 1, 1) := by decide +kernel
theorem dX6_strokesOf_3 : decode cX6_strokesOf 3 = .ok (.invokevirtual 167, 3) := by decide +kernel
theorem dX6_strokesOf_6 : decode cX6_strokesOf 6 = .ok (.istore_n 2, 1) := by decide +kernel
theorem dX6_strokesOf_7 : decode cX6_strokesOf 7 = .ok (.aload_n 0, 1) := by decide +kernel
theorem dX6_strokesOf_8 : decode cX6_strokesOf 8 = .ok (.getfield 7, 3) := by decide +kernel
theorem dX6_strokesOf_11 : decode cX6_strokesOf 11 = .ok (.iload_n 1, 1) := by decide +kernel
theorem dX6_strokesOf_12 : decode cX6_strokesOf 12 = .ok (.iaload, 1) := by decide +kernel
theorem dX6_strokesOf_13 : decode cX6_strokesOf 13 = .ok (.tableswitch 68 2 5 #[31, 40, 44, 66], 31) := by decide +kernel
theorem dX6_strokesOf_44 : decode cX6_strokesOf 44 = .ok (.iload_n 2, 1) := by decide +kernel
theorem dX6_strokesOf_45 : decode cX6_strokesOf 45 = .ok (.aload_n 0, 1) := by decide +kernel
theorem dX6_strokesOf_46 : decode cX6_strokesOf 46 = .ok (.getfield 13, 3) := by decide +kernel
theorem dX6_strokesOf_49 : decode cX6_strokesOf 49 = .ok (.iload_n 1, 1) := by decide +kernel
theorem dX6_strokesOf_50 : decode cX6_strokesOf 50 = .ok (.iaload, 1) := by decide +kernel
theorem dX6_strokesOf_51 : decode cX6_strokesOf 51 = .ok (.iadd, 1) := by decide +kernel
theorem dX6_strokesOf_52 : decode cX6_strokesOf 52 = .ok (.ireturn, 1) := by decide +kernel
theorem dX6_strokesOf_53 : decode cX6_strokesOf 53 = .ok (.iconst 2, 1) := by decide +kernel
theorem dX6_strokesOf_54 : decode cX6_strokesOf 54 = .ok (.iload_n 2, 1) := by decide +kernel
theorem dX6_strokesOf_55 : decode cX6_strokesOf 55 = .ok (.imul, 1) := by decide +kernel
theorem dX6_strokesOf_56 : decode cX6_strokesOf 56 = .ok (.ireturn, 1) := by decide +kernel
theorem dX6_strokesOf_57 : decode cX6_strokesOf 57 = .ok (.aload_n 0, 1) := by decide +kernel
theorem dX6_strokesOf_58 : decode cX6_strokesOf 58 = .ok (.invokevirtual 158, 3) := by decide +kernel
theorem dX6_strokesOf_61 : decode cX6_strokesOf 61 = .ok (.iconst 3, 1) := by decide +kernel
theorem dX6_strokesOf_62 : decode cX6_strokesOf 62 = .ok (.irem, 1) := by decide +kernel
theorem dX6_strokesOf_63 : decode cX6_strokesOf 63 = .ok (.ifCond .ne 7, 3) := by decide +kernel
theorem dX6_strokesOf_66 : decode cX6_strokesOf 66 = .ok (.iconst 0, 1) := by decide +kernel
theorem dX6_strokesOf_67 : decode cX6_strokesOf 67 = .ok (.goto 11, 3) := by decide +kernel
theorem dX6_strokesOf_70 : decode cX6_strokesOf 70 = .ok (.iload_n 2, 1) := by decide +kernel
theorem dX6_strokesOf_71 : decode cX6_strokesOf 71 = .ok (.aload_n 0, 1) := by decide +kernel
theorem dX6_strokesOf_72 : decode cX6_strokesOf 72 = .ok (.getfield 13, 3) := by decide +kernel
theorem dX6_strokesOf_75 : decode cX6_strokesOf 75 = .ok (.iload_n 1, 1) := by decide +kernel
theorem dX6_strokesOf_76 : decode cX6_strokesOf 76 = .ok (.iaload, 1) := by decide +kernel
theorem dX6_strokesOf_77 : decode cX6_strokesOf 77 = .ok (.iadd, 1) := by decide +kernel
theorem dX6_strokesOf_78 : decode cX6_strokesOf 78 = .ok (.ireturn, 1) := by decide +kernel
theorem dX6_strokesOf_79 : decode cX6_strokesOf 79 = .ok (.iconst 0, 1) := by decide +kernel
theorem dX6_strokesOf_80 : decode cX6_strokesOf 80 = .ok (.ireturn, 1) := by decide +kernel
theorem dX6_strokesOf_81 : decode cX6_strokesOf 81 = .ok (.iload_n 2, 1) := by decide +kernel
theorem dX6_strokesOf_82 : decode cX6_strokesOf 82 = .ok (.ireturn, 1) := by decide +kernel
set_option maxRecDepth 20000 in
theorem ggX6_liars_X6_lies : GoodIn wsX6_liars wsX6_lies := goodIn_r _ [6, 7, 8, 9, 10, 11, 12, 13, 5, 14, 15, 16, 17, 18, 19, 1, 20, 21, 22, 23, 24, 25, 26, 27, 28, 29, 30, 31, 32, 33, 34, 35, 36, 37, 38, 39, 40, 41, 42, 43, 44, 45, 46, 47, 48, 49, 50, 51, 52, 53, 54, 55, 56, 57, 58, 59, 60, 61, 62, 63, 64, 65, 66, 67, 68] (by decide +kernel) (by decide +kernel)
set_option maxRecDepth 20000 in
theorem gX6_liars_X6_lies : GoodIn wsX6_liars (wsV RX6 174 RX6 yX6_lies wsX6_lies) := goodIn_app (goodIn_of _ (by decide +kernel)) ggX6_liars_X6_lies
theorem dX6_liars_0 : decode cX6_liars 0 = .ok (.iconst 0, 1) := by decide +kernel
theorem dX6_liars_1 : decode cX6_liars 1 = .ok (.istore_n 1, 1) := by decide +kernel
theorem dX6_liars_2 : decode cX6_liars 2 = .ok (.iconst 0, 1) := by decide +kernel
theorem dX6_liars_3 : decode cX6_liars 3 = .ok (.istore_n 2, 1) := by decide +kernel
theorem dX6_liars_4 : decode cX6_liars 4 = .ok (.iload_n 2, 1) := by decide +kernel
theorem dX6_liars_5 : decode cX6_liars 5 = .ok (.aload_n 0, 1) := by decide +kernel
theorem dX6_liars_6 : decode cX6_liars 6 = .ok (.getfield 78, 3) := by decide +kernel
theorem dX6_liars_9 : decode cX6_liars 9 = .ok (.if_icmp .ge 27, 3) := by decide +kernel
theorem dX6_liars_12 : decode cX6_liars 12 = .ok (.iload_n 1, 1) := by decide +kernel
theorem dX6_liars_13 : decode cX6_liars 13 = .ok (.aload_n 0, 1) := by decide +kernel
theorem dX6_liars_14 : decode cX6_liars 14 = .ok (.iload_n 2, 1) := by decide +kernel
theorem dX6_liars_15 : decode cX6_liars 15 = .ok (.invokevirtual 174, 3) := by decide +kernel
theorem dX6_liars_18 : decode cX6_liars 18 = .ok (.ifCond .eq 9, 3) := by decide +kernel
theorem dX6_liars_21 : decode cX6_liars 21 = .ok (.iconst 1, 1) := by decide +kernel
theorem dX6_liars_22 : decode cX6_liars 22 = .ok (.iload_n 2, 1) := by decide +kernel
theorem dX6_liars_23 : decode cX6_liars 23 = .ok (.ishl, 1) := by decide +kernel
theorem dX6_liars_24 : decode cX6_liars 24 = .ok (.goto 4, 3) := by decide +kernel
theorem dX6_liars_27 : decode cX6_liars 27 = .ok (.iconst 0, 1) := by decide +kernel
theorem dX6_liars_28 : decode cX6_liars 28 = .ok (.ior, 1) := by decide +kernel
theorem dX6_liars_29 : decode cX6_liars 29 = .ok (.istore_n 1, 1) := by decide +kernel
theorem dX6_liars_30 : decode cX6_liars 30 = .ok (.iinc 2 1, 3) := by decide +kernel
theorem dX6_liars_33 : decode cX6_liars 33 = .ok (.goto (-29), 3) := by decide +kernel
theorem dX6_liars_36 : decode cX6_liars 36 = .ok (.iload_n 1, 1) := by decide +kernel
theorem dX6_liars_37 : decode cX6_liars 37 = .ok (.ireturn, 1) := by decide +kernel
set_option maxRecDepth 20000 in
theorem ggX6_strikesBy_X6_strokesOf : GoodIn wsX6_strikesBy wsX6_strokesOf := goodIn_r _ [6, 7, 8, 9, 10, 11, 5, 12, 13, 14, 15, 1, 16, 17, 18, 19, 20, 21, 22, 23, 24, 25, 26, 27, 28, 29, 30, 31, 32, 33, 34, 35, 36, 37, 38, 39, 40, 41, 42, 43, 44, 45, 46, 47, 48, 49, 50, 51, 52, 53, 54, 55, 56, 57, 58, 59, 60, 61, 62, 63, 64, 65, 66, 67, 68] (by decide +kernel) (by decide +kernel)
set_option maxRecDepth 20000 in
theorem gX6_strikesBy_X6_strokesOf : GoodIn wsX6_strikesBy (wsV RX6 177 RX6 yX6_strokesOf wsX6_strokesOf) := goodIn_app (goodIn_of _ (by decide +kernel)) ggX6_strikesBy_X6_strokesOf
theorem dX6_strikesBy_0 : decode cX6_strikesBy 0 = .ok (.iconst 0, 1) := by decide +kernel
theorem dX6_strikesBy_1 : decode cX6_strikesBy 1 = .ok (.istore_n 2, 1) := by decide +kernel
theorem dX6_strikesBy_2 : decode cX6_strikesBy 2 = .ok (.iconst 0, 1) := by decide +kernel
theorem dX6_strikesBy_3 : decode cX6_strikesBy 3 = .ok (.istore_n 3, 1) := by decide +kernel
theorem dX6_strikesBy_4 : decode cX6_strikesBy 4 = .ok (.iload_n 3, 1) := by decide +kernel
theorem dX6_strikesBy_5 : decode cX6_strikesBy 5 = .ok (.aload_n 0, 1) := by decide +kernel
theorem dX6_strikesBy_6 : decode cX6_strikesBy 6 = .ok (.getfield 78, 3) := by decide +kernel
theorem dX6_strikesBy_9 : decode cX6_strikesBy 9 = .ok (.if_icmp .ge 26, 3) := by decide +kernel
theorem dX6_strikesBy_12 : decode cX6_strikesBy 12 = .ok (.iload_n 1, 1) := by decide +kernel
theorem dX6_strikesBy_13 : decode cX6_strikesBy 13 = .ok (.iload_n 3, 1) := by decide +kernel
theorem dX6_strikesBy_14 : decode cX6_strikesBy 14 = .ok (.ishr, 1) := by decide +kernel
theorem dX6_strikesBy_15 : decode cX6_strikesBy 15 = .ok (.iconst 1, 1) := by decide +kernel
theorem dX6_strikesBy_16 : decode cX6_strikesBy 16 = .ok (.iand, 1) := by decide +kernel
theorem dX6_strikesBy_17 : decode cX6_strikesBy 17 = .ok (.iconst 1, 1) := by decide +kernel
theorem dX6_strikesBy_18 : decode cX6_strikesBy 18 = .ok (.if_icmp .ne 11, 3) := by decide +kernel
theorem dX6_strikesBy_21 : decode cX6_strikesBy 21 = .ok (.iload_n 2, 1) := by decide +kernel
theorem dX6_strikesBy_22 : decode cX6_strikesBy 22 = .ok (.aload_n 0, 1) := by decide +kernel
theorem dX6_strikesBy_23 : decode cX6_strikesBy 23 = .ok (.iload_n 3, 1) := by decide +kernel
theorem dX6_strikesBy_24 : decode cX6_strikesBy 24 = .ok (.invokevirtual 177, 3) := by decide +kernel
theorem dX6_strikesBy_27 : decode cX6_strikesBy 27 = .ok (.iadd, 1) := by decide +kernel
theorem dX6_strikesBy_28 : decode cX6_strikesBy 28 = .ok (.istore_n 2, 1) := by decide +kernel
theorem dX6_strikesBy_29 : decode cX6_strikesBy 29 = .ok (.iinc 3 1, 3) := by decide +kernel
theorem dX6_strikesBy_32 : decode cX6_strikesBy 32 = .ok (.goto (-28), 3) := by decide +kernel
theorem dX6_strikesBy_35 : decode cX6_strikesBy 35 = .ok (.iload_n 2, 1) := by decide +kernel
theorem dX6_strikesBy_36 : decode cX6_strikesBy 36 = .ok (.ireturn, 1) := by decide +kernel
theorem dX6_vows_0 : decode cX6_vows 0 = .ok (.iconst 0, 1) := by decide +kernel
theorem dX6_vows_1 : decode cX6_vows 1 = .ok (.istore_n 1, 1) := by decide +kernel
theorem dX6_vows_2 : decode cX6_vows 2 = .ok (.iconst 0, 1) := by decide +kernel
theorem dX6_vows_3 : decode cX6_vows 3 = .ok (.istore_n 2, 1) := by decide +kernel
theorem dX6_vows_4 : decode cX6_vows 4 = .ok (.iload_n 2, 1) := by decide +kernel
theorem dX6_vows_5 : decode cX6_vows 5 = .ok (.aload_n 0, 1) := by decide +kernel
theorem dX6_vows_6 : decode cX6_vows 6 = .ok (.getfield 78, 3) := by decide +kernel
theorem dX6_vows_9 : decode cX6_vows 9 = .ok (.if_icmp .ge 33, 3) := by decide +kernel
theorem dX6_vows_12 : decode cX6_vows 12 = .ok (.iload_n 1, 1) := by decide +kernel
theorem dX6_vows_13 : decode cX6_vows 13 = .ok (.aload_n 0, 1) := by decide +kernel
theorem dX6_vows_14 : decode cX6_vows 14 = .ok (.getfield 16, 3) := by decide +kernel
theorem dX6_vows_17 : decode cX6_vows 17 = .ok (.iconst 4, 1) := by decide +kernel
theorem dX6_vows_18 : decode cX6_vows 18 = .ok (.iload_n 2, 1) := by decide +kernel
theorem dX6_vows_19 : decode cX6_vows 19 = .ok (.imul, 1) := by decide +kernel
theorem dX6_vows_20 : decode cX6_vows 20 = .ok (.iconst 3, 1) := by decide +kernel
theorem dX6_vows_21 : decode cX6_vows 21 = .ok (.iadd, 1) := by decide +kernel
theorem dX6_vows_22 : decode cX6_vows 22 = .ok (.iaload, 1) := by decide +kernel
theorem dX6_vows_23 : decode cX6_vows 23 = .ok (.iconst 1, 1) := by decide +kernel
theorem dX6_vows_24 : decode cX6_vows 24 = .ok (.if_icmp .ne 9, 3) := by decide +kernel
theorem dX6_vows_27 : decode cX6_vows 27 = .ok (.iconst 1, 1) := by decide +kernel
theorem dX6_vows_28 : decode cX6_vows 28 = .ok (.iload_n 2, 1) := by decide +kernel
theorem dX6_vows_29 : decode cX6_vows 29 = .ok (.ishl, 1) := by decide +kernel
theorem dX6_vows_30 : decode cX6_vows 30 = .ok (.goto 4, 3) := by decide +kernel
theorem dX6_vows_33 : decode cX6_vows 33 = .ok (.iconst 0, 1) := by decide +kernel
theorem dX6_vows_34 : decode cX6_vows 34 = .ok (.ior, 1) := by decide +kernel
theorem dX6_vows_35 : decode cX6_vows 35 = .ok (.istore_n 1, 1) := by decide +kernel
theorem dX6_vows_36 : decode cX6_vows 36 = .ok (.iinc 2 1, 3) := by decide +kernel
theorem dX6_vows_39 : decode cX6_vows 39 = .ok (.goto (-35), 3) := by decide +kernel
theorem dX6_vows_42 : decode cX6_vows 42 = .ok (.iload_n 1, 1) := by decide +kernel
theorem dX6_vows_43 : decode cX6_vows 43 = .ok (.ireturn, 1) := by decide +kernel
set_option maxRecDepth 20000 in
theorem ggX6_tells_X6_isOne : GoodIn wsX6_tells wsX6_isOne := goodIn_r _ [8, 9, 10, 11, 7, 12, 50, 51, 52, 53, 54, 55, 56, 57, 58, 59, 60, 61, 62, 63, 64, 65, 66, 67, 68, 69, 70, 71, 72, 73, 74, 75, 76, 77, 78, 79, 80, 81, 82, 83] (by decide +kernel) (by decide +kernel)
set_option maxRecDepth 20000 in
theorem gX6_tells_X6_isOne : GoodIn wsX6_tells (wsV RX6 164 RX6 yX6_isOne wsX6_isOne) := goodIn_app (goodIn_of _ (by decide +kernel)) ggX6_tells_X6_isOne
set_option maxRecDepth 20000 in
theorem ggX6_tells_X6_lies : GoodIn wsX6_tells wsX6_lies := goodIn_r _ [16, 1, 2, 3, 17, 18, 19, 20, 7, 21, 22, 23, 24, 25, 26, 9, 27, 28, 29, 30, 31, 32, 33, 34, 35, 36, 37, 38, 39, 40, 41, 50, 51, 52, 53, 54, 55, 56, 57, 58, 59, 60, 61, 62, 63, 64, 65, 66, 67, 68, 69, 70, 71, 72, 73, 74, 75, 76, 77, 78, 79, 80, 81, 82, 83] (by decide +kernel) (by decide +kernel)
set_option maxRecDepth 20000 in
theorem gX6_tells_X6_lies : GoodIn wsX6_tells (wsV RX6 174 RX6 yX6_lies wsX6_lies) := goodIn_app (goodIn_of _ (by decide +kernel)) ggX6_tells_X6_lies
set_option maxRecDepth 20000 in
theorem ggX6_tells_X6_costsOf : GoodIn wsX6_tells wsX6_costsOf := goodIn_r _ [45, 2, 17, 22, 23, 24, 7, 25, 26, 1, 9, 3, 27, 28, 29, 18, 19, 20, 21, 30, 31, 32, 33, 34, 35, 36, 37, 38, 39, 40, 41, 50, 51, 52, 53, 54, 55, 56, 57, 58, 59, 60, 61, 62, 63, 64, 65, 66, 67, 68, 69, 70, 71, 72, 73, 74, 75, 76, 77, 78, 79, 80, 81, 82, 83] (by decide +kernel) (by decide +kernel)
set_option maxRecDepth 20000 in
theorem gX6_tells_X6_costsOf : GoodIn wsX6_tells (wsV RX6 180 RX6 yX6_costsOf wsX6_costsOf) := goodIn_app (goodIn_of _ (by decide +kernel)) ggX6_tells_X6_costsOf
set_option maxRecDepth 20000 in
theorem ggX6_tells_X6_strokesOf : GoodIn wsX6_tells wsX6_strokesOf := goodIn_r _ [49, 2, 3, 22, 23, 24, 7, 25, 26, 1, 17, 9, 27, 28, 29, 18, 19, 20, 21, 30, 31, 32, 33, 34, 35, 36, 37, 38, 39, 40, 41, 50, 51, 52, 53, 54, 55, 56, 57, 58, 59, 60, 61, 62, 63, 64, 65, 66, 67, 68, 69, 70, 71, 72, 73, 74, 75, 76, 77, 78, 79, 80, 81, 82, 83] (by decide +kernel) (by decide +kernel)
set_option maxRecDepth 20000 in
theorem gX6_tells_X6_strokesOf : GoodIn wsX6_tells (wsV RX6 177 RX6 yX6_strokesOf wsX6_strokesOf) := goodIn_app (goodIn_of _ (by decide +kernel)) ggX6_tells_X6_strokesOf
theorem dX6_tells_0 : decode cX6_tells 0 = .ok (.aload_n 0, 1) := by decide +kernel
theorem dX6_tells_1 : decode cX6_tells 1 = .ok (.iload_n 1, 1) := by decide +kernel
theorem dX6_tells_2 : decode cX6_tells 2 = .ok (.invokevirtual 164, 3) := by decide +kernel
theorem dX6_tells_5 : decode cX6_tells 5 = .ok (.ifCond .ne 6, 3) := by decide +kernel
theorem dX6_tells_8 : decode cX6_tells 8 = .ok (.bipush (-5), 2) := by decide +kernel
theorem dX6_tells_10 : decode cX6_tells 10 = .ok (.ireturn, 1) := by decide +kernel
theorem dX6_tells_11 : decode cX6_tells 11 = .ok (.iload_n 2, 1) := by decide +kernel
theorem dX6_tells_12 : decode cX6_tells 12 = .ok (.tableswitch 107 0 8 #[52, 52, 52, 52, 63, 70, 77, 91, 101], 52) := by decide +kernel
theorem dX6_tells_64 : decode cX6_tells 64 = .ok (.aload_n 0, 1) := by decide +kernel
theorem dX6_tells_65 : decode cX6_tells 65 = .ok (.getfield 16, 3) := by decide +kernel
theorem dX6_tells_68 : decode cX6_tells 68 = .ok (.iconst 4, 1) := by decide +kernel
theorem dX6_tells_69 : decode cX6_tells 69 = .ok (.iload_n 1, 1) := by decide +kernel
theorem dX6_tells_70 : decode cX6_tells 70 = .ok (.imul, 1) := by decide +kernel
theorem dX6_tells_71 : decode cX6_tells 71 = .ok (.iload_n 2, 1) := by decide +kernel
theorem dX6_tells_72 : decode cX6_tells 72 = .ok (.iadd, 1) := by decide +kernel
theorem dX6_tells_73 : decode cX6_tells 73 = .ok (.iaload, 1) := by decide +kernel
theorem dX6_tells_74 : decode cX6_tells 74 = .ok (.ireturn, 1) := by decide +kernel
theorem dX6_tells_75 : decode cX6_tells 75 = .ok (.aload_n 0, 1) := by decide +kernel
theorem dX6_tells_76 : decode cX6_tells 76 = .ok (.getfield 7, 3) := by decide +kernel
theorem dX6_tells_79 : decode cX6_tells 79 = .ok (.iload_n 1, 1) := by decide +kernel
theorem dX6_tells_80 : decode cX6_tells 80 = .ok (.iaload, 1) := by decide +kernel
theorem dX6_tells_81 : decode cX6_tells 81 = .ok (.ireturn, 1) := by decide +kernel
theorem dX6_tells_82 : decode cX6_tells 82 = .ok (.aload_n 0, 1) := by decide +kernel
theorem dX6_tells_83 : decode cX6_tells 83 = .ok (.getfield 13, 3) := by decide +kernel
theorem dX6_tells_86 : decode cX6_tells 86 = .ok (.iload_n 1, 1) := by decide +kernel
theorem dX6_tells_87 : decode cX6_tells 87 = .ok (.iaload, 1) := by decide +kernel
theorem dX6_tells_88 : decode cX6_tells 88 = .ok (.ireturn, 1) := by decide +kernel
theorem dX6_tells_89 : decode cX6_tells 89 = .ok (.aload_n 0, 1) := by decide +kernel
theorem dX6_tells_90 : decode cX6_tells 90 = .ok (.iload_n 1, 1) := by decide +kernel
theorem dX6_tells_91 : decode cX6_tells 91 = .ok (.invokevirtual 174, 3) := by decide +kernel
theorem dX6_tells_94 : decode cX6_tells 94 = .ok (.ifCond .eq 7, 3) := by decide +kernel
theorem dX6_tells_97 : decode cX6_tells 97 = .ok (.iconst 1, 1) := by decide +kernel
theorem dX6_tells_98 : decode cX6_tells 98 = .ok (.goto 4, 3) := by decide +kernel
theorem dX6_tells_101 : decode cX6_tells 101 = .ok (.iconst 0, 1) := by decide +kernel
theorem dX6_tells_102 : decode cX6_tells 102 = .ok (.ireturn, 1) := by decide +kernel
theorem dX6_tells_103 : decode cX6_tells 103 = .ok (.sipush 1000, 3) := by decide +kernel
theorem dX6_tells_106 : decode cX6_tells 106 = .ok (.aload_n 0, 1) := by decide +kernel
theorem dX6_tells_107 : decode cX6_tells 107 = .ok (.iload_n 1, 1) := by decide +kernel
theorem dX6_tells_108 : decode cX6_tells 108 = .ok (.invokevirtual 180, 3) := by decide +kernel
theorem dX6_tells_111 : decode cX6_tells 111 = .ok (.iadd, 1) := by decide +kernel
theorem dX6_tells_112 : decode cX6_tells 112 = .ok (.ireturn, 1) := by decide +kernel
theorem dX6_tells_113 : decode cX6_tells 113 = .ok (.aload_n 0, 1) := by decide +kernel
theorem dX6_tells_114 : decode cX6_tells 114 = .ok (.iload_n 1, 1) := by decide +kernel
theorem dX6_tells_115 : decode cX6_tells 115 = .ok (.invokevirtual 177, 3) := by decide +kernel
theorem dX6_tells_118 : decode cX6_tells 118 = .ok (.ireturn, 1) := by decide +kernel
theorem dX6_tells_119 : decode cX6_tells 119 = .ok (.bipush (-7), 2) := by decide +kernel
theorem dX6_tells_121 : decode cX6_tells 121 = .ok (.ireturn, 1) := by decide +kernel
set_option maxRecDepth 20000 in
theorem ggX6_bell_X6_liars : GoodIn wsX6_bell wsX6_liars := goodIn_r _ [6, 7, 8, 9, 10, 5, 11, 12, 13, 14, 1, 15, 16, 17, 18, 19, 20, 21, 22, 23, 24, 25, 26, 27, 28, 29, 30, 31, 32, 33, 34, 35, 36, 37, 38, 51, 52, 53, 54, 55, 56, 57, 58, 59, 60, 61, 62, 63, 64, 65, 66, 67, 68, 69, 70, 71, 72, 73, 74, 75, 76, 77, 78, 79, 80, 81, 82, 83, 84] (by decide +kernel) (by decide +kernel)
set_option maxRecDepth 20000 in
theorem gX6_bell_X6_liars : GoodIn wsX6_bell (wsV RX6 183 RX6 yX6_liars wsX6_liars) := goodIn_app (goodIn_of _ (by decide +kernel)) ggX6_bell_X6_liars
set_option maxRecDepth 20000 in
theorem ggX6_bell_X6_strikesBy : GoodIn wsX6_bell wsX6_strikesBy := goodIn_r _ [42, 7, 43, 44, 45, 5, 46, 13, 14, 19, 20, 21, 22, 23, 12, 1, 24, 25, 26, 15, 16, 17, 18, 27, 28, 29, 30, 31, 32, 33, 34, 35, 36, 37, 38, 51, 52, 53, 54, 55, 56, 57, 58, 59, 60, 61, 62, 63, 64, 65, 66, 67, 68, 69, 70, 71, 72, 73, 74, 75, 76, 77, 78, 79, 80, 81, 82, 83, 84] (by decide +kernel) (by decide +kernel)
set_option maxRecDepth 20000 in
theorem gX6_bell_X6_strikesBy : GoodIn wsX6_bell (wsV RX6 186 RX6 yX6_strikesBy wsX6_strikesBy) := goodIn_app (goodIn_of _ (by decide +kernel)) ggX6_bell_X6_strikesBy
set_option maxRecDepth 20000 in
theorem ggX6_bell_X6_vows : GoodIn wsX6_bell wsX6_vows := goodIn_r _ [50, 7, 12, 51, 52, 53, 54, 55, 56, 57, 58, 59, 60, 61, 62, 63, 64, 65, 66, 67, 68, 69, 70, 71, 72, 73, 74, 75, 76, 77, 78, 79, 80, 81, 82, 83, 84] (by decide +kernel) (by decide +kernel)
set_option maxRecDepth 20000 in
theorem gX6_bell_X6_vows : GoodIn wsX6_bell (wsV RX6 189 RX6 yX6_vows wsX6_vows) := goodIn_app (goodIn_of _ (by decide +kernel)) ggX6_bell_X6_vows
theorem dX6_bell_0 : decode cX6_bell 0 = .ok (.iload_n 1, 1) := by decide +kernel
theorem dX6_bell_1 : decode cX6_bell 1 = .ok (.tableswitch 57 0 3 #[31, 36, 45, 52], 31) := by decide +kernel
theorem dX6_bell_32 : decode cX6_bell 32 = .ok (.aload_n 0, 1) := by decide +kernel
theorem dX6_bell_33 : decode cX6_bell 33 = .ok (.invokevirtual 183, 3) := by decide +kernel
theorem dX6_bell_36 : decode cX6_bell 36 = .ok (.ireturn, 1) := by decide +kernel
theorem dX6_bell_37 : decode cX6_bell 37 = .ok (.aload_n 0, 1) := by decide +kernel
theorem dX6_bell_38 : decode cX6_bell 38 = .ok (.aload_n 0, 1) := by decide +kernel
theorem dX6_bell_39 : decode cX6_bell 39 = .ok (.invokevirtual 183, 3) := by decide +kernel
theorem dX6_bell_42 : decode cX6_bell 42 = .ok (.invokevirtual 186, 3) := by decide +kernel
theorem dX6_bell_45 : decode cX6_bell 45 = .ok (.ireturn, 1) := by decide +kernel
theorem dX6_bell_46 : decode cX6_bell 46 = .ok (.aload_n 0, 1) := by decide +kernel
theorem dX6_bell_47 : decode cX6_bell 47 = .ok (.getfield 19, 3) := by decide +kernel
theorem dX6_bell_50 : decode cX6_bell 50 = .ok (.iconst 1, 1) := by decide +kernel
theorem dX6_bell_51 : decode cX6_bell 51 = .ok (.iaload, 1) := by decide +kernel
theorem dX6_bell_52 : decode cX6_bell 52 = .ok (.ireturn, 1) := by decide +kernel
theorem dX6_bell_53 : decode cX6_bell 53 = .ok (.aload_n 0, 1) := by decide +kernel
theorem dX6_bell_54 : decode cX6_bell 54 = .ok (.invokevirtual 189, 3) := by decide +kernel
theorem dX6_bell_57 : decode cX6_bell 57 = .ok (.ireturn, 1) := by decide +kernel
theorem dX6_bell_58 : decode cX6_bell 58 = .ok (.bipush (-2), 2) := by decide +kernel
theorem dX6_bell_60 : decode cX6_bell 60 = .ok (.ireturn, 1) := by decide +kernel
set_option maxRecDepth 20000 in
theorem ggX6_hourOf_X6_liars : GoodIn wsX6_hourOf wsX6_liars := goodIn_r _ [10, 1, 11, 12, 13, 9, 14, 2, 15, 16, 3, 17, 18, 19, 20, 21, 22, 23, 24, 25, 26, 27, 28, 29, 30, 31, 32, 33, 34, 35, 36, 37, 38, 39, 40, 53, 54, 55, 56, 57, 58, 59, 60, 61, 62, 63, 64, 65, 66, 67, 68, 69, 70, 71, 72, 73, 74, 75, 76, 77, 78, 79, 80, 81, 82, 83, 84, 85, 86] (by decide +kernel) (by decide +kernel)
set_option maxRecDepth 20000 in
theorem gX6_hourOf_X6_liars : GoodIn wsX6_hourOf (wsV RX6 183 RX6 yX6_liars wsX6_liars) := goodIn_app (goodIn_of _ (by decide +kernel)) ggX6_hourOf_X6_liars
set_option maxRecDepth 20000 in
theorem ggX6_hourOf_X6_strikesBy : GoodIn wsX6_hourOf wsX6_strikesBy := goodIn_r _ [44, 1, 45, 46, 47, 9, 48, 15, 16, 21, 22, 23, 24, 25, 2, 3, 26, 27, 28, 17, 18, 19, 20, 29, 30, 31, 32, 33, 34, 35, 36, 37, 38, 39, 40, 53, 54, 55, 56, 57, 58, 59, 60, 61, 62, 63, 64, 65, 66, 67, 68, 69, 70, 71, 72, 73, 74, 75, 76, 77, 78, 79, 80, 81, 82, 83, 84, 85, 86] (by decide +kernel) (by decide +kernel)
set_option maxRecDepth 20000 in
theorem gX6_hourOf_X6_strikesBy : GoodIn wsX6_hourOf (wsV RX6 186 RX6 yX6_strikesBy wsX6_strikesBy) := goodIn_app (goodIn_of _ (by decide +kernel)) ggX6_hourOf_X6_strikesBy
set_option maxRecDepth 20000 in
theorem ggX6_hourOf_X6_costsOf : GoodIn wsX6_hourOf wsX6_costsOf := goodIn_r _ [52, 15, 3, 21, 22, 23, 9, 24, 25, 2, 1, 16, 26, 27, 28, 17, 18, 19, 20, 29, 30, 31, 32, 33, 34, 35, 36, 37, 38, 39, 40, 53, 54, 55, 56, 57, 58, 59, 60, 61, 62, 63, 64, 65, 66, 67, 68, 69, 70, 71, 72, 73, 74, 75, 76, 77, 78, 79, 80, 81, 82, 83, 84, 85, 86] (by decide +kernel) (by decide +kernel)
set_option maxRecDepth 20000 in
theorem gX6_hourOf_X6_costsOf : GoodIn wsX6_hourOf (wsV RX6 180 RX6 yX6_costsOf wsX6_costsOf) := goodIn_app (goodIn_of _ (by decide +kernel)) ggX6_hourOf_X6_costsOf
set_option maxRecDepth 20000 in
theorem ggX6_hourOf_X6_within : GoodIn wsX6_hourOf wsX6_within := goodIn_r _ [28] (by decide +kernel) (by decide +kernel)
set_option maxRecDepth 20000 in
theorem gX6_hourOf_X6_within : GoodIn wsX6_hourOf (va_wsS RX6 155 yX6_within wsX6_within) := goodIn_app (goodIn_of _ (by decide +kernel)) ggX6_hourOf_X6_within
theorem dX6_hourOf_0 : decode cX6_hourOf 0 = .ok (.aload_n 0, 1) := by decide +kernel
theorem dX6_hourOf_1 : decode cX6_hourOf 1 = .ok (.invokevirtual 183, 3) := by decide +kernel
theorem dX6_hourOf_4 : decode cX6_hourOf 4 = .ok (.istore_n 1, 1) := by decide +kernel
theorem dX6_hourOf_5 : decode cX6_hourOf 5 = .ok (.aload_n 0, 1) := by decide +kernel
theorem dX6_hourOf_6 : decode cX6_hourOf 6 = .ok (.iload_n 1, 1) := by decide +kernel
theorem dX6_hourOf_7 : decode cX6_hourOf 7 = .ok (.invokevirtual 186, 3) := by decide +kernel
theorem dX6_hourOf_10 : decode cX6_hourOf 10 = .ok (.istore_n 2, 1) := by decide +kernel
theorem dX6_hourOf_11 : decode cX6_hourOf 11 = .ok (.iconst 0, 1) := by decide +kernel
theorem dX6_hourOf_12 : decode cX6_hourOf 12 = .ok (.istore_n 3, 1) := by decide +kernel
theorem dX6_hourOf_13 : decode cX6_hourOf 13 = .ok (.iload_n 3, 1) := by decide +kernel
theorem dX6_hourOf_14 : decode cX6_hourOf 14 = .ok (.aload_n 0, 1) := by decide +kernel
theorem dX6_hourOf_15 : decode cX6_hourOf 15 = .ok (.getfield 78, 3) := by decide +kernel
theorem dX6_hourOf_18 : decode cX6_hourOf 18 = .ok (.if_icmp .ge 75, 3) := by decide +kernel
theorem dX6_hourOf_21 : decode cX6_hourOf 21 = .ok (.iload_n 1, 1) := by decide +kernel
theorem dX6_hourOf_22 : decode cX6_hourOf 22 = .ok (.iload_n 3, 1) := by decide +kernel
theorem dX6_hourOf_23 : decode cX6_hourOf 23 = .ok (.ishr, 1) := by decide +kernel
theorem dX6_hourOf_24 : decode cX6_hourOf 24 = .ok (.iconst 1, 1) := by decide +kernel
theorem dX6_hourOf_25 : decode cX6_hourOf 25 = .ok (.iand, 1) := by decide +kernel
theorem dX6_hourOf_26 : decode cX6_hourOf 26 = .ok (.iconst 1, 1) := by decide +kernel
theorem dX6_hourOf_27 : decode cX6_hourOf 27 = .ok (.if_icmp .ne 60, 3) := by decide +kernel
theorem dX6_hourOf_30 : decode cX6_hourOf 30 = .ok (.aload_n 0, 1) := by decide +kernel
theorem dX6_hourOf_31 : decode cX6_hourOf 31 = .ok (.getfield 16, 3) := by decide +kernel
theorem dX6_hourOf_34 : decode cX6_hourOf 34 = .ok (.iconst 4, 1) := by decide +kernel
theorem dX6_hourOf_35 : decode cX6_hourOf 35 = .ok (.iload_n 3, 1) := by decide +kernel
theorem dX6_hourOf_36 : decode cX6_hourOf 36 = .ok (.imul, 1) := by decide +kernel
theorem dX6_hourOf_37 : decode cX6_hourOf 37 = .ok (.aload_n 0, 1) := by decide +kernel
theorem dX6_hourOf_38 : decode cX6_hourOf 38 = .ok (.getfield 16, 3) := by decide +kernel
theorem dX6_hourOf_41 : decode cX6_hourOf 41 = .ok (.iconst 4, 1) := by decide +kernel
theorem dX6_hourOf_42 : decode cX6_hourOf 42 = .ok (.iload_n 3, 1) := by decide +kernel
theorem dX6_hourOf_43 : decode cX6_hourOf 43 = .ok (.imul, 1) := by decide +kernel
theorem dX6_hourOf_44 : decode cX6_hourOf 44 = .ok (.iaload, 1) := by decide +kernel
theorem dX6_hourOf_45 : decode cX6_hourOf 45 = .ok (.aload_n 0, 1) := by decide +kernel
theorem dX6_hourOf_46 : decode cX6_hourOf 46 = .ok (.iload_n 3, 1) := by decide +kernel
theorem dX6_hourOf_47 : decode cX6_hourOf 47 = .ok (.invokevirtual 180, 3) := by decide +kernel
theorem dX6_hourOf_50 : decode cX6_hourOf 50 = .ok (.isub, 1) := by decide +kernel
theorem dX6_hourOf_51 : decode cX6_hourOf 51 = .ok (.iconst 0, 1) := by decide +kernel
theorem dX6_hourOf_52 : decode cX6_hourOf 52 = .ok (.bipush 99, 2) := by decide +kernel
theorem dX6_hourOf_54 : decode cX6_hourOf 54 = .ok (.invokestatic 155, 3) := by decide +kernel
theorem dX6_hourOf_57 : decode cX6_hourOf 57 = .ok (.iastore, 1) := by decide +kernel
theorem dX6_hourOf_58 : decode cX6_hourOf 58 = .ok (.aload_n 0, 1) := by decide +kernel
theorem dX6_hourOf_59 : decode cX6_hourOf 59 = .ok (.getfield 16, 3) := by decide +kernel
theorem dX6_hourOf_62 : decode cX6_hourOf 62 = .ok (.iconst 4, 1) := by decide +kernel
theorem dX6_hourOf_63 : decode cX6_hourOf 63 = .ok (.iload_n 3, 1) := by decide +kernel
theorem dX6_hourOf_64 : decode cX6_hourOf 64 = .ok (.imul, 1) := by decide +kernel
theorem dX6_hourOf_65 : decode cX6_hourOf 65 = .ok (.iconst 1, 1) := by decide +kernel
theorem dX6_hourOf_66 : decode cX6_hourOf 66 = .ok (.iadd, 1) := by decide +kernel
theorem dX6_hourOf_67 : decode cX6_hourOf 67 = .ok (.aload_n 0, 1) := by decide +kernel
theorem dX6_hourOf_68 : decode cX6_hourOf 68 = .ok (.getfield 16, 3) := by decide +kernel
theorem dX6_hourOf_71 : decode cX6_hourOf 71 = .ok (.iconst 4, 1) := by decide +kernel
theorem dX6_hourOf_72 : decode cX6_hourOf 72 = .ok (.iload_n 3, 1) := by decide +kernel
theorem dX6_hourOf_73 : decode cX6_hourOf 73 = .ok (.imul, 1) := by decide +kernel
theorem dX6_hourOf_74 : decode cX6_hourOf 74 = .ok (.iconst 1, 1) := by decide +kernel
theorem dX6_hourOf_75 : decode cX6_hourOf 75 = .ok (.iadd, 1) := by decide +kernel
theorem dX6_hourOf_76 : decode cX6_hourOf 76 = .ok (.iaload, 1) := by decide +kernel
theorem dX6_hourOf_77 : decode cX6_hourOf 77 = .ok (.iconst 1, 1) := by decide +kernel
theorem dX6_hourOf_78 : decode cX6_hourOf 78 = .ok (.iadd, 1) := by decide +kernel
theorem dX6_hourOf_79 : decode cX6_hourOf 79 = .ok (.iconst 0, 1) := by decide +kernel
theorem dX6_hourOf_80 : decode cX6_hourOf 80 = .ok (.sipush 9999, 3) := by decide +kernel
theorem dX6_hourOf_83 : decode cX6_hourOf 83 = .ok (.invokestatic 155, 3) := by decide +kernel
theorem dX6_hourOf_86 : decode cX6_hourOf 86 = .ok (.iastore, 1) := by decide +kernel
theorem dX6_hourOf_87 : decode cX6_hourOf 87 = .ok (.iinc 3 1, 3) := by decide +kernel
theorem dX6_hourOf_90 : decode cX6_hourOf 90 = .ok (.goto (-77), 3) := by decide +kernel
theorem dX6_hourOf_93 : decode cX6_hourOf 93 = .ok (.aload_n 0, 1) := by decide +kernel
theorem dX6_hourOf_94 : decode cX6_hourOf 94 = .ok (.getfield 19, 3) := by decide +kernel
theorem dX6_hourOf_97 : decode cX6_hourOf 97 = .ok (.iconst 2, 1) := by decide +kernel
theorem dX6_hourOf_98 : decode cX6_hourOf 98 = .ok (.iload_n 2, 1) := by decide +kernel
theorem dX6_hourOf_99 : decode cX6_hourOf 99 = .ok (.iconst 0, 1) := by decide +kernel
theorem dX6_hourOf_100 : decode cX6_hourOf 100 = .ok (.bipush 99, 2) := by decide +kernel
theorem dX6_hourOf_102 : decode cX6_hourOf 102 = .ok (.invokestatic 155, 3) := by decide +kernel
theorem dX6_hourOf_105 : decode cX6_hourOf 105 = .ok (.iastore, 1) := by decide +kernel
theorem dX6_hourOf_106 : decode cX6_hourOf 106 = .ok (.aload_n 0, 1) := by decide +kernel
theorem dX6_hourOf_107 : decode cX6_hourOf 107 = .ok (.getfield 19, 3) := by decide +kernel
theorem dX6_hourOf_110 : decode cX6_hourOf 110 = .ok (.iconst 1, 1) := by decide +kernel
theorem dX6_hourOf_111 : decode cX6_hourOf 111 = .ok (.aload_n 0, 1) := by decide +kernel
theorem dX6_hourOf_112 : decode cX6_hourOf 112 = .ok (.getfield 19, 3) := by decide +kernel
theorem dX6_hourOf_115 : decode cX6_hourOf 115 = .ok (.iconst 1, 1) := by decide +kernel
theorem dX6_hourOf_116 : decode cX6_hourOf 116 = .ok (.iaload, 1) := by decide +kernel
theorem dX6_hourOf_117 : decode cX6_hourOf 117 = .ok (.iload_n 2, 1) := by decide +kernel
theorem dX6_hourOf_118 : decode cX6_hourOf 118 = .ok (.iadd, 1) := by decide +kernel
theorem dX6_hourOf_119 : decode cX6_hourOf 119 = .ok (.iconst 0, 1) := by decide +kernel
theorem dX6_hourOf_120 : decode cX6_hourOf 120 = .ok (.ldc 192, 2) := by decide +kernel
theorem dX6_hourOf_122 : decode cX6_hourOf 122 = .ok (.invokestatic 155, 3) := by decide +kernel
theorem dX6_hourOf_125 : decode cX6_hourOf 125 = .ok (.iastore, 1) := by decide +kernel
theorem dX6_hourOf_126 : decode cX6_hourOf 126 = .ok (.aload_n 0, 1) := by decide +kernel
theorem dX6_hourOf_127 : decode cX6_hourOf 127 = .ok (.getfield 19, 3) := by decide +kernel
theorem dX6_hourOf_130 : decode cX6_hourOf 130 = .ok (.iconst 0, 1) := by decide +kernel
theorem dX6_hourOf_131 : decode cX6_hourOf 131 = .ok (.dup2, 1) := by decide +kernel
theorem dX6_hourOf_132 : decode cX6_hourOf 132 = .ok (.iaload, 1) := by decide +kernel
theorem dX6_hourOf_133 : decode cX6_hourOf 133 = .ok (.iconst 1, 1) := by decide +kernel
theorem dX6_hourOf_134 : decode cX6_hourOf 134 = .ok (.iadd, 1) := by decide +kernel
theorem dX6_hourOf_135 : decode cX6_hourOf 135 = .ok (.iastore, 1) := by decide +kernel
theorem dX6_hourOf_136 : decode cX6_hourOf 136 = .ok (.aload_n 0, 1) := by decide +kernel
theorem dX6_hourOf_137 : decode cX6_hourOf 137 = .ok (.iload_n 1, 1) := by decide +kernel
theorem dX6_hourOf_138 : decode cX6_hourOf 138 = .ok (.putfield 193, 3) := by decide +kernel
theorem dX6_hourOf_141 : decode cX6_hourOf 141 = .ok (.iload_n 2, 1) := by decide +kernel
theorem dX6_hourOf_142 : decode cX6_hourOf 142 = .ok (.ireturn, 1) := by decide +kernel
set_option maxRecDepth 20000 in
theorem ggX6_strike_X6_hourOf : GoodIn wsX6_strike wsX6_hourOf := goodIn_r _ [6, 7, 8, 1, 9, 10, 11, 12, 13, 5, 14, 15, 16, 17, 18, 19, 20, 21, 22, 23, 24, 25, 26, 27, 28, 29, 30, 31, 32, 33, 34, 35, 36, 37, 38, 39, 40, 41, 42, 43, 44, 45, 46, 47, 48, 49, 50, 51, 52, 53, 54, 55, 56, 57, 58, 59, 60, 61, 62, 63, 64, 65, 66, 67, 68, 69, 70, 71, 72, 73, 74, 75, 76, 77, 78, 79, 80, 81, 82, 83, 84, 85, 86, 87, 88, 89, 90] (by decide +kernel) (by decide +kernel)
set_option maxRecDepth 20000 in
theorem gX6_strike_X6_hourOf : GoodIn wsX6_strike (wsV RX6 196 RX6 yX6_hourOf wsX6_hourOf) := goodIn_app (goodIn_of _ (by decide +kernel)) ggX6_strike_X6_hourOf
theorem dX6_strike_0 : decode cX6_strike 0 = .ok (.aload_n 0, 1) := by decide +kernel
theorem dX6_strike_1 : decode cX6_strike 1 = .ok (.getfield 19, 3) := by decide +kernel
theorem dX6_strike_4 : decode cX6_strike 4 = .ok (.iconst 0, 1) := by decide +kernel
theorem dX6_strike_5 : decode cX6_strike 5 = .ok (.iaload, 1) := by decide +kernel
theorem dX6_strike_6 : decode cX6_strike 6 = .ok (.sipush 9999, 3) := by decide +kernel
theorem dX6_strike_9 : decode cX6_strike 9 = .ok (.if_icmp .ne 8, 3) := by decide +kernel
theorem dX6_strike_12 : decode cX6_strike 12 = .ok (.bipush (-3), 2) := by decide +kernel
theorem dX6_strike_14 : decode cX6_strike 14 = .ok (.goto 7, 3) := by decide +kernel
theorem dX6_strike_17 : decode cX6_strike 17 = .ok (.aload_n 0, 1) := by decide +kernel
theorem dX6_strike_18 : decode cX6_strike 18 = .ok (.invokevirtual 196, 3) := by decide +kernel
theorem dX6_strike_21 : decode cX6_strike 21 = .ok (.ireturn, 1) := by decide +kernel
theorem dX6_keeps_0 : decode cX6_keeps 0 = .ok (.iconst 0, 1) := by decide +kernel
theorem dX6_keeps_1 : decode cX6_keeps 1 = .ok (.istore_n 1, 1) := by decide +kernel
theorem dX6_keeps_2 : decode cX6_keeps 2 = .ok (.iload_n 1, 1) := by decide +kernel
theorem dX6_keeps_3 : decode cX6_keeps 3 = .ok (.bipush 24, 2) := by decide +kernel
theorem dX6_keeps_5 : decode cX6_keeps 5 = .ok (.if_icmp .ge 21, 3) := by decide +kernel
theorem dX6_keeps_8 : decode cX6_keeps 8 = .ok (.aload_n 0, 1) := by decide +kernel
theorem dX6_keeps_9 : decode cX6_keeps 9 = .ok (.getfield 61, 3) := by decide +kernel
theorem dX6_keeps_12 : decode cX6_keeps 12 = .ok (.iload_n 1, 1) := by decide +kernel
theorem dX6_keeps_13 : decode cX6_keeps 13 = .ok (.aload_n 0, 1) := by decide +kernel
theorem dX6_keeps_14 : decode cX6_keeps 14 = .ok (.getfield 16, 3) := by decide +kernel
theorem dX6_keeps_17 : decode cX6_keeps 17 = .ok (.iload_n 1, 1) := by decide +kernel
theorem dX6_keeps_18 : decode cX6_keeps 18 = .ok (.iaload, 1) := by decide +kernel
theorem dX6_keeps_19 : decode cX6_keeps 19 = .ok (.iastore, 1) := by decide +kernel
theorem dX6_keeps_20 : decode cX6_keeps 20 = .ok (.iinc 1 1, 3) := by decide +kernel
theorem dX6_keeps_23 : decode cX6_keeps 23 = .ok (.goto (-21), 3) := by decide +kernel
theorem dX6_keeps_26 : decode cX6_keeps 26 = .ok (.iconst 0, 1) := by decide +kernel
theorem dX6_keeps_27 : decode cX6_keeps 27 = .ok (.istore_n 1, 1) := by decide +kernel
theorem dX6_keeps_28 : decode cX6_keeps 28 = .ok (.iload_n 1, 1) := by decide +kernel
theorem dX6_keeps_29 : decode cX6_keeps 29 = .ok (.iconst 3, 1) := by decide +kernel
theorem dX6_keeps_30 : decode cX6_keeps 30 = .ok (.if_icmp .ge 24, 3) := by decide +kernel
theorem dX6_keeps_33 : decode cX6_keeps 33 = .ok (.aload_n 0, 1) := by decide +kernel
theorem dX6_keeps_34 : decode cX6_keeps 34 = .ok (.getfield 61, 3) := by decide +kernel
theorem dX6_keeps_37 : decode cX6_keeps 37 = .ok (.bipush 24, 2) := by decide +kernel
theorem dX6_keeps_39 : decode cX6_keeps 39 = .ok (.iload_n 1, 1) := by decide +kernel
theorem dX6_keeps_40 : decode cX6_keeps 40 = .ok (.iadd, 1) := by decide +kernel
theorem dX6_keeps_41 : decode cX6_keeps 41 = .ok (.aload_n 0, 1) := by decide +kernel
theorem dX6_keeps_42 : decode cX6_keeps 42 = .ok (.getfield 19, 3) := by decide +kernel
theorem dX6_keeps_45 : decode cX6_keeps 45 = .ok (.iload_n 1, 1) := by decide +kernel
theorem dX6_keeps_46 : decode cX6_keeps 46 = .ok (.iaload, 1) := by decide +kernel
theorem dX6_keeps_47 : decode cX6_keeps 47 = .ok (.iastore, 1) := by decide +kernel
theorem dX6_keeps_48 : decode cX6_keeps 48 = .ok (.iinc 1 1, 3) := by decide +kernel
theorem dX6_keeps_51 : decode cX6_keeps 51 = .ok (.goto (-23), 3) := by decide +kernel
theorem dX6_keeps_54 : decode cX6_keeps 54 = .ok (.return_, 1) := by decide +kernel
theorem dX6_lays_0 : decode cX6_lays 0 = .ok (.iconst 0, 1) := by decide +kernel
theorem dX6_lays_1 : decode cX6_lays 1 = .ok (.istore_n 1, 1) := by decide +kernel
theorem dX6_lays_2 : decode cX6_lays 2 = .ok (.iload_n 1, 1) := by decide +kernel
theorem dX6_lays_3 : decode cX6_lays 3 = .ok (.bipush 24, 2) := by decide +kernel
theorem dX6_lays_5 : decode cX6_lays 5 = .ok (.if_icmp .ge 21, 3) := by decide +kernel
theorem dX6_lays_8 : decode cX6_lays 8 = .ok (.aload_n 0, 1) := by decide +kernel
theorem dX6_lays_9 : decode cX6_lays 9 = .ok (.getfield 16, 3) := by decide +kernel
theorem dX6_lays_12 : decode cX6_lays 12 = .ok (.iload_n 1, 1) := by decide +kernel
theorem dX6_lays_13 : decode cX6_lays 13 = .ok (.aload_n 0, 1) := by decide +kernel
theorem dX6_lays_14 : decode cX6_lays 14 = .ok (.getfield 61, 3) := by decide +kernel
theorem dX6_lays_17 : decode cX6_lays 17 = .ok (.iload_n 1, 1) := by decide +kernel
theorem dX6_lays_18 : decode cX6_lays 18 = .ok (.iaload, 1) := by decide +kernel
theorem dX6_lays_19 : decode cX6_lays 19 = .ok (.iastore, 1) := by decide +kernel
theorem dX6_lays_20 : decode cX6_lays 20 = .ok (.iinc 1 1, 3) := by decide +kernel
theorem dX6_lays_23 : decode cX6_lays 23 = .ok (.goto (-21), 3) := by decide +kernel
theorem dX6_lays_26 : decode cX6_lays 26 = .ok (.iconst 0, 1) := by decide +kernel
theorem dX6_lays_27 : decode cX6_lays 27 = .ok (.istore_n 1, 1) := by decide +kernel
theorem dX6_lays_28 : decode cX6_lays 28 = .ok (.iload_n 1, 1) := by decide +kernel
theorem dX6_lays_29 : decode cX6_lays 29 = .ok (.iconst 3, 1) := by decide +kernel
theorem dX6_lays_30 : decode cX6_lays 30 = .ok (.if_icmp .ge 24, 3) := by decide +kernel
theorem dX6_lays_33 : decode cX6_lays 33 = .ok (.aload_n 0, 1) := by decide +kernel
theorem dX6_lays_34 : decode cX6_lays 34 = .ok (.getfield 19, 3) := by decide +kernel
theorem dX6_lays_37 : decode cX6_lays 37 = .ok (.iload_n 1, 1) := by decide +kernel
theorem dX6_lays_38 : decode cX6_lays 38 = .ok (.aload_n 0, 1) := by decide +kernel
theorem dX6_lays_39 : decode cX6_lays 39 = .ok (.getfield 61, 3) := by decide +kernel
theorem dX6_lays_42 : decode cX6_lays 42 = .ok (.bipush 24, 2) := by decide +kernel
theorem dX6_lays_44 : decode cX6_lays 44 = .ok (.iload_n 1, 1) := by decide +kernel
theorem dX6_lays_45 : decode cX6_lays 45 = .ok (.iadd, 1) := by decide +kernel
theorem dX6_lays_46 : decode cX6_lays 46 = .ok (.iaload, 1) := by decide +kernel
theorem dX6_lays_47 : decode cX6_lays 47 = .ok (.iastore, 1) := by decide +kernel
theorem dX6_lays_48 : decode cX6_lays 48 = .ok (.iinc 1 1, 3) := by decide +kernel
theorem dX6_lays_51 : decode cX6_lays 51 = .ok (.goto (-23), 3) := by decide +kernel
theorem dX6_lays_54 : decode cX6_lays 54 = .ok (.return_, 1) := by decide +kernel
set_option maxRecDepth 20000 in
theorem ggX6_goes_X6_hourOf : GoodIn wsX6_goes wsX6_hourOf := goodIn_r _ [5, 6, 7, 8, 9, 10, 11, 12, 13, 4, 14, 15, 16, 17, 18, 19, 20, 21, 22, 23, 24, 25, 26, 27, 28, 29, 30, 31, 32, 33, 34, 35, 36, 37, 38, 39, 40, 41, 42, 43, 44, 45, 46, 47, 48, 49, 50, 51, 52, 53, 54, 55, 56, 57, 58, 59, 60, 61, 62, 63, 64, 65, 66, 67, 68, 69, 70, 71, 72, 73, 74, 75, 76, 77, 78, 79, 80, 81, 82, 83, 84, 85, 86, 87, 88, 89, 90] (by decide +kernel) (by decide +kernel)
set_option maxRecDepth 20000 in
theorem gX6_goes_X6_hourOf : GoodIn wsX6_goes (wsV RX6 196 RX6 yX6_hourOf wsX6_hourOf) := goodIn_app (goodIn_of _ (by decide +kernel)) ggX6_goes_X6_hourOf
theorem dX6_goes_0 : decode cX6_goes 0 = .ok (.iconst 0, 1) := by decide +kernel
theorem dX6_goes_1 : decode cX6_goes 1 = .ok (.istore_n 2, 1) := by decide +kernel
theorem dX6_goes_2 : decode cX6_goes 2 = .ok (.iconst 0, 1) := by decide +kernel
theorem dX6_goes_3 : decode cX6_goes 3 = .ok (.istore_n 3, 1) := by decide +kernel
theorem dX6_goes_4 : decode cX6_goes 4 = .ok (.iload_n 3, 1) := by decide +kernel
theorem dX6_goes_5 : decode cX6_goes 5 = .ok (.iload_n 1, 1) := by decide +kernel
theorem dX6_goes_6 : decode cX6_goes 6 = .ok (.if_icmp .ge 16, 3) := by decide +kernel
theorem dX6_goes_9 : decode cX6_goes 9 = .ok (.iload_n 2, 1) := by decide +kernel
theorem dX6_goes_10 : decode cX6_goes 10 = .ok (.aload_n 0, 1) := by decide +kernel
theorem dX6_goes_11 : decode cX6_goes 11 = .ok (.invokevirtual 196, 3) := by decide +kernel
theorem dX6_goes_14 : decode cX6_goes 14 = .ok (.iadd, 1) := by decide +kernel
theorem dX6_goes_15 : decode cX6_goes 15 = .ok (.istore_n 2, 1) := by decide +kernel
theorem dX6_goes_16 : decode cX6_goes 16 = .ok (.iinc 3 1, 3) := by decide +kernel
theorem dX6_goes_19 : decode cX6_goes 19 = .ok (.goto (-15), 3) := by decide +kernel
theorem dX6_goes_22 : decode cX6_goes 22 = .ok (.iload_n 2, 1) := by decide +kernel
theorem dX6_goes_23 : decode cX6_goes 23 = .ok (.ireturn, 1) := by decide +kernel
set_option maxRecDepth 20000 in
theorem ggX6_run_X6_in : GoodIn wsX6_run wsX6_in := goodIn_r _ [6] (by decide +kernel) (by decide +kernel)
set_option maxRecDepth 20000 in
theorem gX6_run_X6_in : GoodIn wsX6_run (va_wsS RX6 81 yX6_in wsX6_in) := goodIn_app (goodIn_of _ (by decide +kernel)) ggX6_run_X6_in
set_option maxRecDepth 20000 in
theorem ggX6_run_X6_keeps : GoodIn wsX6_run wsX6_keeps := goodIn_r _ [10, 11, 2, 12, 73, 74, 75, 76, 77, 78, 79, 80, 81, 82, 83, 84, 85, 86, 87, 88, 89, 90, 91, 92, 93, 94, 95, 96, 97, 98, 99, 100, 101, 102, 103, 104, 105, 106] (by decide +kernel) (by decide +kernel)
set_option maxRecDepth 20000 in
theorem gX6_run_X6_keeps : GoodIn wsX6_run (wsV RX6 199 RX6 yX6_keeps wsX6_keeps) := goodIn_app (goodIn_of _ (by decide +kernel)) ggX6_run_X6_keeps
set_option maxRecDepth 20000 in
theorem ggX6_run_X6_goes : GoodIn wsX6_run wsX6_goes := goodIn_r _ [16, 17, 18, 19, 5, 20, 1, 2, 12, 21, 22, 23, 24, 25, 26, 27, 28, 29, 30, 31, 32, 33, 34, 35, 36, 37, 38, 39, 40, 41, 42, 43, 44, 45, 46, 47, 48, 49, 50, 51, 52, 53, 54, 55, 56, 57, 58, 59, 60, 61, 62, 63, 64, 65, 66, 67, 68, 73, 74, 75, 76, 77, 78, 79, 80, 81, 82, 83, 84, 85, 86, 87, 88, 89, 90, 91, 92, 93, 94, 95, 96, 97, 98, 99, 100, 101, 102, 103, 104, 105, 106] (by decide +kernel) (by decide +kernel)
set_option maxRecDepth 20000 in
theorem gX6_run_X6_goes : GoodIn wsX6_run (wsV RX6 202 RX6 yX6_goes wsX6_goes) := goodIn_app (goodIn_of _ (by decide +kernel)) ggX6_run_X6_goes
set_option maxRecDepth 20000 in
theorem ggX6_run_X6_liars : GoodIn wsX6_run wsX6_liars := goodIn_r _ [26, 1, 27, 28, 29, 5, 30, 2, 31, 32, 12, 33, 34, 35, 36, 37, 38, 39, 40, 41, 42, 43, 44, 45, 46, 47, 48, 49, 50, 51, 52, 53, 54, 55, 56, 73, 74, 75, 76, 77, 78, 79, 80, 81, 82, 83, 84, 85, 86, 87, 88, 89, 90, 91, 92, 93, 94, 95, 96, 97, 98, 99, 100, 101, 102, 103, 104, 105, 106] (by decide +kernel) (by decide +kernel)
set_option maxRecDepth 20000 in
theorem gX6_run_X6_liars : GoodIn wsX6_run (wsV RX6 183 RX6 yX6_liars wsX6_liars) := goodIn_app (goodIn_of _ (by decide +kernel)) ggX6_run_X6_liars
set_option maxRecDepth 20000 in
theorem ggX6_run_X6_strikesBy : GoodIn wsX6_run wsX6_strikesBy := goodIn_r _ [60, 1, 61, 62, 63, 5, 64, 31, 32, 37, 38, 39, 40, 41, 2, 12, 42, 43, 44, 33, 34, 35, 36, 45, 46, 47, 48, 49, 50, 51, 52, 53, 54, 55, 56, 73, 74, 75, 76, 77, 78, 79, 80, 81, 82, 83, 84, 85, 86, 87, 88, 89, 90, 91, 92, 93, 94, 95, 96, 97, 98, 99, 100, 101, 102, 103, 104, 105, 106] (by decide +kernel) (by decide +kernel)
set_option maxRecDepth 20000 in
theorem gX6_run_X6_strikesBy : GoodIn wsX6_run (wsV RX6 186 RX6 yX6_strikesBy wsX6_strikesBy) := goodIn_app (goodIn_of _ (by decide +kernel)) ggX6_run_X6_strikesBy
set_option maxRecDepth 20000 in
theorem ggX6_run_X6_lays : GoodIn wsX6_run wsX6_lays := goodIn_r _ [72, 2, 11, 12, 73, 74, 75, 76, 77, 78, 79, 80, 81, 82, 83, 84, 85, 86, 87, 88, 89, 90, 91, 92, 93, 94, 95, 96, 97, 98, 99, 100, 101, 102, 103, 104, 105, 106] (by decide +kernel) (by decide +kernel)
set_option maxRecDepth 20000 in
theorem gX6_run_X6_lays : GoodIn wsX6_run (wsV RX6 205 RX6 yX6_lays wsX6_lays) := goodIn_app (goodIn_of _ (by decide +kernel)) ggX6_run_X6_lays
theorem dX6_run_0 : decode cX6_run 0 = .ok (.iload_n 2, 1) := by decide +kernel
theorem dX6_run_1 : decode cX6_run 1 = .ok (.iconst 0, 1) := by decide +kernel
theorem dX6_run_2 : decode cX6_run 2 = .ok (.iconst 2, 1) := by decide +kernel
theorem dX6_run_3 : decode cX6_run 3 = .ok (.invokestatic 81, 3) := by decide +kernel
theorem dX6_run_6 : decode cX6_run 6 = .ok (.ifCond .ne 35, 3) := by decide +kernel
theorem dX6_run_9 : decode cX6_run 9 = .ok (.iload_n 2, 1) := by decide +kernel
theorem dX6_run_10 : decode cX6_run 10 = .ok (.bipush 10, 2) := by decide +kernel
theorem dX6_run_12 : decode cX6_run 12 = .ok (.bipush 9, 2) := by decide +kernel
theorem dX6_run_14 : decode cX6_run 14 = .ok (.aload_n 0, 1) := by decide +kernel
theorem dX6_run_15 : decode cX6_run 15 = .ok (.getfield 78, 3) := by decide +kernel
theorem dX6_run_18 : decode cX6_run 18 = .ok (.iadd, 1) := by decide +kernel
theorem dX6_run_19 : decode cX6_run 19 = .ok (.invokestatic 81, 3) := by decide +kernel
theorem dX6_run_22 : decode cX6_run 22 = .ok (.ifCond .ne 19, 3) := by decide +kernel
theorem dX6_run_25 : decode cX6_run 25 = .ok (.iload_n 2, 1) := by decide +kernel
theorem dX6_run_26 : decode cX6_run 26 = .ok (.bipush 20, 2) := by decide +kernel
theorem dX6_run_28 : decode cX6_run 28 = .ok (.bipush 19, 2) := by decide +kernel
theorem dX6_run_30 : decode cX6_run 30 = .ok (.aload_n 0, 1) := by decide +kernel
theorem dX6_run_31 : decode cX6_run 31 = .ok (.getfield 78, 3) := by decide +kernel
theorem dX6_run_34 : decode cX6_run 34 = .ok (.iadd, 1) := by decide +kernel
theorem dX6_run_35 : decode cX6_run 35 = .ok (.invokestatic 81, 3) := by decide +kernel
theorem dX6_run_38 : decode cX6_run 38 = .ok (.ifCond .eq 7, 3) := by decide +kernel
theorem dX6_run_41 : decode cX6_run 41 = .ok (.iconst 1, 1) := by decide +kernel
theorem dX6_run_42 : decode cX6_run 42 = .ok (.goto 4, 3) := by decide +kernel
theorem dX6_run_45 : decode cX6_run 45 = .ok (.iconst 0, 1) := by decide +kernel
theorem dX6_run_46 : decode cX6_run 46 = .ok (.istore_n 3, 1) := by decide +kernel
theorem dX6_run_47 : decode cX6_run 47 = .ok (.iload_n 1, 1) := by decide +kernel
theorem dX6_run_48 : decode cX6_run 48 = .ok (.iconst 0, 1) := by decide +kernel
theorem dX6_run_49 : decode cX6_run 49 = .ok (.bipush 48, 2) := by decide +kernel
theorem dX6_run_51 : decode cX6_run 51 = .ok (.invokestatic 81, 3) := by decide +kernel
theorem dX6_run_54 : decode cX6_run 54 = .ok (.ifCond .eq 7, 3) := by decide +kernel
theorem dX6_run_57 : decode cX6_run 57 = .ok (.iload_n 3, 1) := by decide +kernel
theorem dX6_run_58 : decode cX6_run 58 = .ok (.ifCond .ne 6, 3) := by decide +kernel
theorem dX6_run_61 : decode cX6_run 61 = .ok (.bipush (-2), 2) := by decide +kernel
theorem dX6_run_63 : decode cX6_run 63 = .ok (.ireturn, 1) := by decide +kernel
theorem dX6_run_64 : decode cX6_run 64 = .ok (.aload_n 0, 1) := by decide +kernel
theorem dX6_run_65 : decode cX6_run 65 = .ok (.invokevirtual 199, 3) := by decide +kernel
theorem dX6_run_68 : decode cX6_run 68 = .ok (.aload_n 0, 1) := by decide +kernel
theorem dX6_run_69 : decode cX6_run 69 = .ok (.iload_n 1, 1) := by decide +kernel
theorem dX6_run_70 : decode cX6_run 70 = .ok (.invokevirtual 202, 3) := by decide +kernel
theorem dX6_run_73 : decode cX6_run 73 = .ok (.istore 4, 2) := by decide +kernel
theorem dX6_run_75 : decode cX6_run 75 = .ok (.iload_n 2, 1) := by decide +kernel
theorem dX6_run_76 : decode cX6_run 76 = .ok (.tableswitch 53 0 2 #[28, 31, 44], 28) := by decide +kernel
theorem dX6_run_104 : decode cX6_run 104 = .ok (.goto 60, 3) := by decide +kernel
theorem dX6_run_107 : decode cX6_run 107 = .ok (.aload_n 0, 1) := by decide +kernel
theorem dX6_run_108 : decode cX6_run 108 = .ok (.aload_n 0, 1) := by decide +kernel
theorem dX6_run_109 : decode cX6_run 109 = .ok (.invokevirtual 183, 3) := by decide +kernel
theorem dX6_run_112 : decode cX6_run 112 = .ok (.invokevirtual 186, 3) := by decide +kernel
theorem dX6_run_115 : decode cX6_run 115 = .ok (.istore 4, 2) := by decide +kernel
theorem dX6_run_117 : decode cX6_run 117 = .ok (.goto 47, 3) := by decide +kernel
theorem dX6_run_120 : decode cX6_run 120 = .ok (.aload_n 0, 1) := by decide +kernel
theorem dX6_run_121 : decode cX6_run 121 = .ok (.invokevirtual 183, 3) := by decide +kernel
theorem dX6_run_124 : decode cX6_run 124 = .ok (.istore 4, 2) := by decide +kernel
theorem dX6_run_126 : decode cX6_run 126 = .ok (.goto 38, 3) := by decide +kernel
theorem dX6_run_129 : decode cX6_run 129 = .ok (.iload_n 2, 1) := by decide +kernel
theorem dX6_run_130 : decode cX6_run 130 = .ok (.bipush 20, 2) := by decide +kernel
theorem dX6_run_132 : decode cX6_run 132 = .ok (.if_icmp .ge 17, 3) := by decide +kernel
theorem dX6_run_135 : decode cX6_run 135 = .ok (.aload_n 0, 1) := by decide +kernel
theorem dX6_run_136 : decode cX6_run 136 = .ok (.getfield 16, 3) := by decide +kernel
theorem dX6_run_139 : decode cX6_run 139 = .ok (.iconst 4, 1) := by decide +kernel
theorem dX6_run_140 : decode cX6_run 140 = .ok (.iload_n 2, 1) := by decide +kernel
theorem dX6_run_141 : decode cX6_run 141 = .ok (.bipush 10, 2) := by decide +kernel
theorem dX6_run_143 : decode cX6_run 143 = .ok (.isub, 1) := by decide +kernel
theorem dX6_run_144 : decode cX6_run 144 = .ok (.imul, 1) := by decide +kernel
theorem dX6_run_145 : decode cX6_run 145 = .ok (.iaload, 1) := by decide +kernel
theorem dX6_run_146 : decode cX6_run 146 = .ok (.goto 16, 3) := by decide +kernel
theorem dX6_run_149 : decode cX6_run 149 = .ok (.aload_n 0, 1) := by decide +kernel
theorem dX6_run_150 : decode cX6_run 150 = .ok (.getfield 16, 3) := by decide +kernel
theorem dX6_run_153 : decode cX6_run 153 = .ok (.iconst 4, 1) := by decide +kernel
theorem dX6_run_154 : decode cX6_run 154 = .ok (.iload_n 2, 1) := by decide +kernel
theorem dX6_run_155 : decode cX6_run 155 = .ok (.bipush 20, 2) := by decide +kernel
theorem dX6_run_157 : decode cX6_run 157 = .ok (.isub, 1) := by decide +kernel
theorem dX6_run_158 : decode cX6_run 158 = .ok (.imul, 1) := by decide +kernel
theorem dX6_run_159 : decode cX6_run 159 = .ok (.iconst 1, 1) := by decide +kernel
theorem dX6_run_160 : decode cX6_run 160 = .ok (.iadd, 1) := by decide +kernel
theorem dX6_run_161 : decode cX6_run 161 = .ok (.iaload, 1) := by decide +kernel
theorem dX6_run_162 : decode cX6_run 162 = .ok (.istore 4, 2) := by decide +kernel
theorem dX6_run_164 : decode cX6_run 164 = .ok (.aload_n 0, 1) := by decide +kernel
theorem dX6_run_165 : decode cX6_run 165 = .ok (.invokevirtual 205, 3) := by decide +kernel
theorem dX6_run_168 : decode cX6_run 168 = .ok (.iload 4, 2) := by decide +kernel
theorem dX6_run_170 : decode cX6_run 170 = .ok (.ireturn, 1) := by decide +kernel
set_option maxRecDepth 20000 in
theorem ggX6_when_X6_in : GoodIn wsX6_when wsX6_in := goodIn_r _ [4] (by decide +kernel) (by decide +kernel)
set_option maxRecDepth 20000 in
theorem gX6_when_X6_in : GoodIn wsX6_when (va_wsS RX6 81 yX6_in wsX6_in) := goodIn_app (goodIn_of _ (by decide +kernel)) ggX6_when_X6_in
set_option maxRecDepth 20000 in
theorem ggX6_when_X6_keeps : GoodIn wsX6_when wsX6_keeps := goodIn_r _ [8, 9, 10, 11, 69, 70, 71, 72, 73, 74, 75, 76, 77, 78, 79, 80, 81, 82, 83, 84, 85, 86, 87, 88, 89, 90, 91, 92, 93, 94, 95, 96, 97, 98, 99, 100, 101, 102] (by decide +kernel) (by decide +kernel)
set_option maxRecDepth 20000 in
theorem gX6_when_X6_keeps : GoodIn wsX6_when (wsV RX6 199 RX6 yX6_keeps wsX6_keeps) := goodIn_app (goodIn_of _ (by decide +kernel)) ggX6_when_X6_keeps
set_option maxRecDepth 20000 in
theorem ggX6_when_X6_hourOf : GoodIn wsX6_when wsX6_hourOf := goodIn_r _ [15, 16, 10, 11, 17, 18, 19, 20, 21, 3, 22, 23, 24, 25, 26, 27, 28, 29, 30, 31, 32, 33, 34, 35, 36, 37, 38, 39, 40, 41, 42, 43, 44, 45, 46, 47, 48, 49, 50, 51, 52, 53, 54, 55, 56, 57, 58, 59, 60, 61, 62, 63, 64, 69, 70, 71, 72, 73, 74, 75, 76, 77, 78, 79, 80, 81, 82, 83, 84, 85, 86, 87, 88, 89, 90, 91, 92, 93, 94, 95, 96, 97, 98, 99, 100, 101, 102] (by decide +kernel) (by decide +kernel)
set_option maxRecDepth 20000 in
theorem gX6_when_X6_hourOf : GoodIn wsX6_when (wsV RX6 196 RX6 yX6_hourOf wsX6_hourOf) := goodIn_app (goodIn_of _ (by decide +kernel)) ggX6_when_X6_hourOf
set_option maxRecDepth 20000 in
theorem ggX6_when_X6_lays : GoodIn wsX6_when wsX6_lays := goodIn_r _ [68, 10, 9, 11, 69, 70, 71, 72, 73, 74, 75, 76, 77, 78, 79, 80, 81, 82, 83, 84, 85, 86, 87, 88, 89, 90, 91, 92, 93, 94, 95, 96, 97, 98, 99, 100, 101, 102] (by decide +kernel) (by decide +kernel)
set_option maxRecDepth 20000 in
theorem gX6_when_X6_lays : GoodIn wsX6_when (wsV RX6 205 RX6 yX6_lays wsX6_lays) := goodIn_app (goodIn_of _ (by decide +kernel)) ggX6_when_X6_lays
theorem dX6_when_0 : decode cX6_when 0 = .ok (.iload_n 1, 1) := by decide +kernel
theorem dX6_when_1 : decode cX6_when 1 = .ok (.iconst 0, 1) := by decide +kernel
theorem dX6_when_2 : decode cX6_when 2 = .ok (.sipush 999, 3) := by decide +kernel
theorem dX6_when_5 : decode cX6_when 5 = .ok (.invokestatic 81, 3) := by decide +kernel
theorem dX6_when_8 : decode cX6_when 8 = .ok (.ifCond .ne 6, 3) := by decide +kernel
theorem dX6_when_11 : decode cX6_when 11 = .ok (.bipush (-2), 2) := by decide +kernel
theorem dX6_when_13 : decode cX6_when 13 = .ok (.ireturn, 1) := by decide +kernel
theorem dX6_when_14 : decode cX6_when 14 = .ok (.iconst (-1), 1) := by decide +kernel
theorem dX6_when_15 : decode cX6_when 15 = .ok (.istore_n 2, 1) := by decide +kernel
theorem dX6_when_16 : decode cX6_when 16 = .ok (.aload_n 0, 1) := by decide +kernel
theorem dX6_when_17 : decode cX6_when 17 = .ok (.invokevirtual 199, 3) := by decide +kernel
theorem dX6_when_20 : decode cX6_when 20 = .ok (.iconst 0, 1) := by decide +kernel
theorem dX6_when_21 : decode cX6_when 21 = .ok (.istore_n 3, 1) := by decide +kernel
theorem dX6_when_22 : decode cX6_when 22 = .ok (.iload_n 3, 1) := by decide +kernel
theorem dX6_when_23 : decode cX6_when 23 = .ok (.bipush 60, 2) := by decide +kernel
theorem dX6_when_25 : decode cX6_when 25 = .ok (.if_icmp .gt 28, 3) := by decide +kernel
theorem dX6_when_28 : decode cX6_when 28 = .ok (.iload_n 2, 1) := by decide +kernel
theorem dX6_when_29 : decode cX6_when 29 = .ok (.iconst (-1), 1) := by decide +kernel
theorem dX6_when_30 : decode cX6_when 30 = .ok (.if_icmp .ne 23, 3) := by decide +kernel
theorem dX6_when_33 : decode cX6_when 33 = .ok (.aload_n 0, 1) := by decide +kernel
theorem dX6_when_34 : decode cX6_when 34 = .ok (.invokevirtual 196, 3) := by decide +kernel
theorem dX6_when_37 : decode cX6_when 37 = .ok (.iload_n 1, 1) := by decide +kernel
theorem dX6_when_38 : decode cX6_when 38 = .ok (.if_icmp .ne 7, 3) := by decide +kernel
theorem dX6_when_41 : decode cX6_when 41 = .ok (.iload_n 3, 1) := by decide +kernel
theorem dX6_when_42 : decode cX6_when 42 = .ok (.goto 4, 3) := by decide +kernel
theorem dX6_when_45 : decode cX6_when 45 = .ok (.iconst (-1), 1) := by decide +kernel
theorem dX6_when_46 : decode cX6_when 46 = .ok (.istore_n 2, 1) := by decide +kernel
theorem dX6_when_47 : decode cX6_when 47 = .ok (.iinc 3 1, 3) := by decide +kernel
theorem dX6_when_50 : decode cX6_when 50 = .ok (.goto (-28), 3) := by decide +kernel
theorem dX6_when_53 : decode cX6_when 53 = .ok (.aload_n 0, 1) := by decide +kernel
theorem dX6_when_54 : decode cX6_when 54 = .ok (.invokevirtual 205, 3) := by decide +kernel
theorem dX6_when_57 : decode cX6_when 57 = .ok (.iload_n 2, 1) := by decide +kernel
theorem dX6_when_58 : decode cX6_when 58 = .ok (.ireturn, 1) := by decide +kernel
set_option maxRecDepth 20000 in
theorem ggX6_tellsDay_X6_keeps : GoodIn wsX6_tellsDay wsX6_keeps := goodIn_r _ [8, 9, 10, 11, 68, 69, 70, 71, 72, 73, 74, 75, 76, 77, 78, 79, 80, 81, 82, 83, 84, 85, 86, 87, 88, 89, 90, 91, 92, 93, 94, 95, 96, 97, 98, 99, 100, 101] (by decide +kernel) (by decide +kernel)
set_option maxRecDepth 20000 in
theorem gX6_tellsDay_X6_keeps : GoodIn wsX6_tellsDay (wsV RX6 199 RX6 yX6_keeps wsX6_keeps) := goodIn_app (goodIn_of _ (by decide +kernel)) ggX6_tellsDay_X6_keeps
set_option maxRecDepth 20000 in
theorem ggX6_tellsDay_X6_hourOf : GoodIn wsX6_tellsDay wsX6_hourOf := goodIn_r _ [15, 16, 10, 11, 17, 3, 18, 19, 20, 7, 21, 22, 23, 24, 25, 26, 27, 28, 29, 30, 31, 32, 33, 34, 35, 36, 37, 38, 39, 40, 41, 42, 43, 44, 45, 46, 47, 48, 49, 50, 51, 52, 53, 54, 55, 56, 57, 58, 59, 60, 61, 62, 63, 68, 69, 70, 71, 72, 73, 74, 75, 76, 77, 78, 79, 80, 81, 82, 83, 84, 85, 86, 87, 88, 89, 90, 91, 92, 93, 94, 95, 96, 97, 98, 99, 100, 101] (by decide +kernel) (by decide +kernel)
set_option maxRecDepth 20000 in
theorem gX6_tellsDay_X6_hourOf : GoodIn wsX6_tellsDay (wsV RX6 196 RX6 yX6_hourOf wsX6_hourOf) := goodIn_app (goodIn_of _ (by decide +kernel)) ggX6_tellsDay_X6_hourOf
set_option maxRecDepth 20000 in
theorem ggX6_tellsDay_X6_lays : GoodIn wsX6_tellsDay wsX6_lays := goodIn_r _ [67, 10, 9, 11, 68, 69, 70, 71, 72, 73, 74, 75, 76, 77, 78, 79, 80, 81, 82, 83, 84, 85, 86, 87, 88, 89, 90, 91, 92, 93, 94, 95, 96, 97, 98, 99, 100, 101] (by decide +kernel) (by decide +kernel)
set_option maxRecDepth 20000 in
theorem gX6_tellsDay_X6_lays : GoodIn wsX6_tellsDay (wsV RX6 205 RX6 yX6_lays wsX6_lays) := goodIn_app (goodIn_of _ (by decide +kernel)) ggX6_tellsDay_X6_lays
theorem dX6_tellsDay_0 : decode cX6_tellsDay 0 = .ok (.aload_n 0, 1) := by decide +kernel
theorem dX6_tellsDay_1 : decode cX6_tellsDay 1 = .ok (.invokevirtual 199, 3) := by decide +kernel
theorem dX6_tellsDay_4 : decode cX6_tellsDay 4 = .ok (.iconst 0, 1) := by decide +kernel
theorem dX6_tellsDay_5 : decode cX6_tellsDay 5 = .ok (.istore_n 1, 1) := by decide +kernel
theorem dX6_tellsDay_6 : decode cX6_tellsDay 6 = .ok (.iload_n 1, 1) := by decide +kernel
theorem dX6_tellsDay_7 : decode cX6_tellsDay 7 = .ok (.bipush 24, 2) := by decide +kernel
theorem dX6_tellsDay_9 : decode cX6_tellsDay 9 = .ok (.if_icmp .ge 29, 3) := by decide +kernel
theorem dX6_tellsDay_12 : decode cX6_tellsDay 12 = .ok (.aload_n 0, 1) := by decide +kernel
theorem dX6_tellsDay_13 : decode cX6_tellsDay 13 = .ok (.getfield 64, 3) := by decide +kernel
theorem dX6_tellsDay_16 : decode cX6_tellsDay 16 = .ok (.iload_n 1, 1) := by decide +kernel
theorem dX6_tellsDay_17 : decode cX6_tellsDay 17 = .ok (.aload_n 0, 1) := by decide +kernel
theorem dX6_tellsDay_18 : decode cX6_tellsDay 18 = .ok (.invokevirtual 196, 3) := by decide +kernel
theorem dX6_tellsDay_21 : decode cX6_tellsDay 21 = .ok (.iastore, 1) := by decide +kernel
theorem dX6_tellsDay_22 : decode cX6_tellsDay 22 = .ok (.aload_n 0, 1) := by decide +kernel
theorem dX6_tellsDay_23 : decode cX6_tellsDay 23 = .ok (.getfield 67, 3) := by decide +kernel
theorem dX6_tellsDay_26 : decode cX6_tellsDay 26 = .ok (.iload_n 1, 1) := by decide +kernel
theorem dX6_tellsDay_27 : decode cX6_tellsDay 27 = .ok (.aload_n 0, 1) := by decide +kernel
theorem dX6_tellsDay_28 : decode cX6_tellsDay 28 = .ok (.getfield 193, 3) := by decide +kernel
theorem dX6_tellsDay_31 : decode cX6_tellsDay 31 = .ok (.iastore, 1) := by decide +kernel
theorem dX6_tellsDay_32 : decode cX6_tellsDay 32 = .ok (.iinc 1 1, 3) := by decide +kernel
theorem dX6_tellsDay_35 : decode cX6_tellsDay 35 = .ok (.goto (-29), 3) := by decide +kernel
theorem dX6_tellsDay_38 : decode cX6_tellsDay 38 = .ok (.aload_n 0, 1) := by decide +kernel
theorem dX6_tellsDay_39 : decode cX6_tellsDay 39 = .ok (.invokevirtual 205, 3) := by decide +kernel
theorem dX6_tellsDay_42 : decode cX6_tellsDay 42 = .ok (.return_, 1) := by decide +kernel
theorem dX6_alikeWith_0 : decode cX6_alikeWith 0 = .ok (.iconst 0, 1) := by decide +kernel
theorem dX6_alikeWith_1 : decode cX6_alikeWith 1 = .ok (.istore_n 2, 1) := by decide +kernel
theorem dX6_alikeWith_2 : decode cX6_alikeWith 2 = .ok (.iconst 0, 1) := by decide +kernel
theorem dX6_alikeWith_3 : decode cX6_alikeWith 3 = .ok (.istore_n 3, 1) := by decide +kernel
theorem dX6_alikeWith_4 : decode cX6_alikeWith 4 = .ok (.iload_n 3, 1) := by decide +kernel
theorem dX6_alikeWith_5 : decode cX6_alikeWith 5 = .ok (.bipush 24, 2) := by decide +kernel
theorem dX6_alikeWith_7 : decode cX6_alikeWith 7 = .ok (.if_icmp .ge 32, 3) := by decide +kernel
theorem dX6_alikeWith_10 : decode cX6_alikeWith 10 = .ok (.iload_n 2, 1) := by decide +kernel
theorem dX6_alikeWith_11 : decode cX6_alikeWith 11 = .ok (.aload_n 0, 1) := by decide +kernel
theorem dX6_alikeWith_12 : decode cX6_alikeWith 12 = .ok (.getfield 64, 3) := by decide +kernel
theorem dX6_alikeWith_15 : decode cX6_alikeWith 15 = .ok (.iload_n 3, 1) := by decide +kernel
theorem dX6_alikeWith_16 : decode cX6_alikeWith 16 = .ok (.iaload, 1) := by decide +kernel
theorem dX6_alikeWith_17 : decode cX6_alikeWith 17 = .ok (.aload_n 0, 1) := by decide +kernel
theorem dX6_alikeWith_18 : decode cX6_alikeWith 18 = .ok (.getfield 64, 3) := by decide +kernel
theorem dX6_alikeWith_21 : decode cX6_alikeWith 21 = .ok (.iload_n 1, 1) := by decide +kernel
theorem dX6_alikeWith_22 : decode cX6_alikeWith 22 = .ok (.iaload, 1) := by decide +kernel
theorem dX6_alikeWith_23 : decode cX6_alikeWith 23 = .ok (.if_icmp .ne 7, 3) := by decide +kernel
theorem dX6_alikeWith_26 : decode cX6_alikeWith 26 = .ok (.iconst 1, 1) := by decide +kernel
theorem dX6_alikeWith_27 : decode cX6_alikeWith 27 = .ok (.goto 4, 3) := by decide +kernel
theorem dX6_alikeWith_30 : decode cX6_alikeWith 30 = .ok (.iconst 0, 1) := by decide +kernel
theorem dX6_alikeWith_31 : decode cX6_alikeWith 31 = .ok (.iadd, 1) := by decide +kernel
theorem dX6_alikeWith_32 : decode cX6_alikeWith 32 = .ok (.istore_n 2, 1) := by decide +kernel
theorem dX6_alikeWith_33 : decode cX6_alikeWith 33 = .ok (.iinc 3 1, 3) := by decide +kernel
theorem dX6_alikeWith_36 : decode cX6_alikeWith 36 = .ok (.goto (-32), 3) := by decide +kernel
theorem dX6_alikeWith_39 : decode cX6_alikeWith 39 = .ok (.iload_n 2, 1) := by decide +kernel
theorem dX6_alikeWith_40 : decode cX6_alikeWith 40 = .ok (.ireturn, 1) := by decide +kernel
set_option maxRecDepth 20000 in
theorem ggX6_alone_X6_alikeWith : GoodIn wsX6_alone wsX6_alikeWith := goodIn_r _ [5, 6, 7, 8, 9, 10, 11, 12, 13, 14, 15, 16, 17, 18, 19, 20, 21, 22, 23, 24, 25, 26, 27, 28, 29, 30, 31, 32, 33, 34, 35, 36, 37, 38, 39, 40] (by decide +kernel) (by decide +kernel)
set_option maxRecDepth 20000 in
theorem gX6_alone_X6_alikeWith : GoodIn wsX6_alone (wsV RX6 208 RX6 yX6_alikeWith wsX6_alikeWith) := goodIn_app (goodIn_of _ (by decide +kernel)) ggX6_alone_X6_alikeWith
theorem dX6_alone_0 : decode cX6_alone 0 = .ok (.iconst 0, 1) := by decide +kernel
theorem dX6_alone_1 : decode cX6_alone 1 = .ok (.istore_n 1, 1) := by decide +kernel
theorem dX6_alone_2 : decode cX6_alone 2 = .ok (.iconst 0, 1) := by decide +kernel
theorem dX6_alone_3 : decode cX6_alone 3 = .ok (.istore_n 2, 1) := by decide +kernel
theorem dX6_alone_4 : decode cX6_alone 4 = .ok (.iload_n 2, 1) := by decide +kernel
theorem dX6_alone_5 : decode cX6_alone 5 = .ok (.bipush 24, 2) := by decide +kernel
theorem dX6_alone_7 : decode cX6_alone 7 = .ok (.if_icmp .ge 26, 3) := by decide +kernel
theorem dX6_alone_10 : decode cX6_alone 10 = .ok (.iload_n 1, 1) := by decide +kernel
theorem dX6_alone_11 : decode cX6_alone 11 = .ok (.aload_n 0, 1) := by decide +kernel
theorem dX6_alone_12 : decode cX6_alone 12 = .ok (.iload_n 2, 1) := by decide +kernel
theorem dX6_alone_13 : decode cX6_alone 13 = .ok (.invokevirtual 208, 3) := by decide +kernel
theorem dX6_alone_16 : decode cX6_alone 16 = .ok (.iconst 1, 1) := by decide +kernel
theorem dX6_alone_17 : decode cX6_alone 17 = .ok (.if_icmp .ne 7, 3) := by decide +kernel
theorem dX6_alone_20 : decode cX6_alone 20 = .ok (.iconst 1, 1) := by decide +kernel
theorem dX6_alone_21 : decode cX6_alone 21 = .ok (.goto 4, 3) := by decide +kernel
theorem dX6_alone_24 : decode cX6_alone 24 = .ok (.iconst 0, 1) := by decide +kernel
theorem dX6_alone_25 : decode cX6_alone 25 = .ok (.iadd, 1) := by decide +kernel
theorem dX6_alone_26 : decode cX6_alone 26 = .ok (.istore_n 1, 1) := by decide +kernel
theorem dX6_alone_27 : decode cX6_alone 27 = .ok (.iinc 2 1, 3) := by decide +kernel
theorem dX6_alone_30 : decode cX6_alone 30 = .ok (.goto (-26), 3) := by decide +kernel
theorem dX6_alone_33 : decode cX6_alone 33 = .ok (.iload_n 1, 1) := by decide +kernel
theorem dX6_alone_34 : decode cX6_alone 34 = .ok (.ireturn, 1) := by decide +kernel
theorem dX6_longestRow_0 : decode cX6_longestRow 0 = .ok (.iconst 0, 1) := by decide +kernel
theorem dX6_longestRow_1 : decode cX6_longestRow 1 = .ok (.istore_n 1, 1) := by decide +kernel
theorem dX6_longestRow_2 : decode cX6_longestRow 2 = .ok (.iconst 0, 1) := by decide +kernel
theorem dX6_longestRow_3 : decode cX6_longestRow 3 = .ok (.istore_n 2, 1) := by decide +kernel
theorem dX6_longestRow_4 : decode cX6_longestRow 4 = .ok (.iconst 0, 1) := by decide +kernel
theorem dX6_longestRow_5 : decode cX6_longestRow 5 = .ok (.istore_n 3, 1) := by decide +kernel
theorem dX6_longestRow_6 : decode cX6_longestRow 6 = .ok (.iload_n 3, 1) := by decide +kernel
theorem dX6_longestRow_7 : decode cX6_longestRow 7 = .ok (.bipush 24, 2) := by decide +kernel
theorem dX6_longestRow_9 : decode cX6_longestRow 9 = .ok (.if_icmp .ge 73, 3) := by decide +kernel
theorem dX6_longestRow_12 : decode cX6_longestRow 12 = .ok (.iload_n 3, 1) := by decide +kernel
theorem dX6_longestRow_13 : decode cX6_longestRow 13 = .ok (.ifCond .le 7, 3) := by decide +kernel
theorem dX6_longestRow_16 : decode cX6_longestRow 16 = .ok (.iconst 1, 1) := by decide +kernel
theorem dX6_longestRow_17 : decode cX6_longestRow 17 = .ok (.goto 4, 3) := by decide +kernel
theorem dX6_longestRow_20 : decode cX6_longestRow 20 = .ok (.iconst 0, 1) := by decide +kernel
theorem dX6_longestRow_21 : decode cX6_longestRow 21 = .ok (.istore 4, 2) := by decide +kernel
theorem dX6_longestRow_23 : decode cX6_longestRow 23 = .ok (.iload 4, 2) := by decide +kernel
theorem dX6_longestRow_25 : decode cX6_longestRow 25 = .ok (.ifCond .eq 27, 3) := by decide +kernel
theorem dX6_longestRow_28 : decode cX6_longestRow 28 = .ok (.aload_n 0, 1) := by decide +kernel
theorem dX6_longestRow_29 : decode cX6_longestRow 29 = .ok (.getfield 64, 3) := by decide +kernel
theorem dX6_longestRow_32 : decode cX6_longestRow 32 = .ok (.iload_n 3, 1) := by decide +kernel
theorem dX6_longestRow_33 : decode cX6_longestRow 33 = .ok (.iaload, 1) := by decide +kernel
theorem dX6_longestRow_34 : decode cX6_longestRow 34 = .ok (.aload_n 0, 1) := by decide +kernel
theorem dX6_longestRow_35 : decode cX6_longestRow 35 = .ok (.getfield 64, 3) := by decide +kernel
theorem dX6_longestRow_38 : decode cX6_longestRow 38 = .ok (.iload_n 3, 1) := by decide +kernel
theorem dX6_longestRow_39 : decode cX6_longestRow 39 = .ok (.iconst 1, 1) := by decide +kernel
theorem dX6_longestRow_40 : decode cX6_longestRow 40 = .ok (.isub, 1) := by decide +kernel
theorem dX6_longestRow_41 : decode cX6_longestRow 41 = .ok (.iaload, 1) := by decide +kernel
theorem dX6_longestRow_42 : decode cX6_longestRow 42 = .ok (.if_icmp .ne 7, 3) := by decide +kernel
theorem dX6_longestRow_45 : decode cX6_longestRow 45 = .ok (.iconst 1, 1) := by decide +kernel
theorem dX6_longestRow_46 : decode cX6_longestRow 46 = .ok (.goto 4, 3) := by decide +kernel
theorem dX6_longestRow_49 : decode cX6_longestRow 49 = .ok (.iconst 0, 1) := by decide +kernel
theorem dX6_longestRow_50 : decode cX6_longestRow 50 = .ok (.istore 4, 2) := by decide +kernel
theorem dX6_longestRow_52 : decode cX6_longestRow 52 = .ok (.iload 4, 2) := by decide +kernel
theorem dX6_longestRow_54 : decode cX6_longestRow 54 = .ok (.ifCond .eq 9, 3) := by decide +kernel
theorem dX6_longestRow_57 : decode cX6_longestRow 57 = .ok (.iload_n 2, 1) := by decide +kernel
theorem dX6_longestRow_58 : decode cX6_longestRow 58 = .ok (.iconst 1, 1) := by decide +kernel
theorem dX6_longestRow_59 : decode cX6_longestRow 59 = .ok (.iadd, 1) := by decide +kernel
theorem dX6_longestRow_60 : decode cX6_longestRow 60 = .ok (.goto 4, 3) := by decide +kernel
theorem dX6_longestRow_63 : decode cX6_longestRow 63 = .ok (.iconst 1, 1) := by decide +kernel
theorem dX6_longestRow_64 : decode cX6_longestRow 64 = .ok (.istore_n 2, 1) := by decide +kernel
theorem dX6_longestRow_65 : decode cX6_longestRow 65 = .ok (.iload_n 2, 1) := by decide +kernel
theorem dX6_longestRow_66 : decode cX6_longestRow 66 = .ok (.iload_n 1, 1) := by decide +kernel
theorem dX6_longestRow_67 : decode cX6_longestRow 67 = .ok (.if_icmp .le 7, 3) := by decide +kernel
theorem dX6_longestRow_70 : decode cX6_longestRow 70 = .ok (.iload_n 2, 1) := by decide +kernel
theorem dX6_longestRow_71 : decode cX6_longestRow 71 = .ok (.goto 4, 3) := by decide +kernel
theorem dX6_longestRow_74 : decode cX6_longestRow 74 = .ok (.iload_n 1, 1) := by decide +kernel
theorem dX6_longestRow_75 : decode cX6_longestRow 75 = .ok (.istore_n 1, 1) := by decide +kernel
theorem dX6_longestRow_76 : decode cX6_longestRow 76 = .ok (.iinc 3 1, 3) := by decide +kernel
theorem dX6_longestRow_79 : decode cX6_longestRow 79 = .ok (.goto (-73), 3) := by decide +kernel
theorem dX6_longestRow_82 : decode cX6_longestRow 82 = .ok (.iload_n 1, 1) := by decide +kernel
theorem dX6_longestRow_83 : decode cX6_longestRow 83 = .ok (.ireturn, 1) := by decide +kernel
theorem dX6_mostHour_0 : decode cX6_mostHour 0 = .ok (.iconst 0, 1) := by decide +kernel
theorem dX6_mostHour_1 : decode cX6_mostHour 1 = .ok (.istore_n 1, 1) := by decide +kernel
theorem dX6_mostHour_2 : decode cX6_mostHour 2 = .ok (.iconst 1, 1) := by decide +kernel
theorem dX6_mostHour_3 : decode cX6_mostHour 3 = .ok (.istore_n 2, 1) := by decide +kernel
theorem dX6_mostHour_4 : decode cX6_mostHour 4 = .ok (.iload_n 2, 1) := by decide +kernel
theorem dX6_mostHour_5 : decode cX6_mostHour 5 = .ok (.bipush 24, 2) := by decide +kernel
theorem dX6_mostHour_7 : decode cX6_mostHour 7 = .ok (.if_icmp .ge 30, 3) := by decide +kernel
theorem dX6_mostHour_10 : decode cX6_mostHour 10 = .ok (.aload_n 0, 1) := by decide +kernel
theorem dX6_mostHour_11 : decode cX6_mostHour 11 = .ok (.getfield 64, 3) := by decide +kernel
theorem dX6_mostHour_14 : decode cX6_mostHour 14 = .ok (.iload_n 2, 1) := by decide +kernel
theorem dX6_mostHour_15 : decode cX6_mostHour 15 = .ok (.iaload, 1) := by decide +kernel
theorem dX6_mostHour_16 : decode cX6_mostHour 16 = .ok (.aload_n 0, 1) := by decide +kernel
theorem dX6_mostHour_17 : decode cX6_mostHour 17 = .ok (.getfield 64, 3) := by decide +kernel
theorem dX6_mostHour_20 : decode cX6_mostHour 20 = .ok (.iload_n 1, 1) := by decide +kernel
theorem dX6_mostHour_21 : decode cX6_mostHour 21 = .ok (.iaload, 1) := by decide +kernel
theorem dX6_mostHour_22 : decode cX6_mostHour 22 = .ok (.if_icmp .le 7, 3) := by decide +kernel
theorem dX6_mostHour_25 : decode cX6_mostHour 25 = .ok (.iload_n 2, 1) := by decide +kernel
theorem dX6_mostHour_26 : decode cX6_mostHour 26 = .ok (.goto 4, 3) := by decide +kernel
theorem dX6_mostHour_29 : decode cX6_mostHour 29 = .ok (.iload_n 1, 1) := by decide +kernel
theorem dX6_mostHour_30 : decode cX6_mostHour 30 = .ok (.istore_n 1, 1) := by decide +kernel
theorem dX6_mostHour_31 : decode cX6_mostHour 31 = .ok (.iinc 2 1, 3) := by decide +kernel
theorem dX6_mostHour_34 : decode cX6_mostHour 34 = .ok (.goto (-30), 3) := by decide +kernel
theorem dX6_mostHour_37 : decode cX6_mostHour 37 = .ok (.iload_n 1, 1) := by decide +kernel
theorem dX6_mostHour_38 : decode cX6_mostHour 38 = .ok (.ireturn, 1) := by decide +kernel
theorem dX6_silent_0 : decode cX6_silent 0 = .ok (.iconst 0, 1) := by decide +kernel
theorem dX6_silent_1 : decode cX6_silent 1 = .ok (.istore_n 1, 1) := by decide +kernel
theorem dX6_silent_2 : decode cX6_silent 2 = .ok (.iconst 0, 1) := by decide +kernel
theorem dX6_silent_3 : decode cX6_silent 3 = .ok (.istore_n 2, 1) := by decide +kernel
theorem dX6_silent_4 : decode cX6_silent 4 = .ok (.iload_n 2, 1) := by decide +kernel
theorem dX6_silent_5 : decode cX6_silent 5 = .ok (.bipush 24, 2) := by decide +kernel
theorem dX6_silent_7 : decode cX6_silent 7 = .ok (.if_icmp .ge 26, 3) := by decide +kernel
theorem dX6_silent_10 : decode cX6_silent 10 = .ok (.iload_n 1, 1) := by decide +kernel
theorem dX6_silent_11 : decode cX6_silent 11 = .ok (.aload_n 0, 1) := by decide +kernel
theorem dX6_silent_12 : decode cX6_silent 12 = .ok (.getfield 64, 3) := by decide +kernel
theorem dX6_silent_15 : decode cX6_silent 15 = .ok (.iload_n 2, 1) := by decide +kernel
theorem dX6_silent_16 : decode cX6_silent 16 = .ok (.iaload, 1) := by decide +kernel
theorem dX6_silent_17 : decode cX6_silent 17 = .ok (.ifCond .ne 7, 3) := by decide +kernel
theorem dX6_silent_20 : decode cX6_silent 20 = .ok (.iconst 1, 1) := by decide +kernel
theorem dX6_silent_21 : decode cX6_silent 21 = .ok (.goto 4, 3) := by decide +kernel
theorem dX6_silent_24 : decode cX6_silent 24 = .ok (.iconst 0, 1) := by decide +kernel
theorem dX6_silent_25 : decode cX6_silent 25 = .ok (.iadd, 1) := by decide +kernel
theorem dX6_silent_26 : decode cX6_silent 26 = .ok (.istore_n 1, 1) := by decide +kernel
theorem dX6_silent_27 : decode cX6_silent 27 = .ok (.iinc 2 1, 3) := by decide +kernel
theorem dX6_silent_30 : decode cX6_silent 30 = .ok (.goto (-26), 3) := by decide +kernel
theorem dX6_silent_33 : decode cX6_silent 33 = .ok (.iload_n 1, 1) := by decide +kernel
theorem dX6_silent_34 : decode cX6_silent 34 = .ok (.ireturn, 1) := by decide +kernel
set_option maxRecDepth 20000 in
theorem ggX6_dial_X6_in : GoodIn wsX6_dial wsX6_in := goodIn_r _ [5] (by decide +kernel) (by decide +kernel)
set_option maxRecDepth 20000 in
theorem gX6_dial_X6_in : GoodIn wsX6_dial (va_wsS RX6 81 yX6_in wsX6_in) := goodIn_app (goodIn_of _ (by decide +kernel)) ggX6_dial_X6_in
set_option maxRecDepth 20000 in
theorem ggX6_dial_X6_tellsDay : GoodIn wsX6_dial wsX6_tellsDay := goodIn_r _ [9, 1, 10, 11, 12, 13, 14, 4, 15, 16, 17, 18, 19, 20, 21, 22, 23, 24, 25, 26, 27, 28, 29, 30, 31, 32, 33, 34, 35, 36, 37, 38, 39, 40, 41, 42, 43, 44, 45, 46, 47, 48, 49, 50, 51, 52, 53, 54, 55, 56, 57, 58, 59, 60, 61, 62, 63, 64, 65, 66, 67, 68, 69, 70, 71, 72, 73, 74, 95, 96, 97, 98, 99, 100, 101, 102, 103, 104, 105, 106, 107, 108, 109, 110, 111, 112, 113, 114, 115, 116, 117, 118, 119, 120, 121, 122, 123, 124, 125, 126, 127, 128] (by decide +kernel) (by decide +kernel)
set_option maxRecDepth 20000 in
theorem gX6_dial_X6_tellsDay : GoodIn wsX6_dial (wsV RX6 211 RX6 yX6_tellsDay wsX6_tellsDay) := goodIn_app (goodIn_of _ (by decide +kernel)) ggX6_dial_X6_tellsDay
set_option maxRecDepth 20000 in
theorem ggX6_dial_X6_alone : GoodIn wsX6_dial wsX6_alone := goodIn_r _ [78, 79, 80, 81, 4, 82, 1, 95, 96, 97, 98, 99, 100, 101, 102, 103, 104, 105, 106, 107, 108, 109, 110, 111, 112, 113, 114, 115, 116, 117, 118, 119, 120, 121, 122, 123, 124, 125, 126, 127, 128] (by decide +kernel) (by decide +kernel)
set_option maxRecDepth 20000 in
theorem gX6_dial_X6_alone : GoodIn wsX6_dial (wsV RX6 214 RX6 yX6_alone wsX6_alone) := goodIn_app (goodIn_of _ (by decide +kernel)) ggX6_dial_X6_alone
set_option maxRecDepth 20000 in
theorem ggX6_dial_X6_longestRow : GoodIn wsX6_dial wsX6_longestRow := goodIn_r _ [86, 1, 95, 96, 97, 98, 99, 100, 101, 102, 103, 104, 105, 106, 107, 108, 109, 110, 111, 112, 113, 114, 115, 116, 117, 118, 119, 120, 121, 122, 123, 124, 125, 126, 127, 128] (by decide +kernel) (by decide +kernel)
set_option maxRecDepth 20000 in
theorem gX6_dial_X6_longestRow : GoodIn wsX6_dial (wsV RX6 217 RX6 yX6_longestRow wsX6_longestRow) := goodIn_app (goodIn_of _ (by decide +kernel)) ggX6_dial_X6_longestRow
set_option maxRecDepth 20000 in
theorem ggX6_dial_X6_silent : GoodIn wsX6_dial wsX6_silent := goodIn_r _ [90, 1, 95, 96, 97, 98, 99, 100, 101, 102, 103, 104, 105, 106, 107, 108, 109, 110, 111, 112, 113, 114, 115, 116, 117, 118, 119, 120, 121, 122, 123, 124, 125, 126, 127, 128] (by decide +kernel) (by decide +kernel)
set_option maxRecDepth 20000 in
theorem gX6_dial_X6_silent : GoodIn wsX6_dial (wsV RX6 220 RX6 yX6_silent wsX6_silent) := goodIn_app (goodIn_of _ (by decide +kernel)) ggX6_dial_X6_silent
set_option maxRecDepth 20000 in
theorem ggX6_dial_X6_mostHour : GoodIn wsX6_dial wsX6_mostHour := goodIn_r _ [94, 1, 95, 96, 97, 98, 99, 100, 101, 102, 103, 104, 105, 106, 107, 108, 109, 110, 111, 112, 113, 114, 115, 116, 117, 118, 119, 120, 121, 122, 123, 124, 125, 126, 127, 128] (by decide +kernel) (by decide +kernel)
set_option maxRecDepth 20000 in
theorem gX6_dial_X6_mostHour : GoodIn wsX6_dial (wsV RX6 223 RX6 yX6_mostHour wsX6_mostHour) := goodIn_app (goodIn_of _ (by decide +kernel)) ggX6_dial_X6_mostHour
