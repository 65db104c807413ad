theorem dX6_cell_13 : decode cX6_cell 13 = .ok (.getfield 37, 3) := by decide +kernel
theorem dX6_cell_16 : decode cX6_cell 16 = .ok (.iload_n 1, 1) := by decide +kernel
theorem dX6_cell_17 : decode cX6_cell 17 = .ok (.iaload, 1) := by decide +kernel
theorem dX6_cell_18 : decode cX6_cell 18 = .ok (.iconst (-1), 1) := by decide +kernel
theorem dX6_cell_19 : decode cX6_cell 19 = .ok (.if_icmp .ne 6, 3) := by decide +kernel
theorem dX6_cell_22 : decode cX6_cell 22 = .ok (.bipush (-11), 2) := by decide +kernel
theorem dX6_cell_24 : decode cX6_cell 24 = .ok (.ireturn, 1) := by decide +kernel
theorem dX6_cell_25 : decode cX6_cell 25 = .ok (.iload_n 2, 1) := by decide +kernel
theorem dX6_cell_26 : decode cX6_cell 26 = .ok (.iconst 0, 1) := by decide +kernel
theorem dX6_cell_27 : decode cX6_cell 27 = .ok (.aload_n 0, 1) := by decide +kernel
theorem dX6_cell_28 : decode cX6_cell 28 = .ok (.getfield 40, 3) := by decide +kernel
theorem dX6_cell_31 : decode cX6_cell 31 = .ok (.iload_n 1, 1) := by decide +kernel
theorem dX6_cell_32 : decode cX6_cell 32 = .ok (.iaload, 1) := by decide +kernel
theorem dX6_cell_33 : decode cX6_cell 33 = .ok (.iconst 1, 1) := by decide +kernel
theorem dX6_cell_34 : decode cX6_cell 34 = .ok (.isub, 1) := by decide +kernel
theorem dX6_cell_35 : decode cX6_cell 35 = .ok (.invokestatic 81, 3) := by decide +kernel
theorem dX6_cell_38 : decode cX6_cell 38 = .ok (.ifCond .ne 6, 3) := by decide +kernel
theorem dX6_cell_41 : decode cX6_cell 41 = .ok (.bipush (-12), 2) := by decide +kernel
theorem dX6_cell_43 : decode cX6_cell 43 = .ok (.ireturn, 1) := by decide +kernel
theorem dX6_cell_44 : decode cX6_cell 44 = .ok (.aload_n 0, 1) := by decide +kernel
theorem dX6_cell_45 : decode cX6_cell 45 = .ok (.getfield 43, 3) := by decide +kernel
theorem dX6_cell_48 : decode cX6_cell 48 = .ok (.bipush 40, 2) := by decide +kernel
theorem dX6_cell_50 : decode cX6_cell 50 = .ok (.iload_n 1, 1) := by decide +kernel
theorem dX6_cell_51 : decode cX6_cell 51 = .ok (.imul, 1) := by decide +kernel
theorem dX6_cell_52 : decode cX6_cell 52 = .ok (.iload_n 2, 1) := by decide +kernel
theorem dX6_cell_53 : decode cX6_cell 53 = .ok (.iadd, 1) := by decide +kernel
theorem dX6_cell_54 : decode cX6_cell 54 = .ok (.aload_n 0, 1) := by decide +kernel
theorem dX6_cell_55 : decode cX6_cell 55 = .ok (.getfield 37, 3) := by decide +kernel
theorem dX6_cell_58 : decode cX6_cell 58 = .ok (.iload_n 1, 1) := by decide +kernel
theorem dX6_cell_59 : decode cX6_cell 59 = .ok (.iaload, 1) := by decide +kernel
theorem dX6_cell_60 : decode cX6_cell 60 = .ok (.ifCond .ne 8, 3) := by decide +kernel
theorem dX6_cell_63 : decode cX6_cell 63 = .ok (.iload_n 3, 1) := by decide +kernel
theorem dX6_cell_64 : decode cX6_cell 64 = .ok (.i2b, 1) := by decide +kernel
theorem dX6_cell_65 : decode cX6_cell 65 = .ok (.goto 19, 3) := by decide +kernel
theorem dX6_cell_68 : decode cX6_cell 68 = .ok (.aload_n 0, 1) := by decide +kernel
theorem dX6_cell_69 : decode cX6_cell 69 = .ok (.getfield 37, 3) := by decide +kernel
theorem dX6_cell_72 : decode cX6_cell 72 = .ok (.iload_n 1, 1) := by decide +kernel
theorem dX6_cell_73 : decode cX6_cell 73 = .ok (.iaload, 1) := by decide +kernel
theorem dX6_cell_74 : decode cX6_cell 74 = .ok (.iconst 1, 1) := by decide +kernel
theorem dX6_cell_75 : decode cX6_cell 75 = .ok (.if_icmp .ne 8, 3) := by decide +kernel
theorem dX6_cell_78 : decode cX6_cell 78 = .ok (.iload_n 3, 1) := by decide +kernel
theorem dX6_cell_79 : decode cX6_cell 79 = .ok (.i2s, 1) := by decide +kernel
theorem dX6_cell_80 : decode cX6_cell 80 = .ok (.goto 4, 3) := by decide +kernel
theorem dX6_cell_83 : decode cX6_cell 83 = .ok (.iload_n 3, 1) := by decide +kernel
theorem dX6_cell_84 : decode cX6_cell 84 = .ok (.iastore, 1) := by decide +kernel
theorem dX6_cell_85 : decode cX6_cell 85 = .ok (.iconst 1, 1) := by decide +kernel
theorem dX6_cell_86 : decode cX6_cell 86 = .ok (.ireturn, 1) := by decide +kernel
set_option maxRecDepth 20000 in
theorem ggX6_copy_X6_in : GoodIn wsX6_copy wsX6_in := goodIn_r _ [7] (by decide +kernel) (by decide +kernel)
set_option maxRecDepth 20000 in
theorem gX6_copy_X6_in : GoodIn wsX6_copy (va_wsS RX6 81 yX6_in wsX6_in) := goodIn_app (goodIn_of _ (by decide +kernel)) ggX6_copy_X6_in
theorem dX6_copy_0 : decode cX6_copy 0 = .ok (.iload_n 1, 1) := by decide +kernel
theorem dX6_copy_1 : decode cX6_copy 1 = .ok (.iconst 0, 1) := by decide +kernel
theorem dX6_copy_2 : decode cX6_copy 2 = .ok (.iconst 3, 1) := by decide +kernel
theorem dX6_copy_3 : decode cX6_copy 3 = .ok (.invokestatic 81, 3) := by decide +kernel
theorem dX6_copy_6 : decode cX6_copy 6 = .ok (.ifCond .eq 12, 3) := by decide +kernel
theorem dX6_copy_9 : decode cX6_copy 9 = .ok (.iload_n 3, 1) := by decide +kernel
theorem dX6_copy_10 : decode cX6_copy 10 = .ok (.iconst 0, 1) := by decide +kernel
theorem dX6_copy_11 : decode cX6_copy 11 = .ok (.iconst 3, 1) := by decide +kernel
theorem dX6_copy_12 : decode cX6_copy 12 = .ok (.invokestatic 81, 3) := by decide +kernel
theorem dX6_copy_15 : decode cX6_copy 15 = .ok (.ifCond .ne 6, 3) := by decide +kernel
theorem dX6_copy_18 : decode cX6_copy 18 = .ok (.bipush (-2), 2) := by decide +kernel
theorem dX6_copy_20 : decode cX6_copy 20 = .ok (.ireturn, 1) := by decide +kernel
theorem dX6_copy_21 : decode cX6_copy 21 = .ok (.aload_n 0, 1) := by decide +kernel
theorem dX6_copy_22 : decode cX6_copy 22 = .ok (.getfield 37, 3) := by decide +kernel
theorem dX6_copy_25 : decode cX6_copy 25 = .ok (.iload_n 1, 1) := by decide +kernel
theorem dX6_copy_26 : decode cX6_copy 26 = .ok (.iaload, 1) := by decide +kernel
theorem dX6_copy_27 : decode cX6_copy 27 = .ok (.iconst (-1), 1) := by decide +kernel
theorem dX6_copy_28 : decode cX6_copy 28 = .ok (.if_icmp .eq 13, 3) := by decide +kernel
theorem dX6_copy_31 : decode cX6_copy 31 = .ok (.aload_n 0, 1) := by decide +kernel
theorem dX6_copy_32 : decode cX6_copy 32 = .ok (.getfield 37, 3) := by decide +kernel
theorem dX6_copy_35 : decode cX6_copy 35 = .ok (.iload_n 3, 1) := by decide +kernel
theorem dX6_copy_36 : decode cX6_copy 36 = .ok (.iaload, 1) := by decide +kernel
theorem dX6_copy_37 : decode cX6_copy 37 = .ok (.iconst (-1), 1) := by decide +kernel
theorem dX6_copy_38 : decode cX6_copy 38 = .ok (.if_icmp .ne 6, 3) := by decide +kernel
theorem dX6_copy_41 : decode cX6_copy 41 = .ok (.bipush (-11), 2) := by decide +kernel
theorem dX6_copy_43 : decode cX6_copy 43 = .ok (.ireturn, 1) := by decide +kernel
theorem dX6_copy_44 : decode cX6_copy 44 = .ok (.aload_n 0, 1) := by decide +kernel
theorem dX6_copy_45 : decode cX6_copy 45 = .ok (.getfield 37, 3) := by decide +kernel
theorem dX6_copy_48 : decode cX6_copy 48 = .ok (.iload_n 1, 1) := by decide +kernel
theorem dX6_copy_49 : decode cX6_copy 49 = .ok (.iaload, 1) := by decide +kernel
theorem dX6_copy_50 : decode cX6_copy 50 = .ok (.aload_n 0, 1) := by decide +kernel
theorem dX6_copy_51 : decode cX6_copy 51 = .ok (.getfield 37, 3) := by decide +kernel
theorem dX6_copy_54 : decode cX6_copy 54 = .ok (.iload_n 3, 1) := by decide +kernel
theorem dX6_copy_55 : decode cX6_copy 55 = .ok (.iaload, 1) := by decide +kernel
theorem dX6_copy_56 : decode cX6_copy 56 = .ok (.if_icmp .eq 6, 3) := by decide +kernel
theorem dX6_copy_59 : decode cX6_copy 59 = .ok (.bipush (-13), 2) := by decide +kernel
theorem dX6_copy_61 : decode cX6_copy 61 = .ok (.ireturn, 1) := by decide +kernel
theorem dX6_copy_62 : decode cX6_copy 62 = .ok (.iload 5, 2) := by decide +kernel
theorem dX6_copy_64 : decode cX6_copy 64 = .ok (.ifCond .lt 60, 3) := by decide +kernel
theorem dX6_copy_67 : decode cX6_copy 67 = .ok (.iload_n 2, 1) := by decide +kernel
theorem dX6_copy_68 : decode cX6_copy 68 = .ok (.ifCond .lt 56, 3) := by decide +kernel
theorem dX6_copy_71 : decode cX6_copy 71 = .ok (.iload 4, 2) := by decide +kernel
theorem dX6_copy_73 : decode cX6_copy 73 = .ok (.ifCond .lt 51, 3) := by decide +kernel
theorem dX6_copy_76 : decode cX6_copy 76 = .ok (.iload_n 2, 1) := by decide +kernel
theorem dX6_copy_77 : decode cX6_copy 77 = .ok (.aload_n 0, 1) := by decide +kernel
theorem dX6_copy_78 : decode cX6_copy 78 = .ok (.getfield 40, 3) := by decide +kernel
theorem dX6_copy_81 : decode cX6_copy 81 = .ok (.iload_n 1, 1) := by decide +kernel
theorem dX6_copy_82 : decode cX6_copy 82 = .ok (.iaload, 1) := by decide +kernel
theorem dX6_copy_83 : decode cX6_copy 83 = .ok (.if_icmp .gt 41, 3) := by decide +kernel
theorem dX6_copy_86 : decode cX6_copy 86 = .ok (.iload 4, 2) := by decide +kernel
theorem dX6_copy_88 : decode cX6_copy 88 = .ok (.aload_n 0, 1) := by decide +kernel
theorem dX6_copy_89 : decode cX6_copy 89 = .ok (.getfield 40, 3) := by decide +kernel
theorem dX6_copy_92 : decode cX6_copy 92 = .ok (.iload_n 3, 1) := by decide +kernel
theorem dX6_copy_93 : decode cX6_copy 93 = .ok (.iaload, 1) := by decide +kernel
theorem dX6_copy_94 : decode cX6_copy 94 = .ok (.if_icmp .gt 30, 3) := by decide +kernel
theorem dX6_copy_97 : decode cX6_copy 97 = .ok (.iload 5, 2) := by decide +kernel
theorem dX6_copy_99 : decode cX6_copy 99 = .ok (.aload_n 0, 1) := by decide +kernel
theorem dX6_copy_100 : decode cX6_copy 100 = .ok (.getfield 40, 3) := by decide +kernel
theorem dX6_copy_103 : decode cX6_copy 103 = .ok (.iload_n 1, 1) := by decide +kernel
theorem dX6_copy_104 : decode cX6_copy 104 = .ok (.iaload, 1) := by decide +kernel
theorem dX6_copy_105 : decode cX6_copy 105 = .ok (.iload_n 2, 1) := by decide +kernel
theorem dX6_copy_106 : decode cX6_copy 106 = .ok (.isub, 1) := by decide +kernel
theorem dX6_copy_107 : decode cX6_copy 107 = .ok (.if_icmp .gt 17, 3) := by decide +kernel
theorem dX6_copy_110 : decode cX6_copy 110 = .ok (.iload 5, 2) := by decide +kernel
theorem dX6_copy_112 : decode cX6_copy 112 = .ok (.aload_n 0, 1) := by decide +kernel
theorem dX6_copy_113 : decode cX6_copy 113 = .ok (.getfield 40, 3) := by decide +kernel
theorem dX6_copy_116 : decode cX6_copy 116 = .ok (.iload_n 3, 1) := by decide +kernel
theorem dX6_copy_117 : decode cX6_copy 117 = .ok (.iaload, 1) := by decide +kernel
theorem dX6_copy_118 : decode cX6_copy 118 = .ok (.iload 4, 2) := by decide +kernel
theorem dX6_copy_120 : decode cX6_copy 120 = .ok (.isub, 1) := by decide +kernel
theorem dX6_copy_121 : decode cX6_copy 121 = .ok (.if_icmp .le 6, 3) := by decide +kernel
theorem dX6_copy_124 : decode cX6_copy 124 = .ok (.bipush (-12), 2) := by decide +kernel
theorem dX6_copy_126 : decode cX6_copy 126 = .ok (.ireturn, 1) := by decide +kernel
theorem dX6_copy_127 : decode cX6_copy 127 = .ok (.bipush 40, 2) := by decide +kernel
theorem dX6_copy_129 : decode cX6_copy 129 = .ok (.iload_n 1, 1) := by decide +kernel
theorem dX6_copy_130 : decode cX6_copy 130 = .ok (.imul, 1) := by decide +kernel
theorem dX6_copy_131 : decode cX6_copy 131 = .ok (.iload_n 2, 1) := by decide +kernel
theorem dX6_copy_132 : decode cX6_copy 132 = .ok (.iadd, 1) := by decide +kernel
theorem dX6_copy_133 : decode cX6_copy 133 = .ok (.istore 6, 2) := by decide +kernel
theorem dX6_copy_135 : decode cX6_copy 135 = .ok (.bipush 40, 2) := by decide +kernel
theorem dX6_copy_137 : decode cX6_copy 137 = .ok (.iload_n 3, 1) := by decide +kernel
theorem dX6_copy_138 : decode cX6_copy 138 = .ok (.imul, 1) := by decide +kernel
theorem dX6_copy_139 : decode cX6_copy 139 = .ok (.iload 4, 2) := by decide +kernel
theorem dX6_copy_141 : decode cX6_copy 141 = .ok (.iadd, 1) := by decide +kernel
theorem dX6_copy_142 : decode cX6_copy 142 = .ok (.istore 7, 2) := by decide +kernel
theorem dX6_copy_144 : decode cX6_copy 144 = .ok (.iconst 0, 1) := by decide +kernel
theorem dX6_copy_145 : decode cX6_copy 145 = .ok (.istore 8, 2) := by decide +kernel
theorem dX6_copy_147 : decode cX6_copy 147 = .ok (.iload 8, 2) := by decide +kernel
theorem dX6_copy_149 : decode cX6_copy 149 = .ok (.iload 5, 2) := by decide +kernel
theorem dX6_copy_151 : decode cX6_copy 151 = .ok (.if_icmp .ge 50, 3) := by decide +kernel
theorem dX6_copy_154 : decode cX6_copy 154 = .ok (.iload 6, 2) := by decide +kernel
theorem dX6_copy_156 : decode cX6_copy 156 = .ok (.iload 7, 2) := by decide +kernel
theorem dX6_copy_158 : decode cX6_copy 158 = .ok (.if_icmp .ge 13, 3) := by decide +kernel
theorem dX6_copy_161 : decode cX6_copy 161 = .ok (.iload 5, 2) := by decide +kernel
theorem dX6_copy_163 : decode cX6_copy 163 = .ok (.iconst 1, 1) := by decide +kernel
theorem dX6_copy_164 : decode cX6_copy 164 = .ok (.isub, 1) := by decide +kernel
theorem dX6_copy_165 : decode cX6_copy 165 = .ok (.iload 8, 2) := by decide +kernel
theorem dX6_copy_167 : decode cX6_copy 167 = .ok (.isub, 1) := by decide +kernel
theorem dX6_copy_168 : decode cX6_copy 168 = .ok (.goto 5, 3) := by decide +kernel
theorem dX6_copy_171 : decode cX6_copy 171 = .ok (.iload 8, 2) := by decide +kernel
theorem dX6_copy_173 : decode cX6_copy 173 = .ok (.istore 9, 2) := by decide +kernel
theorem dX6_copy_175 : decode cX6_copy 175 = .ok (.aload_n 0, 1) := by decide +kernel
theorem dX6_copy_176 : decode cX6_copy 176 = .ok (.getfield 43, 3) := by decide +kernel
theorem dX6_copy_179 : decode cX6_copy 179 = .ok (.iload 7, 2) := by decide +kernel
theorem dX6_copy_181 : decode cX6_copy 181 = .ok (.iload 9, 2) := by decide +kernel
theorem dX6_copy_183 : decode cX6_copy 183 = .ok (.iadd, 1) := by decide +kernel
theorem dX6_copy_184 : decode cX6_copy 184 = .ok (.aload_n 0, 1) := by decide +kernel
theorem dX6_copy_185 : decode cX6_copy 185 = .ok (.getfield 43, 3) := by decide +kernel
theorem dX6_copy_188 : decode cX6_copy 188 = .ok (.iload 6, 2) := by decide +kernel
theorem dX6_copy_190 : decode cX6_copy 190 = .ok (.iload 9, 2) := by decide +kernel
theorem dX6_copy_192 : decode cX6_copy 192 = .ok (.iadd, 1) := by decide +kernel
theorem dX6_copy_193 : decode cX6_copy 193 = .ok (.iaload, 1) := by decide +kernel
theorem dX6_copy_194 : decode cX6_copy 194 = .ok (.iastore, 1) := by decide +kernel
theorem dX6_copy_195 : decode cX6_copy 195 = .ok (.iinc 8 1, 3) := by decide +kernel
theorem dX6_copy_198 : decode cX6_copy 198 = .ok (.goto (-51), 3) := by decide +kernel
theorem dX6_copy_201 : decode cX6_copy 201 = .ok (.iload 5, 2) := by decide +kernel
theorem dX6_copy_203 : decode cX6_copy 203 = .ok (.ireturn, 1) := by decide +kernel
set_option maxRecDepth 20000 in
theorem ggX6_townBy_X6_in : GoodIn wsX6_townBy wsX6_in := goodIn_r _ [7] (by decide +kernel) (by decide +kernel)
set_option maxRecDepth 20000 in
theorem gX6_townBy_X6_in : GoodIn wsX6_townBy (va_wsS RX6 81 yX6_in wsX6_in) := goodIn_app (goodIn_of _ (by decide +kernel)) ggX6_townBy_X6_in
set_option maxRecDepth 20000 in
theorem ggX6_townBy_X6_person : GoodIn wsX6_townBy wsX6_person := goodIn_r _ [11, 12, 13, 14, 15, 16, 4, 5, 6, 7, 17, 18, 19, 20, 21, 22, 23, 24, 25, 26, 27, 28, 29, 30, 31, 32, 33, 34, 35, 36, 37, 38, 39, 40, 41, 42, 43, 44, 45, 46, 47, 48, 49, 50] (by decide +kernel) (by decide +kernel)
set_option maxRecDepth 20000 in
theorem gX6_townBy_X6_person : GoodIn wsX6_townBy (wsV RX6 258 RX6 yX6_person wsX6_person) := goodIn_app (goodIn_of _ (by decide +kernel)) ggX6_townBy_X6_person
theorem dX6_townBy_0 : decode cX6_townBy 0 = .ok (.iload_n 1, 1) := by decide +kernel
theorem dX6_townBy_1 : decode cX6_townBy 1 = .ok (.iconst 0, 1) := by decide +kernel
theorem dX6_townBy_2 : decode cX6_townBy 2 = .ok (.iconst 3, 1) := by decide +kernel
theorem dX6_townBy_3 : decode cX6_townBy 3 = .ok (.invokestatic 81, 3) := by decide +kernel
theorem dX6_townBy_6 : decode cX6_townBy 6 = .ok (.ifCond .eq 23, 3) := by decide +kernel
theorem dX6_townBy_9 : decode cX6_townBy 9 = .ok (.iload_n 2, 1) := by decide +kernel
theorem dX6_townBy_10 : decode cX6_townBy 10 = .ok (.iconst 0, 1) := by decide +kernel
theorem dX6_townBy_11 : decode cX6_townBy 11 = .ok (.iconst 2, 1) := by decide +kernel
theorem dX6_townBy_12 : decode cX6_townBy 12 = .ok (.invokestatic 81, 3) := by decide +kernel
theorem dX6_townBy_15 : decode cX6_townBy 15 = .ok (.ifCond .eq 14, 3) := by decide +kernel
theorem dX6_townBy_18 : decode cX6_townBy 18 = .ok (.iload 4, 2) := by decide +kernel
theorem dX6_townBy_20 : decode cX6_townBy 20 = .ok (.iconst 0, 1) := by decide +kernel
theorem dX6_townBy_21 : decode cX6_townBy 21 = .ok (.bipush 6, 2) := by decide +kernel
theorem dX6_townBy_23 : decode cX6_townBy 23 = .ok (.invokestatic 81, 3) := by decide +kernel
theorem dX6_townBy_26 : decode cX6_townBy 26 = .ok (.ifCond .ne 6, 3) := by decide +kernel
theorem dX6_townBy_29 : decode cX6_townBy 29 = .ok (.bipush (-2), 2) := by decide +kernel
theorem dX6_townBy_31 : decode cX6_townBy 31 = .ok (.ireturn, 1) := by decide +kernel
theorem dX6_townBy_32 : decode cX6_townBy 32 = .ok (.aload_n 0, 1) := by decide +kernel
theorem dX6_townBy_33 : decode cX6_townBy 33 = .ok (.getfield 37, 3) := by decide +kernel
theorem dX6_townBy_36 : decode cX6_townBy 36 = .ok (.iload_n 1, 1) := by decide +kernel
theorem dX6_townBy_37 : decode cX6_townBy 37 = .ok (.iaload, 1) := by decide +kernel
theorem dX6_townBy_38 : decode cX6_townBy 38 = .ok (.iconst (-1), 1) := by decide +kernel
theorem dX6_townBy_39 : decode cX6_townBy 39 = .ok (.if_icmp .ne 6, 3) := by decide +kernel
theorem dX6_townBy_42 : decode cX6_townBy 42 = .ok (.bipush (-11), 2) := by decide +kernel
theorem dX6_townBy_44 : decode cX6_townBy 44 = .ok (.ireturn, 1) := by decide +kernel
theorem dX6_townBy_45 : decode cX6_townBy 45 = .ok (.aload_n 0, 1) := by decide +kernel
theorem dX6_townBy_46 : decode cX6_townBy 46 = .ok (.getfield 37, 3) := by decide +kernel
theorem dX6_townBy_49 : decode cX6_townBy 49 = .ok (.iload_n 1, 1) := by decide +kernel
theorem dX6_townBy_50 : decode cX6_townBy 50 = .ok (.iaload, 1) := by decide +kernel
theorem dX6_townBy_51 : decode cX6_townBy 51 = .ok (.iload_n 2, 1) := by decide +kernel
theorem dX6_townBy_52 : decode cX6_townBy 52 = .ok (.if_icmp .eq 6, 3) := by decide +kernel
theorem dX6_townBy_55 : decode cX6_townBy 55 = .ok (.bipush (-13), 2) := by decide +kernel
theorem dX6_townBy_57 : decode cX6_townBy 57 = .ok (.ireturn, 1) := by decide +kernel
theorem dX6_townBy_58 : decode cX6_townBy 58 = .ok (.iconst 0, 1) := by decide +kernel
theorem dX6_townBy_59 : decode cX6_townBy 59 = .ok (.istore 5, 2) := by decide +kernel
theorem dX6_townBy_61 : decode cX6_townBy 61 = .ok (.iconst 0, 1) := by decide +kernel
theorem dX6_townBy_62 : decode cX6_townBy 62 = .ok (.istore 6, 2) := by decide +kernel
theorem dX6_townBy_64 : decode cX6_townBy 64 = .ok (.iload 6, 2) := by decide +kernel
theorem dX6_townBy_66 : decode cX6_townBy 66 = .ok (.iload 4, 2) := by decide +kernel
theorem dX6_townBy_68 : decode cX6_townBy 68 = .ok (.if_icmp .ge 94, 3) := by decide +kernel
theorem dX6_townBy_71 : decode cX6_townBy 71 = .ok (.iload_n 3, 1) := by decide +kernel
theorem dX6_townBy_72 : decode cX6_townBy 72 = .ok (.iconst 3, 1) := by decide +kernel
theorem dX6_townBy_73 : decode cX6_townBy 73 = .ok (.iload 6, 2) := by decide +kernel
theorem dX6_townBy_75 : decode cX6_townBy 75 = .ok (.imul, 1) := by decide +kernel
theorem dX6_townBy_76 : decode cX6_townBy 76 = .ok (.iadd, 1) := by decide +kernel
theorem dX6_townBy_77 : decode cX6_townBy 77 = .ok (.istore 7, 2) := by decide +kernel
theorem dX6_townBy_79 : decode cX6_townBy 79 = .ok (.iload_n 3, 1) := by decide +kernel
theorem dX6_townBy_80 : decode cX6_townBy 80 = .ok (.ifCond .lt 22, 3) := by decide +kernel
theorem dX6_townBy_83 : decode cX6_townBy 83 = .ok (.iload 7, 2) := by decide +kernel
theorem dX6_townBy_85 : decode cX6_townBy 85 = .ok (.iload_n 3, 1) := by decide +kernel
theorem dX6_townBy_86 : decode cX6_townBy 86 = .ok (.if_icmp .lt 16, 3) := by decide +kernel
theorem dX6_townBy_89 : decode cX6_townBy 89 = .ok (.iload 7, 2) := by decide +kernel
theorem dX6_townBy_91 : decode cX6_townBy 91 = .ok (.aload_n 0, 1) := by decide +kernel
theorem dX6_townBy_92 : decode cX6_townBy 92 = .ok (.getfield 40, 3) := by decide +kernel
theorem dX6_townBy_95 : decode cX6_townBy 95 = .ok (.iload_n 1, 1) := by decide +kernel
theorem dX6_townBy_96 : decode cX6_townBy 96 = .ok (.iaload, 1) := by decide +kernel
theorem dX6_townBy_97 : decode cX6_townBy 97 = .ok (.iconst 3, 1) := by decide +kernel
theorem dX6_townBy_98 : decode cX6_townBy 98 = .ok (.isub, 1) := by decide +kernel
theorem dX6_townBy_99 : decode cX6_townBy 99 = .ok (.if_icmp .le 6, 3) := by decide +kernel
theorem dX6_townBy_102 : decode cX6_townBy 102 = .ok (.bipush (-12), 2) := by decide +kernel
theorem dX6_townBy_104 : decode cX6_townBy 104 = .ok (.ireturn, 1) := by decide +kernel
theorem dX6_townBy_105 : decode cX6_townBy 105 = .ok (.bipush 40, 2) := by decide +kernel
theorem dX6_townBy_107 : decode cX6_townBy 107 = .ok (.iload_n 1, 1) := by decide +kernel
theorem dX6_townBy_108 : decode cX6_townBy 108 = .ok (.imul, 1) := by decide +kernel
theorem dX6_townBy_109 : decode cX6_townBy 109 = .ok (.iload 7, 2) := by decide +kernel
theorem dX6_townBy_111 : decode cX6_townBy 111 = .ok (.iadd, 1) := by decide +kernel
theorem dX6_townBy_112 : decode cX6_townBy 112 = .ok (.istore 8, 2) := by decide +kernel
theorem dX6_townBy_114 : decode cX6_townBy 114 = .ok (.iload 5, 2) := by decide +kernel
theorem dX6_townBy_116 : decode cX6_townBy 116 = .ok (.aload_n 0, 1) := by decide +kernel
theorem dX6_townBy_117 : decode cX6_townBy 117 = .ok (.aload_n 0, 1) := by decide +kernel
theorem dX6_townBy_118 : decode cX6_townBy 118 = .ok (.getfield 43, 3) := by decide +kernel
theorem dX6_townBy_121 : decode cX6_townBy 121 = .ok (.iload 8, 2) := by decide +kernel
theorem dX6_townBy_123 : decode cX6_townBy 123 = .ok (.iaload, 1) := by decide +kernel
theorem dX6_townBy_124 : decode cX6_townBy 124 = .ok (.aload_n 0, 1) := by decide +kernel
theorem dX6_townBy_125 : decode cX6_townBy 125 = .ok (.getfield 43, 3) := by decide +kernel
theorem dX6_townBy_128 : decode cX6_townBy 128 = .ok (.iload 8, 2) := by decide +kernel
theorem dX6_townBy_130 : decode cX6_townBy 130 = .ok (.iconst 1, 1) := by decide +kernel
theorem dX6_townBy_131 : decode cX6_townBy 131 = .ok (.iadd, 1) := by decide +kernel
theorem dX6_townBy_132 : decode cX6_townBy 132 = .ok (.iaload, 1) := by decide +kernel
theorem dX6_townBy_133 : decode cX6_townBy 133 = .ok (.aload_n 0, 1) := by decide +kernel
theorem dX6_townBy_134 : decode cX6_townBy 134 = .ok (.getfield 43, 3) := by decide +kernel
theorem dX6_townBy_137 : decode cX6_townBy 137 = .ok (.iload 8, 2) := by decide +kernel
theorem dX6_townBy_139 : decode cX6_townBy 139 = .ok (.iconst 2, 1) := by decide +kernel
theorem dX6_townBy_140 : decode cX6_townBy 140 = .ok (.iadd, 1) := by decide +kernel
theorem dX6_townBy_141 : decode cX6_townBy 141 = .ok (.iaload, 1) := by decide +kernel
theorem dX6_townBy_142 : decode cX6_townBy 142 = .ok (.invokevirtual 258, 3) := by decide +kernel
theorem dX6_townBy_145 : decode cX6_townBy 145 = .ok (.ifCond .lt 7, 3) := by decide +kernel
theorem dX6_townBy_148 : decode cX6_townBy 148 = .ok (.iconst 1, 1) := by decide +kernel
theorem dX6_townBy_149 : decode cX6_townBy 149 = .ok (.goto 4, 3) := by decide +kernel
theorem dX6_townBy_152 : decode cX6_townBy 152 = .ok (.iconst 0, 1) := by decide +kernel
theorem dX6_townBy_153 : decode cX6_townBy 153 = .ok (.iadd, 1) := by decide +kernel
theorem dX6_townBy_154 : decode cX6_townBy 154 = .ok (.istore 5, 2) := by decide +kernel
theorem dX6_townBy_156 : decode cX6_townBy 156 = .ok (.iinc 6 1, 3) := by decide +kernel
theorem dX6_townBy_159 : decode cX6_townBy 159 = .ok (.goto (-95), 3) := by decide +kernel
theorem dX6_townBy_162 : decode cX6_townBy 162 = .ok (.iload 5, 2) := by decide +kernel
theorem dX6_townBy_164 : decode cX6_townBy 164 = .ok (.ireturn, 1) := by decide +kernel
theorem dX6_isUnder_0 : decode cX6_isUnder 0 = .ok (.iload_n 1, 1) := by decide +kernel
theorem dX6_isUnder_1 : decode cX6_isUnder 1 = .ok (.ifCond .eq 28, 3) := by decide +kernel
theorem dX6_isUnder_4 : decode cX6_isUnder 4 = .ok (.iload_n 0, 1) := by decide +kernel
theorem dX6_isUnder_5 : decode cX6_isUnder 5 = .ok (.iload_n 1, 1) := by decide +kernel
theorem dX6_isUnder_6 : decode cX6_isUnder 6 = .ok (.if_icmp .eq 23, 3) := by decide +kernel
theorem dX6_isUnder_9 : decode cX6_isUnder 9 = .ok (.iload_n 1, 1) := by decide +kernel
theorem dX6_isUnder_10 : decode cX6_isUnder 10 = .ok (.iconst 1, 1) := by decide +kernel
theorem dX6_isUnder_11 : decode cX6_isUnder 11 = .ok (.if_icmp .ne 8, 3) := by decide +kernel
theorem dX6_isUnder_14 : decode cX6_isUnder 14 = .ok (.iload_n 0, 1) := by decide +kernel
theorem dX6_isUnder_15 : decode cX6_isUnder 15 = .ok (.iconst 3, 1) := by decide +kernel
theorem dX6_isUnder_16 : decode cX6_isUnder 16 = .ok (.if_icmp .eq 13, 3) := by decide +kernel
theorem dX6_isUnder_19 : decode cX6_isUnder 19 = .ok (.iload_n 1, 1) := by decide +kernel
theorem dX6_isUnder_20 : decode cX6_isUnder 20 = .ok (.iconst 2, 1) := by decide +kernel
theorem dX6_isUnder_21 : decode cX6_isUnder 21 = .ok (.if_icmp .ne 12, 3) := by decide +kernel
theorem dX6_isUnder_24 : decode cX6_isUnder 24 = .ok (.iload_n 0, 1) := by decide +kernel
theorem dX6_isUnder_25 : decode cX6_isUnder 25 = .ok (.iconst 4, 1) := by decide +kernel
theorem dX6_isUnder_26 : decode cX6_isUnder 26 = .ok (.if_icmp .ne 7, 3) := by decide +kernel
theorem dX6_isUnder_29 : decode cX6_isUnder 29 = .ok (.iconst 1, 1) := by decide +kernel
theorem dX6_isUnder_30 : decode cX6_isUnder 30 = .ok (.goto 4, 3) := by decide +kernel
theorem dX6_isUnder_33 : decode cX6_isUnder 33 = .ok (.iconst 0, 1) := by decide +kernel
theorem dX6_isUnder_34 : decode cX6_isUnder 34 = .ok (.ireturn, 1) := by decide +kernel
set_option maxRecDepth 20000 in
theorem ggX6_taken_X6_in : GoodIn wsX6_taken wsX6_in := goodIn_r _ [7] (by decide +kernel) (by decide +kernel)
set_option maxRecDepth 20000 in
theorem gX6_taken_X6_in : GoodIn wsX6_taken (va_wsS RX6 81 yX6_in wsX6_in) := goodIn_app (goodIn_of _ (by decide +kernel)) ggX6_taken_X6_in
set_option maxRecDepth 20000 in
theorem ggX6_taken_X6_isUnder : GoodIn wsX6_taken wsX6_isUnder := goodIn_r _ [10] (by decide +kernel) (by decide +kernel)
set_option maxRecDepth 20000 in
theorem gX6_taken_X6_isUnder : GoodIn wsX6_taken (va_wsS RX6 261 yX6_isUnder wsX6_isUnder) := goodIn_app (goodIn_of _ (by decide +kernel)) ggX6_taken_X6_isUnder
theorem dX6_taken_0 : decode cX6_taken 0 = .ok (.iload_n 2, 1) := by decide +kernel
theorem dX6_taken_1 : decode cX6_taken 1 = .ok (.iconst 0, 1) := by decide +kernel
theorem dX6_taken_2 : decode cX6_taken 2 = .ok (.bipush 6, 2) := by decide +kernel
theorem dX6_taken_4 : decode cX6_taken 4 = .ok (.invokestatic 81, 3) := by decide +kernel
theorem dX6_taken_7 : decode cX6_taken 7 = .ok (.ifCond .ne 6, 3) := by decide +kernel
theorem dX6_taken_10 : decode cX6_taken 10 = .ok (.bipush (-2), 2) := by decide +kernel
theorem dX6_taken_12 : decode cX6_taken 12 = .ok (.ireturn, 1) := by decide +kernel
theorem dX6_taken_13 : decode cX6_taken 13 = .ok (.iload_n 1, 1) := by decide +kernel
theorem dX6_taken_14 : decode cX6_taken 14 = .ok (.iconst 0, 1) := by decide +kernel
theorem dX6_taken_15 : decode cX6_taken 15 = .ok (.bipush 11, 2) := by decide +kernel
theorem dX6_taken_17 : decode cX6_taken 17 = .ok (.invokestatic 81, 3) := by decide +kernel
theorem dX6_taken_20 : decode cX6_taken 20 = .ok (.ifCond .ne 6, 3) := by decide +kernel
theorem dX6_taken_23 : decode cX6_taken 23 = .ok (.bipush (-12), 2) := by decide +kernel
theorem dX6_taken_25 : decode cX6_taken 25 = .ok (.ireturn, 1) := by decide +kernel
theorem dX6_taken_26 : decode cX6_taken 26 = .ok (.iload_n 1, 1) := by decide +kernel
theorem dX6_taken_27 : decode cX6_taken 27 = .ok (.bipush 6, 2) := by decide +kernel
theorem dX6_taken_29 : decode cX6_taken 29 = .ok (.irem, 1) := by decide +kernel
theorem dX6_taken_30 : decode cX6_taken 30 = .ok (.aload_n 0, 1) := by decide +kernel
theorem dX6_taken_31 : decode cX6_taken 31 = .ok (.getfield 78, 3) := by decide +kernel
theorem dX6_taken_34 : decode cX6_taken 34 = .ok (.if_icmp .lt 6, 3) := by decide +kernel
theorem dX6_taken_37 : decode cX6_taken 37 = .ok (.bipush (-11), 2) := by decide +kernel
theorem dX6_taken_39 : decode cX6_taken 39 = .ok (.ireturn, 1) := by decide +kernel
theorem dX6_taken_40 : decode cX6_taken 40 = .ok (.iload_n 1, 1) := by decide +kernel
theorem dX6_taken_41 : decode cX6_taken 41 = .ok (.bipush 6, 2) := by decide +kernel
theorem dX6_taken_43 : decode cX6_taken 43 = .ok (.if_icmp .lt 28, 3) := by decide +kernel
theorem dX6_taken_46 : decode cX6_taken 46 = .ok (.iload_n 2, 1) := by decide +kernel
theorem dX6_taken_47 : decode cX6_taken 47 = .ok (.bipush 6, 2) := by decide +kernel
theorem dX6_taken_49 : decode cX6_taken 49 = .ok (.if_icmp .ne 19, 3) := by decide +kernel
theorem dX6_taken_52 : decode cX6_taken 52 = .ok (.aload_n 0, 1) := by decide +kernel
theorem dX6_taken_53 : decode cX6_taken 53 = .ok (.getfield 16, 3) := by decide +kernel
theorem dX6_taken_56 : decode cX6_taken 56 = .ok (.iconst 4, 1) := by decide +kernel
theorem dX6_taken_57 : decode cX6_taken 57 = .ok (.iload_n 1, 1) := by decide +kernel
theorem dX6_taken_58 : decode cX6_taken 58 = .ok (.bipush 6, 2) := by decide +kernel
theorem dX6_taken_60 : decode cX6_taken 60 = .ok (.isub, 1) := by decide +kernel
theorem dX6_taken_61 : decode cX6_taken 61 = .ok (.imul, 1) := by decide +kernel
theorem dX6_taken_62 : decode cX6_taken 62 = .ok (.iconst 2, 1) := by decide +kernel
theorem dX6_taken_63 : decode cX6_taken 63 = .ok (.iadd, 1) := by decide +kernel
theorem dX6_taken_64 : decode cX6_taken 64 = .ok (.iaload, 1) := by decide +kernel
theorem dX6_taken_65 : decode cX6_taken 65 = .ok (.goto 5, 3) := by decide +kernel
theorem dX6_taken_68 : decode cX6_taken 68 = .ok (.bipush (-13), 2) := by decide +kernel
theorem dX6_taken_70 : decode cX6_taken 70 = .ok (.ireturn, 1) := by decide +kernel
theorem dX6_taken_71 : decode cX6_taken 71 = .ok (.iload_n 2, 1) := by decide +kernel
theorem dX6_taken_72 : decode cX6_taken 72 = .ok (.bipush 6, 2) := by decide +kernel
theorem dX6_taken_74 : decode cX6_taken 74 = .ok (.if_icmp .ge 20, 3) := by decide +kernel
theorem dX6_taken_77 : decode cX6_taken 77 = .ok (.aload_n 0, 1) := by decide +kernel
theorem dX6_taken_78 : decode cX6_taken 78 = .ok (.getfield 7, 3) := by decide +kernel
theorem dX6_taken_81 : decode cX6_taken 81 = .ok (.iload_n 1, 1) := by decide +kernel
theorem dX6_taken_82 : decode cX6_taken 82 = .ok (.iaload, 1) := by decide +kernel
theorem dX6_taken_83 : decode cX6_taken 83 = .ok (.iload_n 2, 1) := by decide +kernel
theorem dX6_taken_84 : decode cX6_taken 84 = .ok (.invokestatic 261, 3) := by decide +kernel
theorem dX6_taken_87 : decode cX6_taken 87 = .ok (.ifCond .eq 7, 3) := by decide +kernel
theorem dX6_taken_90 : decode cX6_taken 90 = .ok (.iload_n 1, 1) := by decide +kernel
theorem dX6_taken_91 : decode cX6_taken 91 = .ok (.goto 5, 3) := by decide +kernel
theorem dX6_taken_94 : decode cX6_taken 94 = .ok (.bipush (-13), 2) := by decide +kernel
theorem dX6_taken_96 : decode cX6_taken 96 = .ok (.ireturn, 1) := by decide +kernel
theorem dJ6_bitCount_0f7a4_0 : decode cJ6_bitCount_0f7a4 0 = .ok (.iload_n 0, 1) := by decide +kernel
theorem dJ6_bitCount_0f7a4_1 : decode cJ6_bitCount_0f7a4 1 = .ok (.iload_n 0, 1) := by decide +kernel
theorem dJ6_bitCount_0f7a4_2 : decode cJ6_bitCount_0f7a4 2 = .ok (.iconst 1, 1) := by decide +kernel
theorem dJ6_bitCount_0f7a4_3 : decode cJ6_bitCount_0f7a4 3 = .ok (.iushr, 1) := by decide +kernel
theorem dJ6_bitCount_0f7a4_4 : decode cJ6_bitCount_0f7a4 4 = .ok (.ldc_w 265, 3) := by decide +kernel
theorem dJ6_bitCount_0f7a4_7 : decode cJ6_bitCount_0f7a4 7 = .ok (.iand, 1) := by decide +kernel
theorem dJ6_bitCount_0f7a4_8 : decode cJ6_bitCount_0f7a4 8 = .ok (.isub, 1) := by decide +kernel
theorem dJ6_bitCount_0f7a4_9 : decode cJ6_bitCount_0f7a4 9 = .ok (.istore_n 0, 1) := by decide +kernel
theorem dJ6_bitCount_0f7a4_10 : decode cJ6_bitCount_0f7a4 10 = .ok (.iload_n 0, 1) := by decide +kernel
theorem dJ6_bitCount_0f7a4_11 : decode cJ6_bitCount_0f7a4 11 = .ok (.ldc_w 266, 3) := by decide +kernel
theorem dJ6_bitCount_0f7a4_14 : decode cJ6_bitCount_0f7a4 14 = .ok (.iand, 1) := by decide +kernel
theorem dJ6_bitCount_0f7a4_15 : decode cJ6_bitCount_0f7a4 15 = .ok (.iload_n 0, 1) := by decide +kernel
theorem dJ6_bitCount_0f7a4_16 : decode cJ6_bitCount_0f7a4 16 = .ok (.iconst 2, 1) := by decide +kernel
theorem dJ6_bitCount_0f7a4_17 : decode cJ6_bitCount_0f7a4 17 = .ok (.iushr, 1) := by decide +kernel
theorem dJ6_bitCount_0f7a4_18 : decode cJ6_bitCount_0f7a4 18 = .ok (.ldc_w 266, 3) := by decide +kernel
theorem dJ6_bitCount_0f7a4_21 : decode cJ6_bitCount_0f7a4 21 = .ok (.iand, 1) := by decide +kernel
theorem dJ6_bitCount_0f7a4_22 : decode cJ6_bitCount_0f7a4 22 = .ok (.iadd, 1) := by decide +kernel
theorem dJ6_bitCount_0f7a4_23 : decode cJ6_bitCount_0f7a4 23 = .ok (.istore_n 0, 1) := by decide +kernel
theorem dJ6_bitCount_0f7a4_24 : decode cJ6_bitCount_0f7a4 24 = .ok (.iload_n 0, 1) := by decide +kernel
theorem dJ6_bitCount_0f7a4_25 : decode cJ6_bitCount_0f7a4 25 = .ok (.iload_n 0, 1) := by decide +kernel
theorem dJ6_bitCount_0f7a4_26 : decode cJ6_bitCount_0f7a4 26 = .ok (.iconst 4, 1) := by decide +kernel
theorem dJ6_bitCount_0f7a4_27 : decode cJ6_bitCount_0f7a4 27 = .ok (.iushr, 1) := by decide +kernel
theorem dJ6_bitCount_0f7a4_28 : decode cJ6_bitCount_0f7a4 28 = .ok (.iadd, 1) := by decide +kernel
theorem dJ6_bitCount_0f7a4_29 : decode cJ6_bitCount_0f7a4 29 = .ok (.ldc_w 267, 3) := by decide +kernel
theorem dJ6_bitCount_0f7a4_32 : decode cJ6_bitCount_0f7a4 32 = .ok (.iand, 1) := by decide +kernel
theorem dJ6_bitCount_0f7a4_33 : decode cJ6_bitCount_0f7a4 33 = .ok (.istore_n 0, 1) := by decide +kernel
theorem dJ6_bitCount_0f7a4_34 : decode cJ6_bitCount_0f7a4 34 = .ok (.iload_n 0, 1) := by decide +kernel
theorem dJ6_bitCount_0f7a4_35 : decode cJ6_bitCount_0f7a4 35 = .ok (.iload_n 0, 1) := by decide +kernel
theorem dJ6_bitCount_0f7a4_36 : decode cJ6_bitCount_0f7a4 36 = .ok (.bipush 8, 2) := by decide +kernel
theorem dJ6_bitCount_0f7a4_38 : decode cJ6_bitCount_0f7a4 38 = .ok (.iushr, 1) := by decide +kernel
theorem dJ6_bitCount_0f7a4_39 : decode cJ6_bitCount_0f7a4 39 = .ok (.iadd, 1) := by decide +kernel
theorem dJ6_bitCount_0f7a4_40 : decode cJ6_bitCount_0f7a4 40 = .ok (.istore_n 0, 1) := by decide +kernel
theorem dJ6_bitCount_0f7a4_41 : decode cJ6_bitCount_0f7a4 41 = .ok (.iload_n 0, 1) := by decide +kernel
theorem dJ6_bitCount_0f7a4_42 : decode cJ6_bitCount_0f7a4 42 = .ok (.iload_n 0, 1) := by decide +kernel
theorem dJ6_bitCount_0f7a4_43 : decode cJ6_bitCount_0f7a4 43 = .ok (.bipush 16, 2) := by decide +kernel
theorem dJ6_bitCount_0f7a4_45 : decode cJ6_bitCount_0f7a4 45 = .ok (.iushr, 1) := by decide +kernel
theorem dJ6_bitCount_0f7a4_46 : decode cJ6_bitCount_0f7a4 46 = .ok (.iadd, 1) := by decide +kernel
theorem dJ6_bitCount_0f7a4_47 : decode cJ6_bitCount_0f7a4 47 = .ok (.istore_n 0, 1) := by decide +kernel
theorem dJ6_bitCount_0f7a4_48 : decode cJ6_bitCount_0f7a4 48 = .ok (.iload_n 0, 1) := by decide +kernel
theorem dJ6_bitCount_0f7a4_49 : decode cJ6_bitCount_0f7a4 49 = .ok (.bipush 63, 2) := by decide +kernel
theorem dJ6_bitCount_0f7a4_51 : decode cJ6_bitCount_0f7a4 51 = .ok (.iand, 1) := by decide +kernel
theorem dJ6_bitCount_0f7a4_52 : decode cJ6_bitCount_0f7a4 52 = .ok (.ireturn, 1) := by decide +kernel
theorem dJ9_max_7cf53_0 : decode cJ9_max_7cf53 0 = .ok (.iload_n 0, 1) := by decide +kernel
theorem dJ9_max_7cf53_1 : decode cJ9_max_7cf53 1 = .ok (.iload_n 1, 1) := by decide +kernel
theorem dJ9_max_7cf53_2 : decode cJ9_max_7cf53 2 = .ok (.if_icmp .lt 7, 3) := by decide +kernel
theorem dJ9_max_7cf53_5 : decode cJ9_max_7cf53 5 = .ok (.iload_n 0, 1) := by decide +kernel
theorem dJ9_max_7cf53_6 : decode cJ9_max_7cf53 6 = .ok (.goto 4, 3) := by decide +kernel
theorem dJ9_max_7cf53_9 : decode cJ9_max_7cf53 9 = .ok (.iload_n 1, 1) := by decide +kernel
theorem dJ9_max_7cf53_10 : decode cJ9_max_7cf53 10 = .ok (.ireturn, 1) := by decide +kernel
theorem dJ9_min_7cf53_0 : decode cJ9_min_7cf53 0 = .ok (.iload_n 0, 1) := by decide +kernel
theorem dJ9_min_7cf53_1 : decode cJ9_min_7cf53 1 = .ok (.iload_n 1, 1) := by decide +kernel
theorem dJ9_min_7cf53_2 : decode cJ9_min_7cf53 2 = .ok (.if_icmp .gt 7, 3) := by decide +kernel
theorem dJ9_min_7cf53_5 : decode cJ9_min_7cf53 5 = .ok (.iload_n 0, 1) := by decide +kernel
theorem dJ9_min_7cf53_6 : decode cJ9_min_7cf53 6 = .ok (.goto 4, 3) := by decide +kernel
theorem dJ9_min_7cf53_9 : decode cJ9_min_7cf53 9 = .ok (.iload_n 1, 1) := by decide +kernel
theorem dJ9_min_7cf53_10 : decode cJ9_min_7cf53 10 = .ok (.ireturn, 1) := by decide +kernel
set_option maxRecDepth 20000 in
theorem ggJ0_length_8abf5_J0_coder_7d493 : GoodIn wsJ0_length_8abf5 wsJ0_coder_7d493 := goodIn_r _ [6, 7, 8] (by decide +kernel) (by decide +kernel)
set_option maxRecDepth 20000 in
theorem gJ0_length_8abf5_J0_coder_7d493 : GoodIn wsJ0_length_8abf5 (wsV RJ0 335 RJ0 yJ0_coder_7d493 wsJ0_coder_7d493) := goodIn_app (goodIn_of _ (by decide +kernel)) ggJ0_length_8abf5_J0_coder_7d493
theorem dJ0_length_8abf5_0 : decode cJ0_length_8abf5 0 = .ok (.aload_n 0, 1) := by decide +kernel
theorem dJ0_length_8abf5_1 : decode cJ0_length_8abf5 1 = .ok (.getfield 9, 3) := by decide +kernel
theorem dJ0_length_8abf5_4 : decode cJ0_length_8abf5 4 = .ok (.arraylength, 1) := by decide +kernel
theorem dJ0_length_8abf5_5 : decode cJ0_length_8abf5 5 = .ok (.aload_n 0, 1) := by decide +kernel
theorem dJ0_length_8abf5_6 : decode cJ0_length_8abf5 6 = .ok (.invokevirtual 335, 3) := by decide +kernel
theorem dJ0_length_8abf5_9 : decode cJ0_length_8abf5 9 = .ok (.ishr, 1) := by decide +kernel
theorem dJ0_length_8abf5_10 : decode cJ0_length_8abf5 10 = .ok (.ireturn, 1) := by decide +kernel
set_option maxRecDepth 20000 in
theorem ggJ0_charAt_5068e_J0_isLatin1_aae02 : GoodIn wsJ0_charAt_5068e wsJ0_isLatin1_aae02 := goodIn_r _ [6, 7, 8] (by decide +kernel) (by decide +kernel)
set_option maxRecDepth 20000 in
theorem gJ0_charAt_5068e_J0_isLatin1_aae02 : GoodIn wsJ0_charAt_5068e (wsV RJ0 492 RJ0 yJ0_isLatin1_aae02 wsJ0_isLatin1_aae02) := goodIn_app (goodIn_of _ (by decide +kernel)) ggJ0_charAt_5068e_J0_isLatin1_aae02
set_option maxRecDepth 20000 in
theorem ggJ0_charAt_5068e_J1_charAt_3b067 : GoodIn wsJ0_charAt_5068e wsJ1_charAt_3b067 := goodIn_r _ [12, 13, 14, 5, 15, 16, 17, 18, 19, 20] (by decide +kernel) (by decide +kernel)
set_option maxRecDepth 20000 in
theorem gJ0_charAt_5068e_J1_charAt_3b067 : GoodIn wsJ0_charAt_5068e (va_wsS RJ0 495 yJ1_charAt_3b067 wsJ1_charAt_3b067) := goodIn_app (goodIn_of _ (by decide +kernel)) ggJ0_charAt_5068e_J1_charAt_3b067
set_option maxRecDepth 20000 in
theorem ggJ0_charAt_5068e_J2_charAt_3b067 : GoodIn wsJ0_charAt_5068e wsJ2_charAt_3b067 := goodIn_r _ [24, 25, 26, 23, 27, 28, 29, 30, 31, 14, 5, 15, 16, 17, 18, 19, 20, 32, 33, 34, 35, 36, 37] (by decide +kernel) (by decide +kernel)
set_option maxRecDepth 20000 in
theorem gJ0_charAt_5068e_J2_charAt_3b067 : GoodIn wsJ0_charAt_5068e (va_wsS RJ0 498 yJ2_charAt_3b067 wsJ2_charAt_3b067) := goodIn_app (goodIn_of _ (by decide +kernel)) ggJ0_charAt_5068e_J2_charAt_3b067
theorem dJ0_charAt_5068e_0 : decode cJ0_charAt_5068e 0 = .ok (.aload_n 0, 1) := by decide +kernel
theorem dJ0_charAt_5068e_1 : decode cJ0_charAt_5068e 1 = .ok (.invokevirtual 492, 3) := by decide +kernel
theorem dJ0_charAt_5068e_4 : decode cJ0_charAt_5068e 4 = .ok (.ifCond .eq 12, 3) := by decide +kernel
theorem dJ0_charAt_5068e_7 : decode cJ0_charAt_5068e 7 = .ok (.aload_n 0, 1) := by decide +kernel
theorem dJ0_charAt_5068e_8 : decode cJ0_charAt_5068e 8 = .ok (.getfield 9, 3) := by decide +kernel
theorem dJ0_charAt_5068e_11 : decode cJ0_charAt_5068e 11 = .ok (.iload_n 1, 1) := by decide +kernel
theorem dJ0_charAt_5068e_12 : decode cJ0_charAt_5068e 12 = .ok (.invokestatic 495, 3) := by decide +kernel
theorem dJ0_charAt_5068e_15 : decode cJ0_charAt_5068e 15 = .ok (.ireturn, 1) := by decide +kernel
theorem dJ0_charAt_5068e_16 : decode cJ0_charAt_5068e 16 = .ok (.aload_n 0, 1) := by decide +kernel
theorem dJ0_charAt_5068e_17 : decode cJ0_charAt_5068e 17 = .ok (.getfield 9, 3) := by decide +kernel
theorem dJ0_charAt_5068e_20 : decode cJ0_charAt_5068e 20 = .ok (.iload_n 1, 1) := by decide +kernel
theorem dJ0_charAt_5068e_21 : decode cJ0_charAt_5068e 21 = .ok (.invokestatic 498, 3) := by decide +kernel
theorem dJ0_charAt_5068e_24 : decode cJ0_charAt_5068e 24 = .ok (.ireturn, 1) := by decide +kernel
theorem dJ0_coder_7d493_0 : decode cJ0_coder_7d493 0 = .ok (.getstatic 38, 3) := by decide +kernel
theorem dJ0_coder_7d493_3 : decode cJ0_coder_7d493 3 = .ok (.ifCond .eq 10, 3) := by decide +kernel
theorem dJ0_coder_7d493_6 : decode cJ0_coder_7d493 6 = .ok (.aload_n 0, 1) := by decide +kernel
theorem dJ0_coder_7d493_7 : decode cJ0_coder_7d493 7 = .ok (.getfield 15, 3) := by decide +kernel
theorem dJ0_coder_7d493_10 : decode cJ0_coder_7d493 10 = .ok (.goto 4, 3) := by decide +kernel
theorem dJ0_coder_7d493_13 : decode cJ0_coder_7d493 13 = .ok (.iconst 1, 1) := by decide +kernel
theorem dJ0_coder_7d493_14 : decode cJ0_coder_7d493 14 = .ok (.ireturn, 1) := by decide +kernel
theorem dJ0_isLatin1_aae02_0 : decode cJ0_isLatin1_aae02 0 = .ok (.getstatic 38, 3) := by decide +kernel
theorem dJ0_isLatin1_aae02_3 : decode cJ0_isLatin1_aae02 3 = .ok (.ifCond .eq 14, 3) := by decide +kernel
theorem dJ0_isLatin1_aae02_6 : decode cJ0_isLatin1_aae02 6 = .ok (.aload_n 0, 1) := by decide +kernel
theorem dJ0_isLatin1_aae02_7 : decode cJ0_isLatin1_aae02 7 = .ok (.getfield 15, 3) := by decide +kernel
theorem dJ0_isLatin1_aae02_10 : decode cJ0_isLatin1_aae02 10 = .ok (.ifCond .ne 7, 3) := by decide +kernel
theorem dJ0_isLatin1_aae02_13 : decode cJ0_isLatin1_aae02 13 = .ok (.iconst 1, 1) := by decide +kernel
theorem dJ0_isLatin1_aae02_14 : decode cJ0_isLatin1_aae02 14 = .ok (.goto 4, 3) := by decide +kernel
theorem dJ0_isLatin1_aae02_17 : decode cJ0_isLatin1_aae02 17 = .ok (.iconst 0, 1) := by decide +kernel
theorem dJ0_isLatin1_aae02_18 : decode cJ0_isLatin1_aae02 18 = .ok (.ireturn, 1) := by decide +kernel
set_option maxRecDepth 20000 in
theorem ggJ0_checkIndex_df160_J3_checkIndex_8e157 : GoodIn wsJ0_checkIndex_df160 wsJ3_checkIndex_8e157 := goodIn_r _ [5] (by decide +kernel) (by decide +kernel)
set_option maxRecDepth 20000 in
theorem gJ0_checkIndex_df160_J3_checkIndex_8e157 : GoodIn wsJ0_checkIndex_df160 (va_wsS RJ0 1059 yJ3_checkIndex_8e157 wsJ3_checkIndex_8e157) := goodIn_app (goodIn_of _ (by decide +kernel)) ggJ0_checkIndex_df160_J3_checkIndex_8e157
theorem dJ0_checkIndex_df160_0 : decode cJ0_checkIndex_df160 0 = .ok (.iload_n 0, 1) := by decide +kernel
theorem dJ0_checkIndex_df160_1 : decode cJ0_checkIndex_df160 1 = .ok (.iload_n 1, 1) := by decide +kernel
theorem dJ0_checkIndex_df160_2 : decode cJ0_checkIndex_df160 2 = .ok (.getstatic 1053, 3) := by decide +kernel
theorem dJ0_checkIndex_df160_5 : decode cJ0_checkIndex_df160 5 = .ok (.invokestatic 1059, 3) := by decide +kernel
theorem dJ0_checkIndex_df160_8 : decode cJ0_checkIndex_df160 8 = .ok (.pop, 1) := by decide +kernel
theorem dJ0_checkIndex_df160_9 : decode cJ0_checkIndex_df160 9 = .ok (.return_, 1) := by decide +kernel
set_option maxRecDepth 20000 in
theorem ggJ1_charAt_3b067_J0_checkIndex_df160 : GoodIn wsJ1_charAt_3b067 wsJ0_checkIndex_df160 := goodIn_r _ [4, 5, 6, 7, 8, 9] (by decide +kernel) (by decide +kernel)
set_option maxRecDepth 20000 in
theorem gJ1_charAt_3b067_J0_checkIndex_df160 : GoodIn wsJ1_charAt_3b067 (va_wsS RJ1 9 yJ0_checkIndex_df160 wsJ0_checkIndex_df160) := goodIn_app (goodIn_of _ (by decide +kernel)) ggJ1_charAt_3b067_J0_checkIndex_df160
theorem dJ1_charAt_3b067_0 : decode cJ1_charAt_3b067 0 = .ok (.iload_n 1, 1) := by decide +kernel
theorem dJ1_charAt_3b067_1 : decode cJ1_charAt_3b067 1 = .ok (.aload_n 0, 1) := by decide +kernel
theorem dJ1_charAt_3b067_2 : decode cJ1_charAt_3b067 2 = .ok (.arraylength, 1) := by decide +kernel
theorem dJ1_charAt_3b067_3 : decode cJ1_charAt_3b067 3 = .ok (.invokestatic 9, 3) := by decide +kernel
theorem dJ1_charAt_3b067_6 : decode cJ1_charAt_3b067 6 = .ok (.aload_n 0, 1) := by decide +kernel
theorem dJ1_charAt_3b067_7 : decode cJ1_charAt_3b067 7 = .ok (.iload_n 1, 1) := by decide +kernel
theorem dJ1_charAt_3b067_8 : decode cJ1_charAt_3b067 8 = .ok (.baload, 1) := by decide +kernel
theorem dJ1_charAt_3b067_9 : decode cJ1_charAt_3b067 9 = .ok (.sipush 255, 3) := by decide +kernel
theorem dJ1_charAt_3b067_12 : decode cJ1_charAt_3b067 12 = .ok (.iand, 1) := by decide +kernel
theorem dJ1_charAt_3b067_13 : decode cJ1_charAt_3b067 13 = .ok (.i2c, 1) := by decide +kernel
theorem dJ1_charAt_3b067_14 : decode cJ1_charAt_3b067 14 = .ok (.ireturn, 1) := by decide +kernel
set_option maxRecDepth 20000 in
theorem ggJ2_getChar_3b067_J2_length_9d52b : GoodIn wsJ2_getChar_3b067 wsJ2_length_9d52b := goodIn_r _ [7] (by decide +kernel) (by decide +kernel)
set_option maxRecDepth 20000 in
theorem gJ2_getChar_3b067_J2_length_9d52b : GoodIn wsJ2_getChar_3b067 (va_wsS RJ2 48 yJ2_length_9d52b wsJ2_length_9d52b) := goodIn_app (goodIn_of _ (by decide +kernel)) ggJ2_getChar_3b067_J2_length_9d52b
theorem dJ2_getChar_3b067_0 : decode cJ2_getChar_3b067 0 = .ok (.getstatic 44, 3) := by decide +kernel
theorem dJ2_getChar_3b067_3 : decode cJ2_getChar_3b067 3 = .ok (.ifCond .ne 25, 3) := by decide +kernel
theorem dJ2_getChar_3b067_6 : decode cJ2_getChar_3b067 6 = .ok (.iload_n 1, 1) := by decide +kernel
theorem dJ2_getChar_3b067_7 : decode cJ2_getChar_3b067 7 = .ok (.ifCond .lt 11, 3) := by decide +kernel
theorem dJ2_getChar_3b067_10 : decode cJ2_getChar_3b067 10 = .ok (.iload_n 1, 1) := by decide +kernel
theorem dJ2_getChar_3b067_11 : decode cJ2_getChar_3b067 11 = .ok (.aload_n 0, 1) := by decide +kernel
theorem dJ2_getChar_3b067_12 : decode cJ2_getChar_3b067 12 = .ok (.invokestatic 48, 3) := by decide +kernel
theorem dJ2_getChar_3b067_15 : decode cJ2_getChar_3b067 15 = .ok (.if_icmp .lt 13, 3) := by decide +kernel
theorem dJ2_getChar_3b067_18 : decode cJ2_getChar_3b067 18 = .ok (.new 52, 3) := by decide +kernel
theorem dJ2_getChar_3b067_21 : decode cJ2_getChar_3b067 21 = .ok (.dup, 1) := by decide +kernel
theorem dJ2_getChar_3b067_22 : decode cJ2_getChar_3b067 22 = .ok (.ldc 54, 2) := by decide +kernel
theorem dJ2_getChar_3b067_24 : decode cJ2_getChar_3b067 24 = .ok (.invokespecial 56, 3) := by decide +kernel
theorem dJ2_getChar_3b067_27 : decode cJ2_getChar_3b067 27 = .ok (.athrow, 1) := by decide +kernel
theorem dJ2_getChar_3b067_28 : decode cJ2_getChar_3b067 28 = .ok (.iload_n 1, 1) := by decide +kernel
theorem dJ2_getChar_3b067_29 : decode cJ2_getChar_3b067 29 = .ok (.iconst 1, 1) := by decide +kernel
theorem dJ2_getChar_3b067_30 : decode cJ2_getChar_3b067 30 = .ok (.ishl, 1) := by decide +kernel
theorem dJ2_getChar_3b067_31 : decode cJ2_getChar_3b067 31 = .ok (.istore_n 1, 1) := by decide +kernel
theorem dJ2_getChar_3b067_32 : decode cJ2_getChar_3b067 32 = .ok (.aload_n 0, 1) := by decide +kernel
theorem dJ2_getChar_3b067_33 : decode cJ2_getChar_3b067 33 = .ok (.iload_n 1, 1) := by decide +kernel
theorem dJ2_getChar_3b067_34 : decode cJ2_getChar_3b067 34 = .ok (.iinc 1 1, 3) := by decide +kernel
theorem dJ2_getChar_3b067_37 : decode cJ2_getChar_3b067 37 = .ok (.baload, 1) := by decide +kernel
theorem dJ2_getChar_3b067_38 : decode cJ2_getChar_3b067 38 = .ok (.sipush 255, 3) := by decide +kernel
theorem dJ2_getChar_3b067_41 : decode cJ2_getChar_3b067 41 = .ok (.iand, 1) := by decide +kernel
theorem dJ2_getChar_3b067_42 : decode cJ2_getChar_3b067 42 = .ok (.getstatic 59, 3) := by decide +kernel
theorem dJ2_getChar_3b067_45 : decode cJ2_getChar_3b067 45 = .ok (.ishl, 1) := by decide +kernel
theorem dJ2_getChar_3b067_46 : decode cJ2_getChar_3b067 46 = .ok (.aload_n 0, 1) := by decide +kernel
theorem dJ2_getChar_3b067_47 : decode cJ2_getChar_3b067 47 = .ok (.iload_n 1, 1) := by decide +kernel
theorem dJ2_getChar_3b067_48 : decode cJ2_getChar_3b067 48 = .ok (.baload, 1) := by decide +kernel
theorem dJ2_getChar_3b067_49 : decode cJ2_getChar_3b067 49 = .ok (.sipush 255, 3) := by decide +kernel
theorem dJ2_getChar_3b067_52 : decode cJ2_getChar_3b067 52 = .ok (.iand, 1) := by decide +kernel
theorem dJ2_getChar_3b067_53 : decode cJ2_getChar_3b067 53 = .ok (.getstatic 63, 3) := by decide +kernel
theorem dJ2_getChar_3b067_56 : decode cJ2_getChar_3b067 56 = .ok (.ishl, 1) := by decide +kernel
theorem dJ2_getChar_3b067_57 : decode cJ2_getChar_3b067 57 = .ok (.ior, 1) := by decide +kernel
theorem dJ2_getChar_3b067_58 : decode cJ2_getChar_3b067 58 = .ok (.i2c, 1) := by decide +kernel
theorem dJ2_getChar_3b067_59 : decode cJ2_getChar_3b067 59 = .ok (.ireturn, 1) := by decide +kernel
theorem dJ2_length_9d52b_0 : decode cJ2_length_9d52b 0 = .ok (.aload_n 0, 1) := by decide +kernel
theorem dJ2_length_9d52b_1 : decode cJ2_length_9d52b 1 = .ok (.arraylength, 1) := by decide +kernel
theorem dJ2_length_9d52b_2 : decode cJ2_length_9d52b 2 = .ok (.iconst 1, 1) := by decide +kernel
theorem dJ2_length_9d52b_3 : decode cJ2_length_9d52b 3 = .ok (.ishr, 1) := by decide +kernel
theorem dJ2_length_9d52b_4 : decode cJ2_length_9d52b 4 = .ok (.ireturn, 1) := by decide +kernel
set_option maxRecDepth 20000 in
theorem ggJ2_charAt_3b067_J2_checkIndex_2214a : GoodIn wsJ2_charAt_3b067 wsJ2_checkIndex_2214a := goodIn_r _ [4, 5, 6, 3, 7, 8, 9, 10, 11, 12, 13, 14, 15, 16] (by decide +kernel) (by decide +kernel)
set_option maxRecDepth 20000 in
theorem gJ2_charAt_3b067_J2_checkIndex_2214a : GoodIn wsJ2_charAt_3b067 (va_wsS RJ2 67 yJ2_checkIndex_2214a wsJ2_checkIndex_2214a) := goodIn_app (goodIn_of _ (by decide +kernel)) ggJ2_charAt_3b067_J2_checkIndex_2214a
set_option maxRecDepth 20000 in
theorem ggJ2_charAt_3b067_J2_getChar_3b067 : GoodIn wsJ2_charAt_3b067 wsJ2_getChar_3b067 := goodIn_r _ [19, 20, 21, 22, 5, 6, 3, 7] (by decide +kernel) (by decide +kernel)
set_option maxRecDepth 20000 in
theorem gJ2_charAt_3b067_J2_getChar_3b067 : GoodIn wsJ2_charAt_3b067 (va_wsS RJ2 71 yJ2_getChar_3b067 wsJ2_getChar_3b067) := goodIn_app (goodIn_of _ (by decide +kernel)) ggJ2_charAt_3b067_J2_getChar_3b067
theorem dJ2_charAt_3b067_0 : decode cJ2_charAt_3b067 0 = .ok (.iload_n 1, 1) := by decide +kernel
theorem dJ2_charAt_3b067_1 : decode cJ2_charAt_3b067 1 = .ok (.aload_n 0, 1) := by decide +kernel
theorem dJ2_charAt_3b067_2 : decode cJ2_charAt_3b067 2 = .ok (.invokestatic 67, 3) := by decide +kernel
theorem dJ2_charAt_3b067_5 : decode cJ2_charAt_3b067 5 = .ok (.aload_n 0, 1) := by decide +kernel
theorem dJ2_charAt_3b067_6 : decode cJ2_charAt_3b067 6 = .ok (.iload_n 1, 1) := by decide +kernel
theorem dJ2_charAt_3b067_7 : decode cJ2_charAt_3b067 7 = .ok (.invokestatic 71, 3) := by decide +kernel
theorem dJ2_charAt_3b067_10 : decode cJ2_charAt_3b067 10 = .ok (.ireturn, 1) := by decide +kernel
set_option maxRecDepth 20000 in
theorem ggJ2_checkIndex_2214a_J2_length_9d52b : GoodIn wsJ2_checkIndex_2214a wsJ2_length_9d52b := goodIn_r _ [4] (by decide +kernel) (by decide +kernel)
set_option maxRecDepth 20000 in
theorem gJ2_checkIndex_2214a_J2_length_9d52b : GoodIn wsJ2_checkIndex_2214a (va_wsS RJ2 48 yJ2_length_9d52b wsJ2_length_9d52b) := goodIn_app (goodIn_of _ (by decide +kernel)) ggJ2_checkIndex_2214a_J2_length_9d52b
set_option maxRecDepth 20000 in
theorem ggJ2_checkIndex_2214a_J0_checkIndex_df160 : GoodIn wsJ2_checkIndex_2214a wsJ0_checkIndex_df160 := goodIn_r _ [8, 9, 10, 11, 12, 13] (by decide +kernel) (by decide +kernel)
set_option maxRecDepth 20000 in
theorem gJ2_checkIndex_2214a_J0_checkIndex_df160 : GoodIn wsJ2_checkIndex_2214a (va_wsS RJ2 414 yJ0_checkIndex_df160 wsJ0_checkIndex_df160) := goodIn_app (goodIn_of _ (by decide +kernel)) ggJ2_checkIndex_2214a_J0_checkIndex_df160
theorem dJ2_checkIndex_2214a_0 : decode cJ2_checkIndex_2214a 0 = .ok (.iload_n 0, 1) := by decide +kernel
theorem dJ2_checkIndex_2214a_1 : decode cJ2_checkIndex_2214a 1 = .ok (.aload_n 1, 1) := by decide +kernel
theorem dJ2_checkIndex_2214a_2 : decode cJ2_checkIndex_2214a 2 = .ok (.invokestatic 48, 3) := by decide +kernel
theorem dJ2_checkIndex_2214a_5 : decode cJ2_checkIndex_2214a 5 = .ok (.invokestatic 414, 3) := by decide +kernel
theorem dJ2_checkIndex_2214a_8 : decode cJ2_checkIndex_2214a 8 = .ok (.return_, 1) := by decide +kernel
theorem dJ3_checkIndex_8e157_0 : decode cJ3_checkIndex_8e157 0 = .ok (.iload_n 0, 1) := by decide +kernel
theorem dJ3_checkIndex_8e157_1 : decode cJ3_checkIndex_8e157 1 = .ok (.ifCond .lt 8, 3) := by decide +kernel
theorem dJ3_checkIndex_8e157_4 : decode cJ3_checkIndex_8e157 4 = .ok (.iload_n 0, 1) := by decide +kernel
theorem dJ3_checkIndex_8e157_5 : decode cJ3_checkIndex_8e157 5 = .ok (.iload_n 1, 1) := by decide +kernel
theorem dJ3_checkIndex_8e157_6 : decode cJ3_checkIndex_8e157 6 = .ok (.if_icmp .lt 10, 3) := by decide +kernel
theorem dJ3_checkIndex_8e157_9 : decode cJ3_checkIndex_8e157 9 = .ok (.aload_n 2, 1) := by decide +kernel
theorem dJ3_checkIndex_8e157_10 : decode cJ3_checkIndex_8e157 10 = .ok (.iload_n 0, 1) := by decide +kernel
theorem dJ3_checkIndex_8e157_11 : decode cJ3_checkIndex_8e157 11 = .ok (.iload_n 1, 1) := by decide +kernel
theorem dJ3_checkIndex_8e157_12 : decode cJ3_checkIndex_8e157 12 = .ok (.invokestatic 95, 3) := by decide +kernel
theorem dJ3_checkIndex_8e157_15 : decode cJ3_checkIndex_8e157 15 = .ok (.athrow, 1) := by decide +kernel
theorem dJ3_checkIndex_8e157_16 : decode cJ3_checkIndex_8e157 16 = .ok (.iload_n 0, 1) := by decide +kernel
theorem dJ3_checkIndex_8e157_17 : decode cJ3_checkIndex_8e157 17 = .ok (.ireturn, 1) := by decide +kernel
