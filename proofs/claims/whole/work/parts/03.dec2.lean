theorem dX6_lays_37 : decode cX6_lays 37 = .ok (.iload_n 1, 1) := by decide +kernel
theorem dX6_lays_38 : decode cX6_lays 38 = .ok (.aload_n 0, 1) := by decide +kernel
theorem dX6_lays_39 : decode cX6_lays 39 = .ok (.getfield 61, 3) := by decide +kernel
theorem dX6_lays_42 : decode cX6_lays 42 = .ok (.bipush 24, 2) := by decide +kernel
theorem dX6_lays_44 : decode cX6_lays 44 = .ok (.iload_n 1, 1) := by decide +kernel
theorem dX6_lays_45 : decode cX6_lays 45 = .ok (.iadd, 1) := by decide +kernel
theorem dX6_lays_46 : decode cX6_lays 46 = .ok (.iaload, 1) := by decide +kernel
theorem dX6_lays_47 : decode cX6_lays 47 = .ok (.iastore, 1) := by decide +kernel
theorem dX6_lays_48 : decode cX6_lays 48 = .ok (.iinc 1 1, 3) := by decide +kernel
theorem dX6_lays_51 : decode cX6_lays 51 = .ok (.goto (-23), 3) := by decide +kernel
theorem dX6_lays_54 : decode cX6_lays 54 = .ok (.return_, 1) := by decide +kernel
theorem dX6_goes_0 : decode cX6_goes 0 = .ok (.iconst 0, 1) := by decide +kernel
theorem dX6_goes_1 : decode cX6_goes 1 = .ok (.istore_n 2, 1) := by decide +kernel
theorem dX6_goes_2 : decode cX6_goes 2 = .ok (.iconst 0, 1) := by decide +kernel
theorem dX6_goes_3 : decode cX6_goes 3 = .ok (.istore_n 3, 1) := by decide +kernel
theorem dX6_goes_4 : decode cX6_goes 4 = .ok (.iload_n 3, 1) := by decide +kernel
theorem dX6_goes_5 : decode cX6_goes 5 = .ok (.iload_n 1, 1) := by decide +kernel
theorem dX6_goes_6 : decode cX6_goes 6 = .ok (.if_icmp .ge 16, 3) := by decide +kernel
theorem dX6_goes_9 : decode cX6_goes 9 = .ok (.iload_n 2, 1) := by decide +kernel
theorem dX6_goes_10 : decode cX6_goes 10 = .ok (.aload_n 0, 1) := by decide +kernel
theorem dX6_goes_11 : decode cX6_goes 11 = .ok (.invokevirtual 196, 3) := by decide +kernel
theorem dX6_goes_14 : decode cX6_goes 14 = .ok (.iadd, 1) := by decide +kernel
theorem dX6_goes_15 : decode cX6_goes 15 = .ok (.istore_n 2, 1) := by decide +kernel
theorem dX6_goes_16 : decode cX6_goes 16 = .ok (.iinc 3 1, 3) := by decide +kernel
theorem dX6_goes_19 : decode cX6_goes 19 = .ok (.goto (-15), 3) := by decide +kernel
theorem dX6_goes_22 : decode cX6_goes 22 = .ok (.iload_n 2, 1) := by decide +kernel
theorem dX6_goes_23 : decode cX6_goes 23 = .ok (.ireturn, 1) := by decide +kernel
theorem dX6_run_0 : decode cX6_run 0 = .ok (.iload_n 2, 1) := by decide +kernel
theorem dX6_run_1 : decode cX6_run 1 = .ok (.iconst 0, 1) := by decide +kernel
theorem dX6_run_2 : decode cX6_run 2 = .ok (.iconst 2, 1) := by decide +kernel
theorem dX6_run_3 : decode cX6_run 3 = .ok (.invokestatic 81, 3) := by decide +kernel
theorem dX6_run_6 : decode cX6_run 6 = .ok (.ifCond .ne 35, 3) := by decide +kernel
theorem dX6_run_9 : decode cX6_run 9 = .ok (.iload_n 2, 1) := by decide +kernel
theorem dX6_run_10 : decode cX6_run 10 = .ok (.bipush 10, 2) := by decide +kernel
theorem dX6_run_12 : decode cX6_run 12 = .ok (.bipush 9, 2) := by decide +kernel
theorem dX6_run_14 : decode cX6_run 14 = .ok (.aload_n 0, 1) := by decide +kernel
theorem dX6_run_15 : decode cX6_run 15 = .ok (.getfield 78, 3) := by decide +kernel
theorem dX6_run_18 : decode cX6_run 18 = .ok (.iadd, 1) := by decide +kernel
theorem dX6_run_19 : decode cX6_run 19 = .ok (.invokestatic 81, 3) := by decide +kernel
theorem dX6_run_22 : decode cX6_run 22 = .ok (.ifCond .ne 19, 3) := by decide +kernel
theorem dX6_run_25 : decode cX6_run 25 = .ok (.iload_n 2, 1) := by decide +kernel
theorem dX6_run_26 : decode cX6_run 26 = .ok (.bipush 20, 2) := by decide +kernel
theorem dX6_run_28 : decode cX6_run 28 = .ok (.bipush 19, 2) := by decide +kernel
theorem dX6_run_30 : decode cX6_run 30 = .ok (.aload_n 0, 1) := by decide +kernel
theorem dX6_run_31 : decode cX6_run 31 = .ok (.getfield 78, 3) := by decide +kernel
theorem dX6_run_34 : decode cX6_run 34 = .ok (.iadd, 1) := by decide +kernel
theorem dX6_run_35 : decode cX6_run 35 = .ok (.invokestatic 81, 3) := by decide +kernel
theorem dX6_run_38 : decode cX6_run 38 = .ok (.ifCond .eq 7, 3) := by decide +kernel
theorem dX6_run_41 : decode cX6_run 41 = .ok (.iconst 1, 1) := by decide +kernel
theorem dX6_run_42 : decode cX6_run 42 = .ok (.goto 4, 3) := by decide +kernel
theorem dX6_run_45 : decode cX6_run 45 = .ok (.iconst 0, 1) := by decide +kernel
theorem dX6_run_46 : decode cX6_run 46 = .ok (.istore_n 3, 1) := by decide +kernel
theorem dX6_run_47 : decode cX6_run 47 = .ok (.iload_n 1, 1) := by decide +kernel
theorem dX6_run_48 : decode cX6_run 48 = .ok (.iconst 0, 1) := by decide +kernel
theorem dX6_run_49 : decode cX6_run 49 = .ok (.bipush 48, 2) := by decide +kernel
theorem dX6_run_51 : decode cX6_run 51 = .ok (.invokestatic 81, 3) := by decide +kernel
theorem dX6_run_54 : decode cX6_run 54 = .ok (.ifCond .eq 7, 3) := by decide +kernel
theorem dX6_run_57 : decode cX6_run 57 = .ok (.iload_n 3, 1) := by decide +kernel
theorem dX6_run_58 : decode cX6_run 58 = .ok (.ifCond .ne 6, 3) := by decide +kernel
theorem dX6_run_61 : decode cX6_run 61 = .ok (.bipush (-2), 2) := by decide +kernel
theorem dX6_run_63 : decode cX6_run 63 = .ok (.ireturn, 1) := by decide +kernel
theorem dX6_run_64 : decode cX6_run 64 = .ok (.aload_n 0, 1) := by decide +kernel
theorem dX6_run_65 : decode cX6_run 65 = .ok (.invokevirtual 199, 3) := by decide +kernel
theorem dX6_run_68 : decode cX6_run 68 = .ok (.aload_n 0, 1) := by decide +kernel
theorem dX6_run_69 : decode cX6_run 69 = .ok (.iload_n 1, 1) := by decide +kernel
theorem dX6_run_70 : decode cX6_run 70 = .ok (.invokevirtual 202, 3) := by decide +kernel
theorem dX6_run_73 : decode cX6_run 73 = .ok (.istore 4, 2) := by decide +kernel
theorem dX6_run_75 : decode cX6_run 75 = .ok (.iload_n 2, 1) := by decide +kernel
theorem dX6_run_76 : decode cX6_run 76 = .ok (.tableswitch 53 0 2 #[28, 31, 44], 28) := by decide +kernel
theorem dX6_run_104 : decode cX6_run 104 = .ok (.goto 60, 3) := by decide +kernel
theorem dX6_run_107 : decode cX6_run 107 = .ok (.aload_n 0, 1) := by decide +kernel
theorem dX6_run_108 : decode cX6_run 108 = .ok (.aload_n 0, 1) := by decide +kernel
theorem dX6_run_109 : decode cX6_run 109 = .ok (.invokevirtual 183, 3) := by decide +kernel
theorem dX6_run_112 : decode cX6_run 112 = .ok (.invokevirtual 186, 3) := by decide +kernel
theorem dX6_run_115 : decode cX6_run 115 = .ok (.istore 4, 2) := by decide +kernel
theorem dX6_run_117 : decode cX6_run 117 = .ok (.goto 47, 3) := by decide +kernel
theorem dX6_run_120 : decode cX6_run 120 = .ok (.aload_n 0, 1) := by decide +kernel
theorem dX6_run_121 : decode cX6_run 121 = .ok (.invokevirtual 183, 3) := by decide +kernel
theorem dX6_run_124 : decode cX6_run 124 = .ok (.istore 4, 2) := by decide +kernel
theorem dX6_run_126 : decode cX6_run 126 = .ok (.goto 38, 3) := by decide +kernel
theorem dX6_run_129 : decode cX6_run 129 = .ok (.iload_n 2, 1) := by decide +kernel
theorem dX6_run_130 : decode cX6_run 130 = .ok (.bipush 20, 2) := by decide +kernel
theorem dX6_run_132 : decode cX6_run 132 = .ok (.if_icmp .ge 17, 3) := by decide +kernel
theorem dX6_run_135 : decode cX6_run 135 = .ok (.aload_n 0, 1) := by decide +kernel
theorem dX6_run_136 : decode cX6_run 136 = .ok (.getfield 16, 3) := by decide +kernel
theorem dX6_run_139 : decode cX6_run 139 = .ok (.iconst 4, 1) := by decide +kernel
theorem dX6_run_140 : decode cX6_run 140 = .ok (.iload_n 2, 1) := by decide +kernel
theorem dX6_run_141 : decode cX6_run 141 = .ok (.bipush 10, 2) := by decide +kernel
theorem dX6_run_143 : decode cX6_run 143 = .ok (.isub, 1) := by decide +kernel
theorem dX6_run_144 : decode cX6_run 144 = .ok (.imul, 1) := by decide +kernel
theorem dX6_run_145 : decode cX6_run 145 = .ok (.iaload, 1) := by decide +kernel
theorem dX6_run_146 : decode cX6_run 146 = .ok (.goto 16, 3) := by decide +kernel
theorem dX6_run_149 : decode cX6_run 149 = .ok (.aload_n 0, 1) := by decide +kernel
theorem dX6_run_150 : decode cX6_run 150 = .ok (.getfield 16, 3) := by decide +kernel
theorem dX6_run_153 : decode cX6_run 153 = .ok (.iconst 4, 1) := by decide +kernel
theorem dX6_run_154 : decode cX6_run 154 = .ok (.iload_n 2, 1) := by decide +kernel
theorem dX6_run_155 : decode cX6_run 155 = .ok (.bipush 20, 2) := by decide +kernel
theorem dX6_run_157 : decode cX6_run 157 = .ok (.isub, 1) := by decide +kernel
theorem dX6_run_158 : decode cX6_run 158 = .ok (.imul, 1) := by decide +kernel
theorem dX6_run_159 : decode cX6_run 159 = .ok (.iconst 1, 1) := by decide +kernel
theorem dX6_run_160 : decode cX6_run 160 = .ok (.iadd, 1) := by decide +kernel
theorem dX6_run_161 : decode cX6_run 161 = .ok (.iaload, 1) := by decide +kernel
theorem dX6_run_162 : decode cX6_run 162 = .ok (.istore 4, 2) := by decide +kernel
theorem dX6_run_164 : decode cX6_run 164 = .ok (.aload_n 0, 1) := by decide +kernel
theorem dX6_run_165 : decode cX6_run 165 = .ok (.invokevirtual 205, 3) := by decide +kernel
theorem dX6_run_168 : decode cX6_run 168 = .ok (.iload 4, 2) := by decide +kernel
theorem dX6_run_170 : decode cX6_run 170 = .ok (.ireturn, 1) := by decide +kernel
theorem dX6_when_0 : decode cX6_when 0 = .ok (.iload_n 1, 1) := by decide +kernel
theorem dX6_when_1 : decode cX6_when 1 = .ok (.iconst 0, 1) := by decide +kernel
theorem dX6_when_2 : decode cX6_when 2 = .ok (.sipush 999, 3) := by decide +kernel
theorem dX6_when_5 : decode cX6_when 5 = .ok (.invokestatic 81, 3) := by decide +kernel
theorem dX6_when_8 : decode cX6_when 8 = .ok (.ifCond .ne 6, 3) := by decide +kernel
theorem dX6_when_11 : decode cX6_when 11 = .ok (.bipush (-2), 2) := by decide +kernel
theorem dX6_when_13 : decode cX6_when 13 = .ok (.ireturn, 1) := by decide +kernel
theorem dX6_when_14 : decode cX6_when 14 = .ok (.iconst (-1), 1) := by decide +kernel
theorem dX6_when_15 : decode cX6_when 15 = .ok (.istore_n 2, 1) := by decide +kernel
theorem dX6_when_16 : decode cX6_when 16 = .ok (.aload_n 0, 1) := by decide +kernel
theorem dX6_when_17 : decode cX6_when 17 = .ok (.invokevirtual 199, 3) := by decide +kernel
theorem dX6_when_20 : decode cX6_when 20 = .ok (.iconst 0, 1) := by decide +kernel
theorem dX6_when_21 : decode cX6_when 21 = .ok (.istore_n 3, 1) := by decide +kernel
theorem dX6_when_22 : decode cX6_when 22 = .ok (.iload_n 3, 1) := by decide +kernel
theorem dX6_when_23 : decode cX6_when 23 = .ok (.bipush 60, 2) := by decide +kernel
theorem dX6_when_25 : decode cX6_when 25 = .ok (.if_icmp .gt 28, 3) := by decide +kernel
theorem dX6_when_28 : decode cX6_when 28 = .ok (.iload_n 2, 1) := by decide +kernel
theorem dX6_when_29 : decode cX6_when 29 = .ok (.iconst (-1), 1) := by decide +kernel
theorem dX6_when_30 : decode cX6_when 30 = .ok (.if_icmp .ne 23, 3) := by decide +kernel
theorem dX6_when_33 : decode cX6_when 33 = .ok (.aload_n 0, 1) := by decide +kernel
theorem dX6_when_34 : decode cX6_when 34 = .ok (.invokevirtual 196, 3) := by decide +kernel
theorem dX6_when_37 : decode cX6_when 37 = .ok (.iload_n 1, 1) := by decide +kernel
theorem dX6_when_38 : decode cX6_when 38 = .ok (.if_icmp .ne 7, 3) := by decide +kernel
theorem dX6_when_41 : decode cX6_when 41 = .ok (.iload_n 3, 1) := by decide +kernel
theorem dX6_when_42 : decode cX6_when 42 = .ok (.goto 4, 3) := by decide +kernel
theorem dX6_when_45 : decode cX6_when 45 = .ok (.iconst (-1), 1) := by decide +kernel
theorem dX6_when_46 : decode cX6_when 46 = .ok (.istore_n 2, 1) := by decide +kernel
theorem dX6_when_47 : decode cX6_when 47 = .ok (.iinc 3 1, 3) := by decide +kernel
theorem dX6_when_50 : decode cX6_when 50 = .ok (.goto (-28), 3) := by decide +kernel
theorem dX6_when_53 : decode cX6_when 53 = .ok (.aload_n 0, 1) := by decide +kernel
theorem dX6_when_54 : decode cX6_when 54 = .ok (.invokevirtual 205, 3) := by decide +kernel
theorem dX6_when_57 : decode cX6_when 57 = .ok (.iload_n 2, 1) := by decide +kernel
theorem dX6_when_58 : decode cX6_when 58 = .ok (.ireturn, 1) := by decide +kernel
theorem dX6_tellsDay_0 : decode cX6_tellsDay 0 = .ok (.aload_n 0, 1) := by decide +kernel
theorem dX6_tellsDay_1 : decode cX6_tellsDay 1 = .ok (.invokevirtual 199, 3) := by decide +kernel
theorem dX6_tellsDay_4 : decode cX6_tellsDay 4 = .ok (.iconst 0, 1) := by decide +kernel
theorem dX6_tellsDay_5 : decode cX6_tellsDay 5 = .ok (.istore_n 1, 1) := by decide +kernel
theorem dX6_tellsDay_6 : decode cX6_tellsDay 6 = .ok (.iload_n 1, 1) := by decide +kernel
theorem dX6_tellsDay_7 : decode cX6_tellsDay 7 = .ok (.bipush 24, 2) := by decide +kernel
theorem dX6_tellsDay_9 : decode cX6_tellsDay 9 = .ok (.if_icmp .ge 29, 3) := by decide +kernel
theorem dX6_tellsDay_12 : decode cX6_tellsDay 12 = .ok (.aload_n 0, 1) := by decide +kernel
theorem dX6_tellsDay_13 : decode cX6_tellsDay 13 = .ok (.getfield 64, 3) := by decide +kernel
theorem dX6_tellsDay_16 : decode cX6_tellsDay 16 = .ok (.iload_n 1, 1) := by decide +kernel
theorem dX6_tellsDay_17 : decode cX6_tellsDay 17 = .ok (.aload_n 0, 1) := by decide +kernel
theorem dX6_tellsDay_18 : decode cX6_tellsDay 18 = .ok (.invokevirtual 196, 3) := by decide +kernel
theorem dX6_tellsDay_21 : decode cX6_tellsDay 21 = .ok (.iastore, 1) := by decide +kernel
theorem dX6_tellsDay_22 : decode cX6_tellsDay 22 = .ok (.aload_n 0, 1) := by decide +kernel
theorem dX6_tellsDay_23 : decode cX6_tellsDay 23 = .ok (.getfield 67, 3) := by decide +kernel
theorem dX6_tellsDay_26 : decode cX6_tellsDay 26 = .ok (.iload_n 1, 1) := by decide +kernel
theorem dX6_tellsDay_27 : decode cX6_tellsDay 27 = .ok (.aload_n 0, 1) := by decide +kernel
theorem dX6_tellsDay_28 : decode cX6_tellsDay 28 = .ok (.getfield 193, 3) := by decide +kernel
theorem dX6_tellsDay_31 : decode cX6_tellsDay 31 = .ok (.iastore, 1) := by decide +kernel
theorem dX6_tellsDay_32 : decode cX6_tellsDay 32 = .ok (.iinc 1 1, 3) := by decide +kernel
theorem dX6_tellsDay_35 : decode cX6_tellsDay 35 = .ok (.goto (-29), 3) := by decide +kernel
theorem dX6_tellsDay_38 : decode cX6_tellsDay 38 = .ok (.aload_n 0, 1) := by decide +kernel
theorem dX6_tellsDay_39 : decode cX6_tellsDay 39 = .ok (.invokevirtual 205, 3) := by decide +kernel
theorem dX6_tellsDay_42 : decode cX6_tellsDay 42 = .ok (.return_, 1) := by decide +kernel
theorem dX6_alikeWith_0 : decode cX6_alikeWith 0 = .ok (.iconst 0, 1) := by decide +kernel
theorem dX6_alikeWith_1 : decode cX6_alikeWith 1 = .ok (.istore_n 2, 1) := by decide +kernel
theorem dX6_alikeWith_2 : decode cX6_alikeWith 2 = .ok (.iconst 0, 1) := by decide +kernel
theorem dX6_alikeWith_3 : decode cX6_alikeWith 3 = .ok (.istore_n 3, 1) := by decide +kernel
theorem dX6_alikeWith_4 : decode cX6_alikeWith 4 = .ok (.iload_n 3, 1) := by decide +kernel
theorem dX6_alikeWith_5 : decode cX6_alikeWith 5 = .ok (.bipush 24, 2) := by decide +kernel
theorem dX6_alikeWith_7 : decode cX6_alikeWith 7 = .ok (.if_icmp .ge 32, 3) := by decide +kernel
theorem dX6_alikeWith_10 : decode cX6_alikeWith 10 = .ok (.iload_n 2, 1) := by decide +kernel
theorem dX6_alikeWith_11 : decode cX6_alikeWith 11 = .ok (.aload_n 0, 1) := by decide +kernel
theorem dX6_alikeWith_12 : decode cX6_alikeWith 12 = .ok (.getfield 64, 3) := by decide +kernel
theorem dX6_alikeWith_15 : decode cX6_alikeWith 15 = .ok (.iload_n 3, 1) := by decide +kernel
theorem dX6_alikeWith_16 : decode cX6_alikeWith 16 = .ok (.iaload, 1) := by decide +kernel
theorem dX6_alikeWith_17 : decode cX6_alikeWith 17 = .ok (.aload_n 0, 1) := by decide +kernel
theorem dX6_alikeWith_18 : decode cX6_alikeWith 18 = .ok (.getfield 64, 3) := by decide +kernel
theorem dX6_alikeWith_21 : decode cX6_alikeWith 21 = .ok (.iload_n 1, 1) := by decide +kernel
theorem dX6_alikeWith_22 : decode cX6_alikeWith 22 = .ok (.iaload, 1) := by decide +kernel
theorem dX6_alikeWith_23 : decode cX6_alikeWith 23 = .ok (.if_icmp .ne 7, 3) := by decide +kernel
theorem dX6_alikeWith_26 : decode cX6_alikeWith 26 = .ok (.iconst 1, 1) := by decide +kernel
theorem dX6_alikeWith_27 : decode cX6_alikeWith 27 = .ok (.goto 4, 3) := by decide +kernel
theorem dX6_alikeWith_30 : decode cX6_alikeWith 30 = .ok (.iconst 0, 1) := by decide +kernel
theorem dX6_alikeWith_31 : decode cX6_alikeWith 31 = .ok (.iadd, 1) := by decide +kernel
theorem dX6_alikeWith_32 : decode cX6_alikeWith 32 = .ok (.istore_n 2, 1) := by decide +kernel
theorem dX6_alikeWith_33 : decode cX6_alikeWith 33 = .ok (.iinc 3 1, 3) := by decide +kernel
theorem dX6_alikeWith_36 : decode cX6_alikeWith 36 = .ok (.goto (-32), 3) := by decide +kernel
theorem dX6_alikeWith_39 : decode cX6_alikeWith 39 = .ok (.iload_n 2, 1) := by decide +kernel
theorem dX6_alikeWith_40 : decode cX6_alikeWith 40 = .ok (.ireturn, 1) := by decide +kernel
theorem dX6_alone_0 : decode cX6_alone 0 = .ok (.iconst 0, 1) := by decide +kernel
theorem dX6_alone_1 : decode cX6_alone 1 = .ok (.istore_n 1, 1) := by decide +kernel
theorem dX6_alone_2 : decode cX6_alone 2 = .ok (.iconst 0, 1) := by decide +kernel
theorem dX6_alone_3 : decode cX6_alone 3 = .ok (.istore_n 2, 1) := by decide +kernel
theorem dX6_alone_4 : decode cX6_alone 4 = .ok (.iload_n 2, 1) := by decide +kernel
theorem dX6_alone_5 : decode cX6_alone 5 = .ok (.bipush 24, 2) := by decide +kernel
theorem dX6_alone_7 : decode cX6_alone 7 = .ok (.if_icmp .ge 26, 3) := by decide +kernel
theorem dX6_alone_10 : decode cX6_alone 10 = .ok (.iload_n 1, 1) := by decide +kernel
theorem dX6_alone_11 : decode cX6_alone 11 = .ok (.aload_n 0, 1) := by decide +kernel
theorem dX6_alone_12 : decode cX6_alone 12 = .ok (.iload_n 2, 1) := by decide +kernel
theorem dX6_alone_13 : decode cX6_alone 13 = .ok (.invokevirtual 208, 3) := by decide +kernel
theorem dX6_alone_16 : decode cX6_alone 16 = .ok (.iconst 1, 1) := by decide +kernel
theorem dX6_alone_17 : decode cX6_alone 17 = .ok (.if_icmp .ne 7, 3) := by decide +kernel
theorem dX6_alone_20 : decode cX6_alone 20 = .ok (.iconst 1, 1) := by decide +kernel
theorem dX6_alone_21 : decode cX6_alone 21 = .ok (.goto 4, 3) := by decide +kernel
theorem dX6_alone_24 : decode cX6_alone 24 = .ok (.iconst 0, 1) := by decide +kernel
theorem dX6_alone_25 : decode cX6_alone 25 = .ok (.iadd, 1) := by decide +kernel
theorem dX6_alone_26 : decode cX6_alone 26 = .ok (.istore_n 1, 1) := by decide +kernel
theorem dX6_alone_27 : decode cX6_alone 27 = .ok (.iinc 2 1, 3) := by decide +kernel
theorem dX6_alone_30 : decode cX6_alone 30 = .ok (.goto (-26), 3) := by decide +kernel
theorem dX6_alone_33 : decode cX6_alone 33 = .ok (.iload_n 1, 1) := by decide +kernel
theorem dX6_alone_34 : decode cX6_alone 34 = .ok (.ireturn, 1) := by decide +kernel
theorem dX6_longestRow_0 : decode cX6_longestRow 0 = .ok (.iconst 0, 1) := by decide +kernel
theorem dX6_longestRow_1 : decode cX6_longestRow 1 = .ok (.istore_n 1, 1) := by decide +kernel
theorem dX6_longestRow_2 : decode cX6_longestRow 2 = .ok (.iconst 0, 1) := by decide +kernel
theorem dX6_longestRow_3 : decode cX6_longestRow 3 = .ok (.istore_n 2, 1) := by decide +kernel
theorem dX6_longestRow_4 : decode cX6_longestRow 4 = .ok (.iconst 0, 1) := by decide +kernel
theorem dX6_longestRow_5 : decode cX6_longestRow 5 = .ok (.istore_n 3, 1) := by decide +kernel
theorem dX6_longestRow_6 : decode cX6_longestRow 6 = .ok (.iload_n 3, 1) := by decide +kernel
theorem dX6_longestRow_7 : decode cX6_longestRow 7 = .ok (.bipush 24, 2) := by decide +kernel
theorem dX6_longestRow_9 : decode cX6_longestRow 9 = .ok (.if_icmp .ge 73, 3) := by decide +kernel
theorem dX6_longestRow_12 : decode cX6_longestRow 12 = .ok (.iload_n 3, 1) := by decide +kernel
theorem dX6_longestRow_13 : decode cX6_longestRow 13 = .ok (.ifCond .le 7, 3) := by decide +kernel
theorem dX6_longestRow_16 : decode cX6_longestRow 16 = .ok (.iconst 1, 1) := by decide +kernel
theorem dX6_longestRow_17 : decode cX6_longestRow 17 = .ok (.goto 4, 3) := by decide +kernel
theorem dX6_longestRow_20 : decode cX6_longestRow 20 = .ok (.iconst 0, 1) := by decide +kernel
theorem dX6_longestRow_21 : decode cX6_longestRow 21 = .ok (.istore 4, 2) := by decide +kernel
theorem dX6_longestRow_23 : decode cX6_longestRow 23 = .ok (.iload 4, 2) := by decide +kernel
theorem dX6_longestRow_25 : decode cX6_longestRow 25 = .ok (.ifCond .eq 27, 3) := by decide +kernel
theorem dX6_longestRow_28 : decode cX6_longestRow 28 = .ok (.aload_n 0, 1) := by decide +kernel
theorem dX6_longestRow_29 : decode cX6_longestRow 29 = .ok (.getfield 64, 3) := by decide +kernel
theorem dX6_longestRow_32 : decode cX6_longestRow 32 = .ok (.iload_n 3, 1) := by decide +kernel
theorem dX6_longestRow_33 : decode cX6_longestRow 33 = .ok (.iaload, 1) := by decide +kernel
theorem dX6_longestRow_34 : decode cX6_longestRow 34 = .ok (.aload_n 0, 1) := by decide +kernel
theorem dX6_longestRow_35 : decode cX6_longestRow 35 = .ok (.getfield 64, 3) := by decide +kernel
theorem dX6_longestRow_38 : decode cX6_longestRow 38 = .ok (.iload_n 3, 1) := by decide +kernel
theorem dX6_longestRow_39 : decode cX6_longestRow 39 = .ok (.iconst 1, 1) := by decide +kernel
theorem dX6_longestRow_40 : decode cX6_longestRow 40 = .ok (.isub, 1) := by decide +kernel
theorem dX6_longestRow_41 : decode cX6_longestRow 41 = .ok (.iaload, 1) := by decide +kernel
theorem dX6_longestRow_42 : decode cX6_longestRow 42 = .ok (.if_icmp .ne 7, 3) := by decide +kernel
theorem dX6_longestRow_45 : decode cX6_longestRow 45 = .ok (.iconst 1, 1) := by decide +kernel
theorem dX6_longestRow_46 : decode cX6_longestRow 46 = .ok (.goto 4, 3) := by decide +kernel
theorem dX6_longestRow_49 : decode cX6_longestRow 49 = .ok (.iconst 0, 1) := by decide +kernel
theorem dX6_longestRow_50 : decode cX6_longestRow 50 = .ok (.istore 4, 2) := by decide +kernel
theorem dX6_longestRow_52 : decode cX6_longestRow 52 = .ok (.iload 4, 2) := by decide +kernel
theorem dX6_longestRow_54 : decode cX6_longestRow 54 = .ok (.ifCond .eq 9, 3) := by decide +kernel
theorem dX6_longestRow_57 : decode cX6_longestRow 57 = .ok (.iload_n 2, 1) := by decide +kernel
theorem dX6_longestRow_58 : decode cX6_longestRow 58 = .ok (.iconst 1, 1) := by decide +kernel
theorem dX6_longestRow_59 : decode cX6_longestRow 59 = .ok (.iadd, 1) := by decide +kernel
theorem dX6_longestRow_60 : decode cX6_longestRow 60 = .ok (.goto 4, 3) := by decide +kernel
theorem dX6_longestRow_63 : decode cX6_longestRow 63 = .ok (.iconst 1, 1) := by decide +kernel
theorem dX6_longestRow_64 : decode cX6_longestRow 64 = .ok (.istore_n 2, 1) := by decide +kernel
theorem dX6_longestRow_65 : decode cX6_longestRow 65 = .ok (.iload_n 2, 1) := by decide +kernel
theorem dX6_longestRow_66 : decode cX6_longestRow 66 = .ok (.iload_n 1, 1) := by decide +kernel
theorem dX6_longestRow_67 : decode cX6_longestRow 67 = .ok (.if_icmp .le 7, 3) := by decide +kernel
theorem dX6_longestRow_70 : decode cX6_longestRow 70 = .ok (.iload_n 2, 1) := by decide +kernel
theorem dX6_longestRow_71 : decode cX6_longestRow 71 = .ok (.goto 4, 3) := by decide +kernel
theorem dX6_longestRow_74 : decode cX6_longestRow 74 = .ok (.iload_n 1, 1) := by decide +kernel
theorem dX6_longestRow_75 : decode cX6_longestRow 75 = .ok (.istore_n 1, 1) := by decide +kernel
theorem dX6_longestRow_76 : decode cX6_longestRow 76 = .ok (.iinc 3 1, 3) := by decide +kernel
theorem dX6_longestRow_79 : decode cX6_longestRow 79 = .ok (.goto (-73), 3) := by decide +kernel
theorem dX6_longestRow_82 : decode cX6_longestRow 82 = .ok (.iload_n 1, 1) := by decide +kernel
theorem dX6_longestRow_83 : decode cX6_longestRow 83 = .ok (.ireturn, 1) := by decide +kernel
theorem dX6_mostHour_0 : decode cX6_mostHour 0 = .ok (.iconst 0, 1) := by decide +kernel
theorem dX6_mostHour_1 : decode cX6_mostHour 1 = .ok (.istore_n 1, 1) := by decide +kernel
theorem dX6_mostHour_2 : decode cX6_mostHour 2 = .ok (.iconst 1, 1) := by decide +kernel
theorem dX6_mostHour_3 : decode cX6_mostHour 3 = .ok (.istore_n 2, 1) := by decide +kernel
theorem dX6_mostHour_4 : decode cX6_mostHour 4 = .ok (.iload_n 2, 1) := by decide +kernel
theorem dX6_mostHour_5 : decode cX6_mostHour 5 = .ok (.bipush 24, 2) := by decide +kernel
theorem dX6_mostHour_7 : decode cX6_mostHour 7 = .ok (.if_icmp .ge 30, 3) := by decide +kernel
theorem dX6_mostHour_10 : decode cX6_mostHour 10 = .ok (.aload_n 0, 1) := by decide +kernel
theorem dX6_mostHour_11 : decode cX6_mostHour 11 = .ok (.getfield 64, 3) := by decide +kernel
theorem dX6_mostHour_14 : decode cX6_mostHour 14 = .ok (.iload_n 2, 1) := by decide +kernel
theorem dX6_mostHour_15 : decode cX6_mostHour 15 = .ok (.iaload, 1) := by decide +kernel
theorem dX6_mostHour_16 : decode cX6_mostHour 16 = .ok (.aload_n 0, 1) := by decide +kernel
theorem dX6_mostHour_17 : decode cX6_mostHour 17 = .ok (.getfield 64, 3) := by decide +kernel
theorem dX6_mostHour_20 : decode cX6_mostHour 20 = .ok (.iload_n 1, 1) := by decide +kernel
theorem dX6_mostHour_21 : decode cX6_mostHour 21 = .ok (.iaload, 1) := by decide +kernel
theorem dX6_mostHour_22 : decode cX6_mostHour 22 = .ok (.if_icmp .le 7, 3) := by decide +kernel
theorem dX6_mostHour_25 : decode cX6_mostHour 25 = .ok (.iload_n 2, 1) := by decide +kernel
theorem dX6_mostHour_26 : decode cX6_mostHour 26 = .ok (.goto 4, 3) := by decide +kernel
theorem dX6_mostHour_29 : decode cX6_mostHour 29 = .ok (.iload_n 1, 1) := by decide +kernel
theorem dX6_mostHour_30 : decode cX6_mostHour 30 = .ok (.istore_n 1, 1) := by decide +kernel
theorem dX6_mostHour_31 : decode cX6_mostHour 31 = .ok (.iinc 2 1, 3) := by decide +kernel
theorem dX6_mostHour_34 : decode cX6_mostHour 34 = .ok (.goto (-30), 3) := by decide +kernel
theorem dX6_mostHour_37 : decode cX6_mostHour 37 = .ok (.iload_n 1, 1) := by decide +kernel
theorem dX6_mostHour_38 : decode cX6_mostHour 38 = .ok (.ireturn, 1) := by decide +kernel
theorem dX6_silent_0 : decode cX6_silent 0 = .ok (.iconst 0, 1) := by decide +kernel
theorem dX6_silent_1 : decode cX6_silent 1 = .ok (.istore_n 1, 1) := by decide +kernel
theorem dX6_silent_2 : decode cX6_silent 2 = .ok (.iconst 0, 1) := by decide +kernel
theorem dX6_silent_3 : decode cX6_silent 3 = .ok (.istore_n 2, 1) := by decide +kernel
theorem dX6_silent_4 : decode cX6_silent 4 = .ok (.iload_n 2, 1) := by decide +kernel
theorem dX6_silent_5 : decode cX6_silent 5 = .ok (.bipush 24, 2) := by decide +kernel
theorem dX6_silent_7 : decode cX6_silent 7 = .ok (.if_icmp .ge 26, 3) := by decide +kernel
theorem dX6_silent_10 : decode cX6_silent 10 = .ok (.iload_n 1, 1) := by decide +kernel
theorem dX6_silent_11 : decode cX6_silent 11 = .ok (.aload_n 0, 1) := by decide +kernel
theorem dX6_silent_12 : decode cX6_silent 12 = .ok (.getfield 64, 3) := by decide +kernel
theorem dX6_silent_15 : decode cX6_silent 15 = .ok (.iload_n 2, 1) := by decide +kernel
theorem dX6_silent_16 : decode cX6_silent 16 = .ok (.iaload, 1) := by decide +kernel
theorem dX6_silent_17 : decode cX6_silent 17 = .ok (.ifCond .ne 7, 3) := by decide +kernel
theorem dX6_silent_20 : decode cX6_silent 20 = .ok (.iconst 1, 1) := by decide +kernel
theorem dX6_silent_21 : decode cX6_silent 21 = .ok (.goto 4, 3) := by decide +kernel
theorem dX6_silent_24 : decode cX6_silent 24 = .ok (.iconst 0, 1) := by decide +kernel
theorem dX6_silent_25 : decode cX6_silent 25 = .ok (.iadd, 1) := by decide +kernel
theorem dX6_silent_26 : decode cX6_silent 26 = .ok (.istore_n 1, 1) := by decide +kernel
theorem dX6_silent_27 : decode cX6_silent 27 = .ok (.iinc 2 1, 3) := by decide +kernel
theorem dX6_silent_30 : decode cX6_silent 30 = .ok (.goto (-26), 3) := by decide +kernel
theorem dX6_silent_33 : decode cX6_silent 33 = .ok (.iload_n 1, 1) := by decide +kernel
theorem dX6_silent_34 : decode cX6_silent 34 = .ok (.ireturn, 1) := by decide +kernel
theorem dX6_dial_0 : decode cX6_dial 0 = .ok (.iload_n 1, 1) := by decide +kernel
theorem dX6_dial_1 : decode cX6_dial 1 = .ok (.iconst 0, 1) := by decide +kernel
theorem dX6_dial_2 : decode cX6_dial 2 = .ok (.iconst 4, 1) := by decide +kernel
theorem dX6_dial_3 : decode cX6_dial 3 = .ok (.invokestatic 81, 3) := by decide +kernel
theorem dX6_dial_6 : decode cX6_dial 6 = .ok (.ifCond .ne 6, 3) := by decide +kernel
theorem dX6_dial_9 : decode cX6_dial 9 = .ok (.bipush (-2), 2) := by decide +kernel
theorem dX6_dial_11 : decode cX6_dial 11 = .ok (.ireturn, 1) := by decide +kernel
theorem dX6_dial_12 : decode cX6_dial 12 = .ok (.aload_n 0, 1) := by decide +kernel
theorem dX6_dial_13 : decode cX6_dial 13 = .ok (.invokevirtual 211, 3) := by decide +kernel
theorem dX6_dial_16 : decode cX6_dial 16 = .ok (.iload_n 1, 1) := by decide +kernel
theorem dX6_dial_17 : decode cX6_dial 17 = .ok (.tableswitch 56 0 3 #[31, 36, 41, 46], 31) := by decide +kernel
theorem dX6_dial_48 : decode cX6_dial 48 = .ok (.aload_n 0, 1) := by decide +kernel
theorem dX6_dial_49 : decode cX6_dial 49 = .ok (.invokevirtual 214, 3) := by decide +kernel
theorem dX6_dial_52 : decode cX6_dial 52 = .ok (.ireturn, 1) := by decide +kernel
theorem dX6_dial_53 : decode cX6_dial 53 = .ok (.aload_n 0, 1) := by decide +kernel
theorem dX6_dial_54 : decode cX6_dial 54 = .ok (.invokevirtual 217, 3) := by decide +kernel
theorem dX6_dial_57 : decode cX6_dial 57 = .ok (.ireturn, 1) := by decide +kernel
theorem dX6_dial_58 : decode cX6_dial 58 = .ok (.aload_n 0, 1) := by decide +kernel
theorem dX6_dial_59 : decode cX6_dial 59 = .ok (.invokevirtual 220, 3) := by decide +kernel
theorem dX6_dial_62 : decode cX6_dial 62 = .ok (.ireturn, 1) := by decide +kernel
theorem dX6_dial_63 : decode cX6_dial 63 = .ok (.aload_n 0, 1) := by decide +kernel
theorem dX6_dial_64 : decode cX6_dial 64 = .ok (.getfield 64, 3) := by decide +kernel
theorem dX6_dial_67 : decode cX6_dial 67 = .ok (.aload_n 0, 1) := by decide +kernel
theorem dX6_dial_68 : decode cX6_dial 68 = .ok (.invokevirtual 223, 3) := by decide +kernel
theorem dX6_dial_71 : decode cX6_dial 71 = .ok (.iaload, 1) := by decide +kernel
theorem dX6_dial_72 : decode cX6_dial 72 = .ok (.ireturn, 1) := by decide +kernel
theorem dX6_dial_73 : decode cX6_dial 73 = .ok (.aload_n 0, 1) := by decide +kernel
theorem dX6_dial_74 : decode cX6_dial 74 = .ok (.invokevirtual 223, 3) := by decide +kernel
theorem dX6_dial_77 : decode cX6_dial 77 = .ok (.ireturn, 1) := by decide +kernel
theorem dX6_hush_0 : decode cX6_hush 0 = .ok (.iload_n 1, 1) := by decide +kernel
theorem dX6_hush_1 : decode cX6_hush 1 = .ok (.iconst 0, 1) := by decide +kernel
theorem dX6_hush_2 : decode cX6_hush 2 = .ok (.iconst 1, 1) := by decide +kernel
theorem dX6_hush_3 : decode cX6_hush 3 = .ok (.invokestatic 81, 3) := by decide +kernel
theorem dX6_hush_6 : decode cX6_hush 6 = .ok (.ifCond .ne 6, 3) := by decide +kernel
theorem dX6_hush_9 : decode cX6_hush 9 = .ok (.bipush (-2), 2) := by decide +kernel
theorem dX6_hush_11 : decode cX6_hush 11 = .ok (.ireturn, 1) := by decide +kernel
theorem dX6_hush_12 : decode cX6_hush 12 = .ok (.aload_n 0, 1) := by decide +kernel
theorem dX6_hush_13 : decode cX6_hush 13 = .ok (.invokevirtual 211, 3) := by decide +kernel
theorem dX6_hush_16 : decode cX6_hush 16 = .ok (.iconst (-1), 1) := by decide +kernel
theorem dX6_hush_17 : decode cX6_hush 17 = .ok (.istore_n 2, 1) := by decide +kernel
theorem dX6_hush_18 : decode cX6_hush 18 = .ok (.aload_n 0, 1) := by decide +kernel
theorem dX6_hush_19 : decode cX6_hush 19 = .ok (.invokevirtual 214, 3) := by decide +kernel
theorem dX6_hush_22 : decode cX6_hush 22 = .ok (.istore_n 3, 1) := by decide +kernel
theorem dX6_hush_23 : decode cX6_hush 23 = .ok (.iconst 0, 1) := by decide +kernel
theorem dX6_hush_24 : decode cX6_hush 24 = .ok (.istore 4, 2) := by decide +kernel
theorem dX6_hush_26 : decode cX6_hush 26 = .ok (.iload 4, 2) := by decide +kernel
theorem dX6_hush_28 : decode cX6_hush 28 = .ok (.aload_n 0, 1) := by decide +kernel
theorem dX6_hush_29 : decode cX6_hush 29 = .ok (.getfield 78, 3) := by decide +kernel
theorem dX6_hush_32 : decode cX6_hush 32 = .ok (.if_icmp .ge 93, 3) := by decide +kernel
theorem dX6_hush_35 : decode cX6_hush 35 = .ok (.aload_n 0, 1) := by decide +kernel
theorem dX6_hush_36 : decode cX6_hush 36 = .ok (.getfield 16, 3) := by decide +kernel
theorem dX6_hush_39 : decode cX6_hush 39 = .ok (.iconst 4, 1) := by decide +kernel
theorem dX6_hush_40 : decode cX6_hush 40 = .ok (.iload 4, 2) := by decide +kernel
theorem dX6_hush_42 : decode cX6_hush 42 = .ok (.imul, 1) := by decide +kernel
theorem dX6_hush_43 : decode cX6_hush 43 = .ok (.iconst 3, 1) := by decide +kernel
theorem dX6_hush_44 : decode cX6_hush 44 = .ok (.iadd, 1) := by decide +kernel
theorem dX6_hush_45 : decode cX6_hush 45 = .ok (.iconst 1, 1) := by decide +kernel
theorem dX6_hush_46 : decode cX6_hush 46 = .ok (.aload_n 0, 1) := by decide +kernel
theorem dX6_hush_47 : decode cX6_hush 47 = .ok (.getfield 16, 3) := by decide +kernel
theorem dX6_hush_50 : decode cX6_hush 50 = .ok (.iconst 4, 1) := by decide +kernel
theorem dX6_hush_51 : decode cX6_hush 51 = .ok (.iload 4, 2) := by decide +kernel
theorem dX6_hush_53 : decode cX6_hush 53 = .ok (.imul, 1) := by decide +kernel
theorem dX6_hush_54 : decode cX6_hush 54 = .ok (.iconst 3, 1) := by decide +kernel
theorem dX6_hush_55 : decode cX6_hush 55 = .ok (.iadd, 1) := by decide +kernel
theorem dX6_hush_56 : decode cX6_hush 56 = .ok (.iaload, 1) := by decide +kernel
theorem dX6_hush_57 : decode cX6_hush 57 = .ok (.isub, 1) := by decide +kernel
theorem dX6_hush_58 : decode cX6_hush 58 = .ok (.iastore, 1) := by decide +kernel
theorem dX6_hush_59 : decode cX6_hush 59 = .ok (.aload_n 0, 1) := by decide +kernel
theorem dX6_hush_60 : decode cX6_hush 60 = .ok (.invokevirtual 211, 3) := by decide +kernel
theorem dX6_hush_63 : decode cX6_hush 63 = .ok (.aload_n 0, 1) := by decide +kernel
theorem dX6_hush_64 : decode cX6_hush 64 = .ok (.getfield 16, 3) := by decide +kernel
theorem dX6_hush_67 : decode cX6_hush 67 = .ok (.iconst 4, 1) := by decide +kernel
theorem dX6_hush_68 : decode cX6_hush 68 = .ok (.iload 4, 2) := by decide +kernel
theorem dX6_hush_70 : decode cX6_hush 70 = .ok (.imul, 1) := by decide +kernel
theorem dX6_hush_71 : decode cX6_hush 71 = .ok (.iconst 3, 1) := by decide +kernel
theorem dX6_hush_72 : decode cX6_hush 72 = .ok (.iadd, 1) := by decide +kernel
theorem dX6_hush_73 : decode cX6_hush 73 = .ok (.iconst 1, 1) := by decide +kernel
theorem dX6_hush_74 : decode cX6_hush 74 = .ok (.aload_n 0, 1) := by decide +kernel
theorem dX6_hush_75 : decode cX6_hush 75 = .ok (.getfield 16, 3) := by decide +kernel
theorem dX6_hush_78 : decode cX6_hush 78 = .ok (.iconst 4, 1) := by decide +kernel
theorem dX6_hush_79 : decode cX6_hush 79 = .ok (.iload 4, 2) := by decide +kernel
theorem dX6_hush_81 : decode cX6_hush 81 = .ok (.imul, 1) := by decide +kernel
theorem dX6_hush_82 : decode cX6_hush 82 = .ok (.iconst 3, 1) := by decide +kernel
theorem dX6_hush_83 : decode cX6_hush 83 = .ok (.iadd, 1) := by decide +kernel
theorem dX6_hush_84 : decode cX6_hush 84 = .ok (.iaload, 1) := by decide +kernel
theorem dX6_hush_85 : decode cX6_hush 85 = .ok (.isub, 1) := by decide +kernel
theorem dX6_hush_86 : decode cX6_hush 86 = .ok (.iastore, 1) := by decide +kernel
theorem dX6_hush_87 : decode cX6_hush 87 = .ok (.aload_n 0, 1) := by decide +kernel
theorem dX6_hush_88 : decode cX6_hush 88 = .ok (.invokevirtual 214, 3) := by decide +kernel
theorem dX6_hush_91 : decode cX6_hush 91 = .ok (.istore 5, 2) := by decide +kernel
theorem dX6_hush_93 : decode cX6_hush 93 = .ok (.iload 5, 2) := by decide +kernel
theorem dX6_hush_95 : decode cX6_hush 95 = .ok (.iload_n 3, 1) := by decide +kernel
theorem dX6_hush_96 : decode cX6_hush 96 = .ok (.if_icmp .le 8, 3) := by decide +kernel
theorem dX6_hush_99 : decode cX6_hush 99 = .ok (.iload 4, 2) := by decide +kernel
theorem dX6_hush_101 : decode cX6_hush 101 = .ok (.goto 4, 3) := by decide +kernel
theorem dX6_hush_104 : decode cX6_hush 104 = .ok (.iload_n 2, 1) := by decide +kernel
theorem dX6_hush_105 : decode cX6_hush 105 = .ok (.istore_n 2, 1) := by decide +kernel
theorem dX6_hush_106 : decode cX6_hush 106 = .ok (.iload 5, 2) := by decide +kernel
theorem dX6_hush_108 : decode cX6_hush 108 = .ok (.iload_n 3, 1) := by decide +kernel
theorem dX6_hush_109 : decode cX6_hush 109 = .ok (.if_icmp .le 8, 3) := by decide +kernel
theorem dX6_hush_112 : decode cX6_hush 112 = .ok (.iload 5, 2) := by decide +kernel
theorem dX6_hush_114 : decode cX6_hush 114 = .ok (.goto 4, 3) := by decide +kernel
theorem dX6_hush_117 : decode cX6_hush 117 = .ok (.iload_n 3, 1) := by decide +kernel
theorem dX6_hush_118 : decode cX6_hush 118 = .ok (.istore_n 3, 1) := by decide +kernel
theorem dX6_hush_119 : decode cX6_hush 119 = .ok (.iinc 4 1, 3) := by decide +kernel
theorem dX6_hush_122 : decode cX6_hush 122 = .ok (.goto (-96), 3) := by decide +kernel
theorem dX6_hush_125 : decode cX6_hush 125 = .ok (.iload_n 1, 1) := by decide +kernel
theorem dX6_hush_126 : decode cX6_hush 126 = .ok (.ifCond .ne 7, 3) := by decide +kernel
theorem dX6_hush_129 : decode cX6_hush 129 = .ok (.iload_n 2, 1) := by decide +kernel
theorem dX6_hush_130 : decode cX6_hush 130 = .ok (.goto 4, 3) := by decide +kernel
theorem dX6_hush_133 : decode cX6_hush 133 = .ok (.iload_n 3, 1) := by decide +kernel
theorem dX6_hush_134 : decode cX6_hush 134 = .ok (.ireturn, 1) := by decide +kernel
theorem dX6_council_0 : decode cX6_council 0 = .ok (.iload_n 1, 1) := by decide +kernel
theorem dX6_council_1 : decode cX6_council 1 = .ok (.iconst 0, 1) := by decide +kernel
theorem dX6_council_2 : decode cX6_council 2 = .ok (.bipush 24, 2) := by decide +kernel
theorem dX6_council_4 : decode cX6_council 4 = .ok (.invokestatic 81, 3) := by decide +kernel
theorem dX6_council_7 : decode cX6_council 7 = .ok (.ifCond .eq 23, 3) := by decide +kernel
theorem dX6_council_10 : decode cX6_council 10 = .ok (.iload_n 2, 1) := by decide +kernel
theorem dX6_council_11 : decode cX6_council 11 = .ok (.iconst 0, 1) := by decide +kernel
theorem dX6_council_12 : decode cX6_council 12 = .ok (.sipush 999, 3) := by decide +kernel
theorem dX6_council_15 : decode cX6_council 15 = .ok (.invokestatic 81, 3) := by decide +kernel
theorem dX6_council_18 : decode cX6_council 18 = .ok (.ifCond .eq 12, 3) := by decide +kernel
theorem dX6_council_21 : decode cX6_council 21 = .ok (.iload_n 3, 1) := by decide +kernel
theorem dX6_council_22 : decode cX6_council 22 = .ok (.iconst 0, 1) := by decide +kernel
theorem dX6_council_23 : decode cX6_council 23 = .ok (.iconst 1, 1) := by decide +kernel
theorem dX6_council_24 : decode cX6_council 24 = .ok (.invokestatic 81, 3) := by decide +kernel
theorem dX6_council_27 : decode cX6_council 27 = .ok (.ifCond .ne 6, 3) := by decide +kernel
theorem dX6_council_30 : decode cX6_council 30 = .ok (.bipush (-2), 2) := by decide +kernel
theorem dX6_council_32 : decode cX6_council 32 = .ok (.ireturn, 1) := by decide +kernel
theorem dX6_council_33 : decode cX6_council 33 = .ok (.aload_n 0, 1) := by decide +kernel
theorem dX6_council_34 : decode cX6_council 34 = .ok (.invokevirtual 189, 3) := by decide +kernel
theorem dX6_council_37 : decode cX6_council 37 = .ok (.istore 4, 2) := by decide +kernel
theorem dX6_council_39 : decode cX6_council 39 = .ok (.iconst (-1), 1) := by decide +kernel
theorem dX6_council_40 : decode cX6_council 40 = .ok (.istore 5, 2) := by decide +kernel
theorem dX6_council_42 : decode cX6_council 42 = .ok (.iconst (-1), 1) := by decide +kernel
theorem dX6_council_43 : decode cX6_council 43 = .ok (.istore 6, 2) := by decide +kernel
theorem dX6_council_45 : decode cX6_council 45 = .ok (.aload_n 0, 1) := by decide +kernel
theorem dX6_council_46 : decode cX6_council 46 = .ok (.invokevirtual 199, 3) := by decide +kernel
theorem dX6_council_49 : decode cX6_council 49 = .ok (.iconst 0, 1) := by decide +kernel
theorem dX6_council_50 : decode cX6_council 50 = .ok (.istore 7, 2) := by decide +kernel
theorem dX6_council_52 : decode cX6_council 52 = .ok (.iload 7, 2) := by decide +kernel
theorem dX6_council_54 : decode cX6_council 54 = .ok (.iconst 1, 1) := by decide +kernel
theorem dX6_council_55 : decode cX6_council 55 = .ok (.aload_n 0, 1) := by decide +kernel
theorem dX6_council_56 : decode cX6_council 56 = .ok (.getfield 78, 3) := by decide +kernel
theorem dX6_council_59 : decode cX6_council 59 = .ok (.ishl, 1) := by decide +kernel
theorem dX6_council_60 : decode cX6_council 60 = .ok (.if_icmp .ge 153, 3) := by decide +kernel
theorem dX6_council_63 : decode cX6_council 63 = .ok (.iload 7, 2) := by decide +kernel
theorem dX6_council_65 : decode cX6_council 65 = .ok (.iload 4, 2) := by decide +kernel
theorem dX6_council_67 : decode cX6_council 67 = .ok (.iand, 1) := by decide +kernel
theorem dX6_council_68 : decode cX6_council 68 = .ok (.ifCond .ne 23, 3) := by decide +kernel
theorem dX6_council_71 : decode cX6_council 71 = .ok (.iload 5, 2) := by decide +kernel
theorem dX6_council_73 : decode cX6_council 73 = .ok (.iconst (-1), 1) := by decide +kernel
theorem dX6_council_74 : decode cX6_council 74 = .ok (.if_icmp .eq 13, 3) := by decide +kernel
theorem dX6_council_77 : decode cX6_council 77 = .ok (.iload 7, 2) := by decide +kernel
theorem dX6_council_79 : decode cX6_council 79 = .ok (.invokestatic 226, 3) := by decide +kernel
theorem dX6_council_82 : decode cX6_council 82 = .ok (.iload 6, 2) := by decide +kernel
theorem dX6_council_84 : decode cX6_council 84 = .ok (.if_icmp .ge 7, 3) := by decide +kernel
theorem dX6_council_87 : decode cX6_council 87 = .ok (.iconst 1, 1) := by decide +kernel
theorem dX6_council_88 : decode cX6_council 88 = .ok (.goto 4, 3) := by decide +kernel
theorem dX6_council_91 : decode cX6_council 91 = .ok (.iconst 0, 1) := by decide +kernel
theorem dX6_council_92 : decode cX6_council 92 = .ok (.istore 8, 2) := by decide +kernel
theorem dX6_council_94 : decode cX6_council 94 = .ok (.iload 8, 2) := by decide +kernel
theorem dX6_council_96 : decode cX6_council 96 = .ok (.ifCond .eq 111, 3) := by decide +kernel
theorem dX6_council_99 : decode cX6_council 99 = .ok (.iconst 0, 1) := by decide +kernel
theorem dX6_council_100 : decode cX6_council 100 = .ok (.istore 9, 2) := by decide +kernel
theorem dX6_council_102 : decode cX6_council 102 = .ok (.iload 9, 2) := by decide +kernel
theorem dX6_council_104 : decode cX6_council 104 = .ok (.aload_n 0, 1) := by decide +kernel
theorem dX6_council_105 : decode cX6_council 105 = .ok (.getfield 78, 3) := by decide +kernel
theorem dX6_council_108 : decode cX6_council 108 = .ok (.if_icmp .ge 39, 3) := by decide +kernel
theorem dX6_council_111 : decode cX6_council 111 = .ok (.aload_n 0, 1) := by decide +kernel
theorem dX6_council_112 : decode cX6_council 112 = .ok (.getfield 16, 3) := by decide +kernel
theorem dX6_council_115 : decode cX6_council 115 = .ok (.iconst 4, 1) := by decide +kernel
theorem dX6_council_116 : decode cX6_council 116 = .ok (.iload 9, 2) := by decide +kernel
theorem dX6_council_118 : decode cX6_council 118 = .ok (.imul, 1) := by decide +kernel
theorem dX6_council_119 : decode cX6_council 119 = .ok (.iconst 3, 1) := by decide +kernel
theorem dX6_council_120 : decode cX6_council 120 = .ok (.iadd, 1) := by decide +kernel
theorem dX6_council_121 : decode cX6_council 121 = .ok (.iload 7, 2) := by decide +kernel
theorem dX6_council_123 : decode cX6_council 123 = .ok (.iload 4, 2) := by decide +kernel
theorem dX6_council_125 : decode cX6_council 125 = .ok (.ior, 1) := by decide +kernel
theorem dX6_council_126 : decode cX6_council 126 = .ok (.iload 9, 2) := by decide +kernel
theorem dX6_council_128 : decode cX6_council 128 = .ok (.ishr, 1) := by decide +kernel
theorem dX6_council_129 : decode cX6_council 129 = .ok (.iconst 1, 1) := by decide +kernel
theorem dX6_council_130 : decode cX6_council 130 = .ok (.iand, 1) := by decide +kernel
theorem dX6_council_131 : decode cX6_council 131 = .ok (.iconst 1, 1) := by decide +kernel
theorem dX6_council_132 : decode cX6_council 132 = .ok (.if_icmp .ne 7, 3) := by decide +kernel
theorem dX6_council_135 : decode cX6_council 135 = .ok (.iconst 1, 1) := by decide +kernel
theorem dX6_council_136 : decode cX6_council 136 = .ok (.goto 4, 3) := by decide +kernel
theorem dX6_council_139 : decode cX6_council 139 = .ok (.iconst 0, 1) := by decide +kernel
theorem dX6_council_140 : decode cX6_council 140 = .ok (.iastore, 1) := by decide +kernel
theorem dX6_council_141 : decode cX6_council 141 = .ok (.iinc 9 1, 3) := by decide +kernel
theorem dX6_council_144 : decode cX6_council 144 = .ok (.goto (-42), 3) := by decide +kernel
theorem dX6_council_147 : decode cX6_council 147 = .ok (.aload_n 0, 1) := by decide +kernel
theorem dX6_council_148 : decode cX6_council 148 = .ok (.iload_n 1, 1) := by decide +kernel
theorem dX6_council_149 : decode cX6_council 149 = .ok (.invokevirtual 202, 3) := by decide +kernel
theorem dX6_council_152 : decode cX6_council 152 = .ok (.pop, 1) := by decide +kernel
theorem dX6_council_153 : decode cX6_council 153 = .ok (.aload_n 0, 1) := by decide +kernel
theorem dX6_council_154 : decode cX6_council 154 = .ok (.aload_n 0, 1) := by decide +kernel
theorem dX6_council_155 : decode cX6_council 155 = .ok (.invokevirtual 183, 3) := by decide +kernel
theorem dX6_council_158 : decode cX6_council 158 = .ok (.invokevirtual 186, 3) := by decide +kernel
theorem dX6_council_161 : decode cX6_council 161 = .ok (.iload_n 2, 1) := by decide +kernel
theorem dX6_council_162 : decode cX6_council 162 = .ok (.if_icmp .ne 7, 3) := by decide +kernel
theorem dX6_council_165 : decode cX6_council 165 = .ok (.iconst 1, 1) := by decide +kernel
theorem dX6_council_166 : decode cX6_council 166 = .ok (.goto 4, 3) := by decide +kernel
theorem dX6_council_169 : decode cX6_council 169 = .ok (.iconst 0, 1) := by decide +kernel
theorem dX6_council_170 : decode cX6_council 170 = .ok (.istore 9, 2) := by decide +kernel
theorem dX6_council_172 : decode cX6_council 172 = .ok (.aload_n 0, 1) := by decide +kernel
theorem dX6_council_173 : decode cX6_council 173 = .ok (.invokevirtual 205, 3) := by decide +kernel
theorem dX6_council_176 : decode cX6_council 176 = .ok (.iload 9, 2) := by decide +kernel
theorem dX6_council_178 : decode cX6_council 178 = .ok (.ifCond .eq 8, 3) := by decide +kernel
theorem dX6_council_181 : decode cX6_council 181 = .ok (.iload 7, 2) := by decide +kernel
theorem dX6_council_183 : decode cX6_council 183 = .ok (.goto 5, 3) := by decide +kernel
theorem dX6_council_186 : decode cX6_council 186 = .ok (.iload 5, 2) := by decide +kernel
theorem dX6_council_188 : decode cX6_council 188 = .ok (.istore 5, 2) := by decide +kernel
theorem dX6_council_190 : decode cX6_council 190 = .ok (.iload 9, 2) := by decide +kernel
theorem dX6_council_192 : decode cX6_council 192 = .ok (.ifCond .eq 11, 3) := by decide +kernel
theorem dX6_council_195 : decode cX6_council 195 = .ok (.iload 7, 2) := by decide +kernel
theorem dX6_council_197 : decode cX6_council 197 = .ok (.invokestatic 226, 3) := by decide +kernel
theorem dX6_council_200 : decode cX6_council 200 = .ok (.goto 5, 3) := by decide +kernel
theorem dX6_council_203 : decode cX6_council 203 = .ok (.iload 6, 2) := by decide +kernel
theorem dX6_council_205 : decode cX6_council 205 = .ok (.istore 6, 2) := by decide +kernel
theorem dX6_council_207 : decode cX6_council 207 = .ok (.iinc 7 1, 3) := by decide +kernel
theorem dX6_council_210 : decode cX6_council 210 = .ok (.goto (-158), 3) := by decide +kernel
theorem dX6_council_213 : decode cX6_council 213 = .ok (.iload_n 3, 1) := by decide +kernel
theorem dX6_council_214 : decode cX6_council 214 = .ok (.ifCond .ne 8, 3) := by decide +kernel
theorem dX6_council_217 : decode cX6_council 217 = .ok (.iload 5, 2) := by decide +kernel
theorem dX6_council_219 : decode cX6_council 219 = .ok (.goto 5, 3) := by decide +kernel
theorem dX6_council_222 : decode cX6_council 222 = .ok (.iload 6, 2) := by decide +kernel
theorem dX6_council_224 : decode cX6_council 224 = .ok (.ireturn, 1) := by decide +kernel
theorem dX6_lesson_0 : decode cX6_lesson 0 = .ok (.aload_n 0, 1) := by decide +kernel
theorem dX6_lesson_1 : decode cX6_lesson 1 = .ok (.iload_n 1, 1) := by decide +kernel
theorem dX6_lesson_2 : decode cX6_lesson 2 = .ok (.invokevirtual 164, 3) := by decide +kernel
theorem dX6_lesson_5 : decode cX6_lesson 5 = .ok (.ifCond .ne 6, 3) := by decide +kernel
theorem dX6_lesson_8 : decode cX6_lesson 8 = .ok (.bipush (-5), 2) := by decide +kernel
theorem dX6_lesson_10 : decode cX6_lesson 10 = .ok (.ireturn, 1) := by decide +kernel
theorem dX6_lesson_11 : decode cX6_lesson 11 = .ok (.iload_n 2, 1) := by decide +kernel
theorem dX6_lesson_12 : decode cX6_lesson 12 = .ok (.iconst 0, 1) := by decide +kernel
theorem dX6_lesson_13 : decode cX6_lesson 13 = .ok (.iconst 1, 1) := by decide +kernel
theorem dX6_lesson_14 : decode cX6_lesson 14 = .ok (.invokestatic 81, 3) := by decide +kernel
theorem dX6_lesson_17 : decode cX6_lesson 17 = .ok (.ifCond .ne 6, 3) := by decide +kernel
theorem dX6_lesson_20 : decode cX6_lesson 20 = .ok (.bipush (-7), 2) := by decide +kernel
theorem dX6_lesson_22 : decode cX6_lesson 22 = .ok (.ireturn, 1) := by decide +kernel
theorem dX6_lesson_23 : decode cX6_lesson 23 = .ok (.iconst (-1), 1) := by decide +kernel
theorem dX6_lesson_24 : decode cX6_lesson 24 = .ok (.istore_n 3, 1) := by decide +kernel
theorem dX6_lesson_25 : decode cX6_lesson 25 = .ok (.iconst (-1), 1) := by decide +kernel
theorem dX6_lesson_26 : decode cX6_lesson 26 = .ok (.istore 4, 2) := by decide +kernel
theorem dX6_lesson_28 : decode cX6_lesson 28 = .ok (.aload_n 0, 1) := by decide +kernel
theorem dX6_lesson_29 : decode cX6_lesson 29 = .ok (.invokevirtual 199, 3) := by decide +kernel
theorem dX6_lesson_32 : decode cX6_lesson 32 = .ok (.iconst 0, 1) := by decide +kernel
theorem dX6_lesson_33 : decode cX6_lesson 33 = .ok (.istore 5, 2) := by decide +kernel
theorem dX6_lesson_35 : decode cX6_lesson 35 = .ok (.iload 5, 2) := by decide +kernel
theorem dX6_lesson_37 : decode cX6_lesson 37 = .ok (.bipush 24, 2) := by decide +kernel
theorem dX6_lesson_39 : decode cX6_lesson 39 = .ok (.if_icmp .ge 68, 3) := by decide +kernel
theorem dX6_lesson_42 : decode cX6_lesson 42 = .ok (.aload_n 0, 1) := by decide +kernel
theorem dX6_lesson_43 : decode cX6_lesson 43 = .ok (.getfield 16, 3) := by decide +kernel
theorem dX6_lesson_46 : decode cX6_lesson 46 = .ok (.iconst 4, 1) := by decide +kernel
theorem dX6_lesson_47 : decode cX6_lesson 47 = .ok (.iload_n 1, 1) := by decide +kernel
theorem dX6_lesson_48 : decode cX6_lesson 48 = .ok (.imul, 1) := by decide +kernel
theorem dX6_lesson_49 : decode cX6_lesson 49 = .ok (.iconst 2, 1) := by decide +kernel
theorem dX6_lesson_50 : decode cX6_lesson 50 = .ok (.iadd, 1) := by decide +kernel
theorem dX6_lesson_51 : decode cX6_lesson 51 = .ok (.dup2, 1) := by decide +kernel
theorem dX6_lesson_52 : decode cX6_lesson 52 = .ok (.iaload, 1) := by decide +kernel
theorem dX6_lesson_53 : decode cX6_lesson 53 = .ok (.iconst 1, 1) := by decide +kernel
theorem dX6_lesson_54 : decode cX6_lesson 54 = .ok (.iload 5, 2) := by decide +kernel
theorem dX6_lesson_56 : decode cX6_lesson 56 = .ok (.ishl, 1) := by decide +kernel
theorem dX6_lesson_57 : decode cX6_lesson 57 = .ok (.ixor, 1) := by decide +kernel
theorem dX6_lesson_58 : decode cX6_lesson 58 = .ok (.iastore, 1) := by decide +kernel
theorem dX6_lesson_59 : decode cX6_lesson 59 = .ok (.aload_n 0, 1) := by decide +kernel
theorem dX6_lesson_60 : decode cX6_lesson 60 = .ok (.bipush 24, 2) := by decide +kernel
theorem dX6_lesson_62 : decode cX6_lesson 62 = .ok (.invokevirtual 202, 3) := by decide +kernel
theorem dX6_lesson_65 : decode cX6_lesson 65 = .ok (.istore 6, 2) := by decide +kernel
theorem dX6_lesson_67 : decode cX6_lesson 67 = .ok (.aload_n 0, 1) := by decide +kernel
theorem dX6_lesson_68 : decode cX6_lesson 68 = .ok (.invokevirtual 205, 3) := by decide +kernel
theorem dX6_lesson_71 : decode cX6_lesson 71 = .ok (.iload 6, 2) := by decide +kernel
theorem dX6_lesson_73 : decode cX6_lesson 73 = .ok (.iload 4, 2) := by decide +kernel
theorem dX6_lesson_75 : decode cX6_lesson 75 = .ok (.if_icmp .le 8, 3) := by decide +kernel
theorem dX6_lesson_78 : decode cX6_lesson 78 = .ok (.iload 5, 2) := by decide +kernel
theorem dX6_lesson_80 : decode cX6_lesson 80 = .ok (.goto 4, 3) := by decide +kernel
theorem dX6_lesson_83 : decode cX6_lesson 83 = .ok (.iload_n 3, 1) := by decide +kernel
theorem dX6_lesson_84 : decode cX6_lesson 84 = .ok (.istore_n 3, 1) := by decide +kernel
theorem dX6_lesson_85 : decode cX6_lesson 85 = .ok (.iload 6, 2) := by decide +kernel
theorem dX6_lesson_87 : decode cX6_lesson 87 = .ok (.iload 4, 2) := by decide +kernel
theorem dX6_lesson_89 : decode cX6_lesson 89 = .ok (.if_icmp .le 8, 3) := by decide +kernel
theorem dX6_lesson_92 : decode cX6_lesson 92 = .ok (.iload 6, 2) := by decide +kernel
theorem dX6_lesson_94 : decode cX6_lesson 94 = .ok (.goto 5, 3) := by decide +kernel
theorem dX6_lesson_97 : decode cX6_lesson 97 = .ok (.iload 4, 2) := by decide +kernel
theorem dX6_lesson_99 : decode cX6_lesson 99 = .ok (.istore 4, 2) := by decide +kernel
theorem dX6_lesson_101 : decode cX6_lesson 101 = .ok (.iinc 5 1, 3) := by decide +kernel
theorem dX6_lesson_104 : decode cX6_lesson 104 = .ok (.goto (-69), 3) := by decide +kernel
theorem dX6_lesson_107 : decode cX6_lesson 107 = .ok (.iload_n 2, 1) := by decide +kernel
theorem dX6_lesson_108 : decode cX6_lesson 108 = .ok (.ifCond .ne 7, 3) := by decide +kernel
theorem dX6_lesson_111 : decode cX6_lesson 111 = .ok (.iload_n 3, 1) := by decide +kernel
theorem dX6_lesson_112 : decode cX6_lesson 112 = .ok (.goto 5, 3) := by decide +kernel
theorem dX6_lesson_115 : decode cX6_lesson 115 = .ok (.iload 4, 2) := by decide +kernel
theorem dX6_lesson_117 : decode cX6_lesson 117 = .ok (.ireturn, 1) := by decide +kernel
theorem dX6_pair_0 : decode cX6_pair 0 = .ok (.iload_n 1, 1) := by decide +kernel
theorem dX6_pair_1 : decode cX6_pair 1 = .ok (.iconst 0, 1) := by decide +kernel
theorem dX6_pair_2 : decode cX6_pair 2 = .ok (.iconst 1, 1) := by decide +kernel
theorem dX6_pair_3 : decode cX6_pair 3 = .ok (.invokestatic 81, 3) := by decide +kernel
theorem dX6_pair_6 : decode cX6_pair 6 = .ok (.ifCond .ne 6, 3) := by decide +kernel
theorem dX6_pair_9 : decode cX6_pair 9 = .ok (.bipush (-2), 2) := by decide +kernel
theorem dX6_pair_11 : decode cX6_pair 11 = .ok (.ireturn, 1) := by decide +kernel
theorem dX6_pair_12 : decode cX6_pair 12 = .ok (.aload_n 0, 1) := by decide +kernel
theorem dX6_pair_13 : decode cX6_pair 13 = .ok (.invokevirtual 211, 3) := by decide +kernel
theorem dX6_pair_16 : decode cX6_pair 16 = .ok (.iconst (-1), 1) := by decide +kernel
theorem dX6_pair_17 : decode cX6_pair 17 = .ok (.istore_n 2, 1) := by decide +kernel
theorem dX6_pair_18 : decode cX6_pair 18 = .ok (.iconst (-1), 1) := by decide +kernel
theorem dX6_pair_19 : decode cX6_pair 19 = .ok (.istore_n 3, 1) := by decide +kernel
theorem dX6_pair_20 : decode cX6_pair 20 = .ok (.iconst 0, 1) := by decide +kernel
theorem dX6_pair_21 : decode cX6_pair 21 = .ok (.istore 4, 2) := by decide +kernel
theorem dX6_pair_23 : decode cX6_pair 23 = .ok (.iload 4, 2) := by decide +kernel
theorem dX6_pair_25 : decode cX6_pair 25 = .ok (.aload_n 0, 1) := by decide +kernel
theorem dX6_pair_26 : decode cX6_pair 26 = .ok (.getfield 78, 3) := by decide +kernel
theorem dX6_pair_29 : decode cX6_pair 29 = .ok (.if_icmp .ge 109, 3) := by decide +kernel
theorem dX6_pair_32 : decode cX6_pair 32 = .ok (.iload 4, 2) := by decide +kernel
theorem dX6_pair_34 : decode cX6_pair 34 = .ok (.iconst 1, 1) := by decide +kernel
theorem dX6_pair_35 : decode cX6_pair 35 = .ok (.iadd, 1) := by decide +kernel
theorem dX6_pair_36 : decode cX6_pair 36 = .ok (.istore 5, 2) := by decide +kernel
theorem dX6_pair_38 : decode cX6_pair 38 = .ok (.iload 5, 2) := by decide +kernel
theorem dX6_pair_40 : decode cX6_pair 40 = .ok (.aload_n 0, 1) := by decide +kernel
theorem dX6_pair_41 : decode cX6_pair 41 = .ok (.getfield 78, 3) := by decide +kernel
theorem dX6_pair_44 : decode cX6_pair 44 = .ok (.if_icmp .ge 88, 3) := by decide +kernel
theorem dX6_pair_47 : decode cX6_pair 47 = .ok (.iconst 0, 1) := by decide +kernel
theorem dX6_pair_48 : decode cX6_pair 48 = .ok (.istore 6, 2) := by decide +kernel
theorem dX6_pair_50 : decode cX6_pair 50 = .ok (.iconst 0, 1) := by decide +kernel
theorem dX6_pair_51 : decode cX6_pair 51 = .ok (.istore 7, 2) := by decide +kernel
theorem dX6_pair_53 : decode cX6_pair 53 = .ok (.iload 7, 2) := by decide +kernel
theorem dX6_pair_55 : decode cX6_pair 55 = .ok (.bipush 24, 2) := by decide +kernel
theorem dX6_pair_57 : decode cX6_pair 57 = .ok (.if_icmp .ge 37, 3) := by decide +kernel
theorem dX6_pair_60 : decode cX6_pair 60 = .ok (.iload 6, 2) := by decide +kernel
theorem dX6_pair_62 : decode cX6_pair 62 = .ok (.aload_n 0, 1) := by decide +kernel
theorem dX6_pair_63 : decode cX6_pair 63 = .ok (.getfield 67, 3) := by decide +kernel
theorem dX6_pair_66 : decode cX6_pair 66 = .ok (.iload 7, 2) := by decide +kernel
theorem dX6_pair_68 : decode cX6_pair 68 = .ok (.iaload, 1) := by decide +kernel
theorem dX6_pair_69 : decode cX6_pair 69 = .ok (.iload 4, 2) := by decide +kernel
theorem dX6_pair_71 : decode cX6_pair 71 = .ok (.ishr, 1) := by decide +kernel
theorem dX6_pair_72 : decode cX6_pair 72 = .ok (.aload_n 0, 1) := by decide +kernel
theorem dX6_pair_73 : decode cX6_pair 73 = .ok (.getfield 67, 3) := by decide +kernel
theorem dX6_pair_76 : decode cX6_pair 76 = .ok (.iload 7, 2) := by decide +kernel
theorem dX6_pair_78 : decode cX6_pair 78 = .ok (.iaload, 1) := by decide +kernel
theorem dX6_pair_79 : decode cX6_pair 79 = .ok (.iload 5, 2) := by decide +kernel
theorem dX6_pair_81 : decode cX6_pair 81 = .ok (.ishr, 1) := by decide +kernel
theorem dX6_pair_82 : decode cX6_pair 82 = .ok (.iand, 1) := by decide +kernel
theorem dX6_pair_83 : decode cX6_pair 83 = .ok (.iconst 1, 1) := by decide +kernel
theorem dX6_pair_84 : decode cX6_pair 84 = .ok (.iand, 1) := by decide +kernel
theorem dX6_pair_85 : decode cX6_pair 85 = .ok (.iadd, 1) := by decide +kernel
theorem dX6_pair_86 : decode cX6_pair 86 = .ok (.istore 6, 2) := by decide +kernel
theorem dX6_pair_88 : decode cX6_pair 88 = .ok (.iinc 7 1, 3) := by decide +kernel
theorem dX6_pair_91 : decode cX6_pair 91 = .ok (.goto (-38), 3) := by decide +kernel
theorem dX6_pair_94 : decode cX6_pair 94 = .ok (.iload 6, 2) := by decide +kernel
theorem dX6_pair_96 : decode cX6_pair 96 = .ok (.iload_n 3, 1) := by decide +kernel
theorem dX6_pair_97 : decode cX6_pair 97 = .ok (.if_icmp .le 14, 3) := by decide +kernel
theorem dX6_pair_100 : decode cX6_pair 100 = .ok (.bipush 10, 2) := by decide +kernel
theorem dX6_pair_102 : decode cX6_pair 102 = .ok (.iload 4, 2) := by decide +kernel
theorem dX6_pair_104 : decode cX6_pair 104 = .ok (.imul, 1) := by decide +kernel
theorem dX6_pair_105 : decode cX6_pair 105 = .ok (.iload 5, 2) := by decide +kernel
theorem dX6_pair_107 : decode cX6_pair 107 = .ok (.iadd, 1) := by decide +kernel
theorem dX6_pair_108 : decode cX6_pair 108 = .ok (.goto 4, 3) := by decide +kernel
theorem dX6_pair_111 : decode cX6_pair 111 = .ok (.iload_n 2, 1) := by decide +kernel
theorem dX6_pair_112 : decode cX6_pair 112 = .ok (.istore_n 2, 1) := by decide +kernel
theorem dX6_pair_113 : decode cX6_pair 113 = .ok (.iload 6, 2) := by decide +kernel
theorem dX6_pair_115 : decode cX6_pair 115 = .ok (.iload_n 3, 1) := by decide +kernel
theorem dX6_pair_116 : decode cX6_pair 116 = .ok (.if_icmp .le 8, 3) := by decide +kernel
theorem dX6_pair_119 : decode cX6_pair 119 = .ok (.iload 6, 2) := by decide +kernel
theorem dX6_pair_121 : decode cX6_pair 121 = .ok (.goto 4, 3) := by decide +kernel
theorem dX6_pair_124 : decode cX6_pair 124 = .ok (.iload_n 3, 1) := by decide +kernel
theorem dX6_pair_125 : decode cX6_pair 125 = .ok (.istore_n 3, 1) := by decide +kernel
theorem dX6_pair_126 : decode cX6_pair 126 = .ok (.iinc 5 1, 3) := by decide +kernel
theorem dX6_pair_129 : decode cX6_pair 129 = .ok (.goto (-91), 3) := by decide +kernel
theorem dX6_pair_132 : decode cX6_pair 132 = .ok (.iinc 4 1, 3) := by decide +kernel
theorem dX6_pair_135 : decode cX6_pair 135 = .ok (.goto (-112), 3) := by decide +kernel
theorem dX6_pair_138 : decode cX6_pair 138 = .ok (.iload_n 1, 1) := by decide +kernel
theorem dX6_pair_139 : decode cX6_pair 139 = .ok (.ifCond .ne 7, 3) := by decide +kernel
theorem dX6_pair_142 : decode cX6_pair 142 = .ok (.iload_n 2, 1) := by decide +kernel
theorem dX6_pair_143 : decode cX6_pair 143 = .ok (.goto 4, 3) := by decide +kernel
theorem dX6_pair_146 : decode cX6_pair 146 = .ok (.iload_n 3, 1) := by decide +kernel
theorem dX6_pair_147 : decode cX6_pair 147 = .ok (.ireturn, 1) := by decide +kernel
theorem dX6_lowest_0 : decode cX6_lowest 0 = .ok (.lload_n 0, 1) := by decide +kernel
theorem dX6_lowest_1 : decode cX6_lowest 1 = .ok (.lconst 0, 1) := by decide +kernel
theorem dX6_lowest_2 : decode cX6_lowest 2 = .ok (.lcmp, 1) := by decide +kernel
theorem dX6_lowest_3 : decode cX6_lowest 3 = .ok (.ifCond .ne 7, 3) := by decide +kernel
theorem dX6_lowest_6 : decode cX6_lowest 6 = .ok (.iload 4, 2) := by decide +kernel
theorem dX6_lowest_8 : decode cX6_lowest 8 = .ok (.i2l, 1) := by decide +kernel
theorem dX6_lowest_9 : decode cX6_lowest 9 = .ok (.lreturn, 1) := by decide +kernel
theorem dX6_lowest_10 : decode cX6_lowest 10 = .ok (.lload_n 0, 1) := by decide +kernel
theorem dX6_lowest_11 : decode cX6_lowest 11 = .ok (.lstore 5, 2) := by decide +kernel
theorem dX6_lowest_13 : decode cX6_lowest 13 = .ok (.lload_n 2, 1) := by decide +kernel
theorem dX6_lowest_14 : decode cX6_lowest 14 = .ok (.lstore 7, 2) := by decide +kernel
theorem dX6_lowest_16 : decode cX6_lowest 16 = .ok (.lload 7, 2) := by decide +kernel
theorem dX6_lowest_18 : decode cX6_lowest 18 = .ok (.lconst 0, 1) := by decide +kernel
theorem dX6_lowest_19 : decode cX6_lowest 19 = .ok (.lcmp, 1) := by decide +kernel
theorem dX6_lowest_20 : decode cX6_lowest 20 = .ok (.ifCond .eq 21, 3) := by decide +kernel
theorem dX6_lowest_23 : decode cX6_lowest 23 = .ok (.lload 5, 2) := by decide +kernel
theorem dX6_lowest_25 : decode cX6_lowest 25 = .ok (.lload 7, 2) := by decide +kernel
theorem dX6_lowest_27 : decode cX6_lowest 27 = .ok (.lrem, 1) := by decide +kernel
theorem dX6_lowest_28 : decode cX6_lowest 28 = .ok (.lstore 9, 2) := by decide +kernel
theorem dX6_lowest_30 : decode cX6_lowest 30 = .ok (.lload 7, 2) := by decide +kernel
theorem dX6_lowest_32 : decode cX6_lowest 32 = .ok (.lstore 5, 2) := by decide +kernel
theorem dX6_lowest_34 : decode cX6_lowest 34 = .ok (.lload 9, 2) := by decide +kernel
theorem dX6_lowest_36 : decode cX6_lowest 36 = .ok (.lstore 7, 2) := by decide +kernel
theorem dX6_lowest_38 : decode cX6_lowest 38 = .ok (.goto (-22), 3) := by decide +kernel
theorem dX6_lowest_41 : decode cX6_lowest 41 = .ok (.iload 4, 2) := by decide +kernel
theorem dX6_lowest_43 : decode cX6_lowest 43 = .ok (.ifCond .ne 7, 3) := by decide +kernel
theorem dX6_lowest_46 : decode cX6_lowest 46 = .ok (.lload_n 0, 1) := by decide +kernel
theorem dX6_lowest_47 : decode cX6_lowest 47 = .ok (.goto 4, 3) := by decide +kernel
theorem dX6_lowest_50 : decode cX6_lowest 50 = .ok (.lload_n 2, 1) := by decide +kernel
theorem dX6_lowest_51 : decode cX6_lowest 51 = .ok (.lload 5, 2) := by decide +kernel
theorem dX6_lowest_53 : decode cX6_lowest 53 = .ok (.ldiv, 1) := by decide +kernel
theorem dX6_lowest_54 : decode cX6_lowest 54 = .ok (.lreturn, 1) := by decide +kernel
theorem dX6_mean_0 : decode cX6_mean 0 = .ok (.iload_n 1, 1) := by decide +kernel
theorem dX6_mean_1 : decode cX6_mean 1 = .ok (.iconst 1, 1) := by decide +kernel
theorem dX6_mean_2 : decode cX6_mean 2 = .ok (.bipush 48, 2) := by decide +kernel
theorem dX6_mean_4 : decode cX6_mean 4 = .ok (.invokestatic 81, 3) := by decide +kernel
theorem dX6_mean_7 : decode cX6_mean 7 = .ok (.ifCond .eq 12, 3) := by decide +kernel
theorem dX6_mean_10 : decode cX6_mean 10 = .ok (.iload_n 2, 1) := by decide +kernel
theorem dX6_mean_11 : decode cX6_mean 11 = .ok (.iconst 0, 1) := by decide +kernel
theorem dX6_mean_12 : decode cX6_mean 12 = .ok (.iconst 1, 1) := by decide +kernel
theorem dX6_mean_13 : decode cX6_mean 13 = .ok (.invokestatic 81, 3) := by decide +kernel
theorem dX6_mean_16 : decode cX6_mean 16 = .ok (.ifCond .ne 7, 3) := by decide +kernel
theorem dX6_mean_19 : decode cX6_mean 19 = .ok (.ldc2_w 229, 3) := by decide +kernel
theorem dX6_mean_22 : decode cX6_mean 22 = .ok (.lreturn, 1) := by decide +kernel
theorem dX6_mean_23 : decode cX6_mean 23 = .ok (.aload_n 0, 1) := by decide +kernel
theorem dX6_mean_24 : decode cX6_mean 24 = .ok (.invokevirtual 199, 3) := by decide +kernel
theorem dX6_mean_27 : decode cX6_mean 27 = .ok (.aload_n 0, 1) := by decide +kernel
theorem dX6_mean_28 : decode cX6_mean 28 = .ok (.iload_n 1, 1) := by decide +kernel
theorem dX6_mean_29 : decode cX6_mean 29 = .ok (.invokevirtual 202, 3) := by decide +kernel
theorem dX6_mean_32 : decode cX6_mean 32 = .ok (.istore_n 3, 1) := by decide +kernel
theorem dX6_mean_33 : decode cX6_mean 33 = .ok (.aload_n 0, 1) := by decide +kernel
theorem dX6_mean_34 : decode cX6_mean 34 = .ok (.invokevirtual 205, 3) := by decide +kernel
theorem dX6_mean_37 : decode cX6_mean 37 = .ok (.iload_n 3, 1) := by decide +kernel
theorem dX6_mean_38 : decode cX6_mean 38 = .ok (.i2l, 1) := by decide +kernel
theorem dX6_mean_39 : decode cX6_mean 39 = .ok (.iload_n 1, 1) := by decide +kernel
theorem dX6_mean_40 : decode cX6_mean 40 = .ok (.i2l, 1) := by decide +kernel
theorem dX6_mean_41 : decode cX6_mean 41 = .ok (.iload_n 2, 1) := by decide +kernel
theorem dX6_mean_42 : decode cX6_mean 42 = .ok (.invokestatic 231, 3) := by decide +kernel
theorem dX6_mean_45 : decode cX6_mean 45 = .ok (.lreturn, 1) := by decide +kernel
theorem dX6_share_0 : decode cX6_share 0 = .ok (.iconst 0, 1) := by decide +kernel
theorem dX6_share_1 : decode cX6_share 1 = .ok (.istore_n 3, 1) := by decide +kernel
theorem dX6_share_2 : decode cX6_share 2 = .ok (.iconst 0, 1) := by decide +kernel
theorem dX6_share_3 : decode cX6_share 3 = .ok (.istore 4, 2) := by decide +kernel
theorem dX6_share_5 : decode cX6_share 5 = .ok (.iload 4, 2) := by decide +kernel
theorem dX6_share_7 : decode cX6_share 7 = .ok (.aload_n 0, 1) := by decide +kernel
theorem dX6_share_8 : decode cX6_share 8 = .ok (.getfield 78, 3) := by decide +kernel
theorem dX6_share_11 : decode cX6_share 11 = .ok (.if_icmp .ge 23, 3) := by decide +kernel
theorem dX6_share_14 : decode cX6_share 14 = .ok (.iload_n 3, 1) := by decide +kernel
theorem dX6_share_15 : decode cX6_share 15 = .ok (.aload_n 0, 1) := by decide +kernel
theorem dX6_share_16 : decode cX6_share 16 = .ok (.getfield 16, 3) := by decide +kernel
theorem dX6_share_19 : decode cX6_share 19 = .ok (.iconst 4, 1) := by decide +kernel
theorem dX6_share_20 : decode cX6_share 20 = .ok (.iload 4, 2) := by decide +kernel
theorem dX6_share_22 : decode cX6_share 22 = .ok (.imul, 1) := by decide +kernel
theorem dX6_share_23 : decode cX6_share 23 = .ok (.iconst 1, 1) := by decide +kernel
theorem dX6_share_24 : decode cX6_share 24 = .ok (.iadd, 1) := by decide +kernel
theorem dX6_share_25 : decode cX6_share 25 = .ok (.iaload, 1) := by decide +kernel
theorem dX6_share_26 : decode cX6_share 26 = .ok (.iadd, 1) := by decide +kernel
theorem dX6_share_27 : decode cX6_share 27 = .ok (.istore_n 3, 1) := by decide +kernel
theorem dX6_share_28 : decode cX6_share 28 = .ok (.iinc 4 1, 3) := by decide +kernel
theorem dX6_share_31 : decode cX6_share 31 = .ok (.goto (-26), 3) := by decide +kernel
theorem dX6_share_34 : decode cX6_share 34 = .ok (.aload_n 0, 1) := by decide +kernel
theorem dX6_share_35 : decode cX6_share 35 = .ok (.iload_n 1, 1) := by decide +kernel
theorem dX6_share_36 : decode cX6_share 36 = .ok (.invokevirtual 164, 3) := by decide +kernel
theorem dX6_share_39 : decode cX6_share 39 = .ok (.ifCond .eq 36, 3) := by decide +kernel
theorem dX6_share_42 : decode cX6_share 42 = .ok (.iload_n 2, 1) := by decide +kernel
theorem dX6_share_43 : decode cX6_share 43 = .ok (.iconst 0, 1) := by decide +kernel
theorem dX6_share_44 : decode cX6_share 44 = .ok (.iconst 1, 1) := by decide +kernel
theorem dX6_share_45 : decode cX6_share 45 = .ok (.invokestatic 81, 3) := by decide +kernel
theorem dX6_share_48 : decode cX6_share 48 = .ok (.ifCond .eq 27, 3) := by decide +kernel
theorem dX6_share_51 : decode cX6_share 51 = .ok (.iload_n 3, 1) := by decide +kernel
theorem dX6_share_52 : decode cX6_share 52 = .ok (.ifCond .le 23, 3) := by decide +kernel
theorem dX6_share_55 : decode cX6_share 55 = .ok (.aload_n 0, 1) := by decide +kernel
theorem dX6_share_56 : decode cX6_share 56 = .ok (.getfield 16, 3) := by decide +kernel
theorem dX6_share_59 : decode cX6_share 59 = .ok (.iconst 4, 1) := by decide +kernel
theorem dX6_share_60 : decode cX6_share 60 = .ok (.iload_n 1, 1) := by decide +kernel
theorem dX6_share_61 : decode cX6_share 61 = .ok (.imul, 1) := by decide +kernel
theorem dX6_share_62 : decode cX6_share 62 = .ok (.iconst 1, 1) := by decide +kernel
theorem dX6_share_63 : decode cX6_share 63 = .ok (.iadd, 1) := by decide +kernel
theorem dX6_share_64 : decode cX6_share 64 = .ok (.iaload, 1) := by decide +kernel
theorem dX6_share_65 : decode cX6_share 65 = .ok (.i2l, 1) := by decide +kernel
theorem dX6_share_66 : decode cX6_share 66 = .ok (.iload_n 3, 1) := by decide +kernel
theorem dX6_share_67 : decode cX6_share 67 = .ok (.i2l, 1) := by decide +kernel
theorem dX6_share_68 : decode cX6_share 68 = .ok (.iload_n 2, 1) := by decide +kernel
theorem dX6_share_69 : decode cX6_share 69 = .ok (.invokestatic 231, 3) := by decide +kernel
theorem dX6_share_72 : decode cX6_share 72 = .ok (.goto 6, 3) := by decide +kernel
theorem dX6_share_75 : decode cX6_share 75 = .ok (.ldc2_w 229, 3) := by decide +kernel
theorem dX6_share_78 : decode cX6_share 78 = .ok (.lreturn, 1) := by decide +kernel
theorem dX6_sheetWrong_0 : decode cX6_sheetWrong 0 = .ok (.iload_n 1, 1) := by decide +kernel
theorem dX6_sheetWrong_1 : decode cX6_sheetWrong 1 = .ok (.iconst 0, 1) := by decide +kernel
theorem dX6_sheetWrong_2 : decode cX6_sheetWrong 2 = .ok (.iconst 3, 1) := by decide +kernel
theorem dX6_sheetWrong_3 : decode cX6_sheetWrong 3 = .ok (.invokestatic 81, 3) := by decide +kernel
theorem dX6_sheetWrong_6 : decode cX6_sheetWrong 6 = .ok (.ifCond .ne 6, 3) := by decide +kernel
theorem dX6_sheetWrong_9 : decode cX6_sheetWrong 9 = .ok (.bipush (-2), 2) := by decide +kernel
theorem dX6_sheetWrong_11 : decode cX6_sheetWrong 11 = .ok (.ireturn, 1) := by decide +kernel
theorem dX6_sheetWrong_12 : decode cX6_sheetWrong 12 = .ok (.aload_n 0, 1) := by decide +kernel
theorem dX6_sheetWrong_13 : decode cX6_sheetWrong 13 = .ok (.getfield 37, 3) := by decide +kernel
theorem dX6_sheetWrong_16 : decode cX6_sheetWrong 16 = .ok (.iload_n 1, 1) := by decide +kernel
theorem dX6_sheetWrong_17 : decode cX6_sheetWrong 17 = .ok (.iaload, 1) := by decide +kernel
theorem dX6_sheetWrong_18 : decode cX6_sheetWrong 18 = .ok (.iconst (-1), 1) := by decide +kernel
theorem dX6_sheetWrong_19 : decode cX6_sheetWrong 19 = .ok (.if_icmp .ne 6, 3) := by decide +kernel
theorem dX6_sheetWrong_22 : decode cX6_sheetWrong 22 = .ok (.bipush (-11), 2) := by decide +kernel
theorem dX6_sheetWrong_24 : decode cX6_sheetWrong 24 = .ok (.ireturn, 1) := by decide +kernel
theorem dX6_sheetWrong_25 : decode cX6_sheetWrong 25 = .ok (.aload_n 0, 1) := by decide +kernel
theorem dX6_sheetWrong_26 : decode cX6_sheetWrong 26 = .ok (.getfield 40, 3) := by decide +kernel
theorem dX6_sheetWrong_29 : decode cX6_sheetWrong 29 = .ok (.iload_n 1, 1) := by decide +kernel
theorem dX6_sheetWrong_30 : decode cX6_sheetWrong 30 = .ok (.iaload, 1) := by decide +kernel
theorem dX6_sheetWrong_31 : decode cX6_sheetWrong 31 = .ok (.bipush 24, 2) := by decide +kernel
theorem dX6_sheetWrong_33 : decode cX6_sheetWrong 33 = .ok (.if_icmp .le 8, 3) := by decide +kernel
theorem dX6_sheetWrong_36 : decode cX6_sheetWrong 36 = .ok (.bipush (-2), 2) := by decide +kernel
theorem dX6_sheetWrong_38 : decode cX6_sheetWrong 38 = .ok (.goto 4, 3) := by decide +kernel
theorem dX6_sheetWrong_41 : decode cX6_sheetWrong 41 = .ok (.iconst 0, 1) := by decide +kernel
theorem dX6_sheetWrong_42 : decode cX6_sheetWrong 42 = .ok (.ireturn, 1) := by decide +kernel
theorem dX6_unlike_0 : decode cX6_unlike 0 = .ok (.iconst (-1), 1) := by decide +kernel
theorem dX6_unlike_1 : decode cX6_unlike 1 = .ok (.istore_n 2, 1) := by decide +kernel
theorem dX6_unlike_2 : decode cX6_unlike 2 = .ok (.aload_n 0, 1) := by decide +kernel
theorem dX6_unlike_3 : decode cX6_unlike 3 = .ok (.invokevirtual 199, 3) := by decide +kernel
theorem dX6_unlike_6 : decode cX6_unlike 6 = .ok (.iconst 0, 1) := by decide +kernel
theorem dX6_unlike_7 : decode cX6_unlike 7 = .ok (.istore_n 3, 1) := by decide +kernel
theorem dX6_unlike_8 : decode cX6_unlike 8 = .ok (.iload_n 3, 1) := by decide +kernel
theorem dX6_unlike_9 : decode cX6_unlike 9 = .ok (.aload_n 0, 1) := by decide +kernel
theorem dX6_unlike_10 : decode cX6_unlike 10 = .ok (.getfield 40, 3) := by decide +kernel
theorem dX6_unlike_13 : decode cX6_unlike 13 = .ok (.iload_n 1, 1) := by decide +kernel
theorem dX6_unlike_14 : decode cX6_unlike 14 = .ok (.iaload, 1) := by decide +kernel
theorem dX6_unlike_15 : decode cX6_unlike 15 = .ok (.if_icmp .ge 38, 3) := by decide +kernel
theorem dX6_unlike_18 : decode cX6_unlike 18 = .ok (.iload_n 2, 1) := by decide +kernel
theorem dX6_unlike_19 : decode cX6_unlike 19 = .ok (.iconst (-1), 1) := by decide +kernel
theorem dX6_unlike_20 : decode cX6_unlike 20 = .ok (.if_icmp .ne 33, 3) := by decide +kernel
theorem dX6_unlike_23 : decode cX6_unlike 23 = .ok (.aload_n 0, 1) := by decide +kernel
theorem dX6_unlike_24 : decode cX6_unlike 24 = .ok (.getfield 43, 3) := by decide +kernel
theorem dX6_unlike_27 : decode cX6_unlike 27 = .ok (.bipush 40, 2) := by decide +kernel
theorem dX6_unlike_29 : decode cX6_unlike 29 = .ok (.iload_n 1, 1) := by decide +kernel
theorem dX6_unlike_30 : decode cX6_unlike 30 = .ok (.imul, 1) := by decide +kernel
theorem dX6_unlike_31 : decode cX6_unlike 31 = .ok (.iload_n 3, 1) := by decide +kernel
theorem dX6_unlike_32 : decode cX6_unlike 32 = .ok (.iadd, 1) := by decide +kernel
theorem dX6_unlike_33 : decode cX6_unlike 33 = .ok (.iaload, 1) := by decide +kernel
theorem dX6_unlike_34 : decode cX6_unlike 34 = .ok (.aload_n 0, 1) := by decide +kernel
theorem dX6_unlike_35 : decode cX6_unlike 35 = .ok (.invokevirtual 196, 3) := by decide +kernel
theorem dX6_unlike_38 : decode cX6_unlike 38 = .ok (.if_icmp .ne 7, 3) := by decide +kernel
theorem dX6_unlike_41 : decode cX6_unlike 41 = .ok (.iconst (-1), 1) := by decide +kernel
theorem dX6_unlike_42 : decode cX6_unlike 42 = .ok (.goto 4, 3) := by decide +kernel
theorem dX6_unlike_45 : decode cX6_unlike 45 = .ok (.iload_n 3, 1) := by decide +kernel
theorem dX6_unlike_46 : decode cX6_unlike 46 = .ok (.istore_n 2, 1) := by decide +kernel
theorem dX6_unlike_47 : decode cX6_unlike 47 = .ok (.iinc 3 1, 3) := by decide +kernel
theorem dX6_unlike_50 : decode cX6_unlike 50 = .ok (.goto (-42), 3) := by decide +kernel
theorem dX6_unlike_53 : decode cX6_unlike 53 = .ok (.aload_n 0, 1) := by decide +kernel
theorem dX6_unlike_54 : decode cX6_unlike 54 = .ok (.invokevirtual 205, 3) := by decide +kernel
theorem dX6_unlike_57 : decode cX6_unlike 57 = .ok (.iload_n 2, 1) := by decide +kernel
theorem dX6_unlike_58 : decode cX6_unlike 58 = .ok (.ireturn, 1) := by decide +kernel
theorem dX6_judge_0 : decode cX6_judge 0 = .ok (.aload_n 0, 1) := by decide +kernel
theorem dX6_judge_1 : decode cX6_judge 1 = .ok (.iload_n 1, 1) := by decide +kernel
theorem dX6_judge_2 : decode cX6_judge 2 = .ok (.invokevirtual 235, 3) := by decide +kernel
theorem dX6_judge_5 : decode cX6_judge 5 = .ok (.istore_n 2, 1) := by decide +kernel
theorem dX6_judge_6 : decode cX6_judge 6 = .ok (.iload_n 2, 1) := by decide +kernel
theorem dX6_judge_7 : decode cX6_judge 7 = .ok (.ifCond .ne 11, 3) := by decide +kernel
theorem dX6_judge_10 : decode cX6_judge 10 = .ok (.aload_n 0, 1) := by decide +kernel
theorem dX6_judge_11 : decode cX6_judge 11 = .ok (.iload_n 1, 1) := by decide +kernel
theorem dX6_judge_12 : decode cX6_judge 12 = .ok (.invokevirtual 238, 3) := by decide +kernel
theorem dX6_judge_15 : decode cX6_judge 15 = .ok (.goto 4, 3) := by decide +kernel
theorem dX6_judge_18 : decode cX6_judge 18 = .ok (.iload_n 2, 1) := by decide +kernel
theorem dX6_judge_19 : decode cX6_judge 19 = .ok (.ireturn, 1) := by decide +kernel
theorem dX6_kinds_0 : decode cX6_kinds 0 = .ok (.aload_n 0, 1) := by decide +kernel
theorem dX6_kinds_1 : decode cX6_kinds 1 = .ok (.iload_n 1, 1) := by decide +kernel
theorem dX6_kinds_2 : decode cX6_kinds 2 = .ok (.invokevirtual 235, 3) := by decide +kernel
theorem dX6_kinds_5 : decode cX6_kinds 5 = .ok (.istore 4, 2) := by decide +kernel
theorem dX6_kinds_7 : decode cX6_kinds 7 = .ok (.iload 4, 2) := by decide +kernel
theorem dX6_kinds_9 : decode cX6_kinds 9 = .ok (.ifCond .eq 6, 3) := by decide +kernel
theorem dX6_kinds_12 : decode cX6_kinds 12 = .ok (.iload 4, 2) := by decide +kernel
theorem dX6_kinds_14 : decode cX6_kinds 14 = .ok (.ireturn, 1) := by decide +kernel
theorem dX6_kinds_15 : decode cX6_kinds 15 = .ok (.aload_n 0, 1) := by decide +kernel
theorem dX6_kinds_16 : decode cX6_kinds 16 = .ok (.iload_n 2, 1) := by decide +kernel
theorem dX6_kinds_17 : decode cX6_kinds 17 = .ok (.invokevirtual 164, 3) := by decide +kernel
theorem dX6_kinds_20 : decode cX6_kinds 20 = .ok (.ifCond .ne 6, 3) := by decide +kernel
theorem dX6_kinds_23 : decode cX6_kinds 23 = .ok (.bipush (-5), 2) := by decide +kernel
theorem dX6_kinds_25 : decode cX6_kinds 25 = .ok (.ireturn, 1) := by decide +kernel
theorem dX6_kinds_26 : decode cX6_kinds 26 = .ok (.iload_n 3, 1) := by decide +kernel
theorem dX6_kinds_27 : decode cX6_kinds 27 = .ok (.iconst 0, 1) := by decide +kernel
theorem dX6_kinds_28 : decode cX6_kinds 28 = .ok (.iconst 1, 1) := by decide +kernel
theorem dX6_kinds_29 : decode cX6_kinds 29 = .ok (.invokestatic 81, 3) := by decide +kernel
theorem dX6_kinds_32 : decode cX6_kinds 32 = .ok (.ifCond .ne 6, 3) := by decide +kernel
theorem dX6_kinds_35 : decode cX6_kinds 35 = .ok (.bipush (-7), 2) := by decide +kernel
theorem dX6_kinds_37 : decode cX6_kinds 37 = .ok (.ireturn, 1) := by decide +kernel
theorem dX6_kinds_38 : decode cX6_kinds 38 = .ok (.aload_n 0, 1) := by decide +kernel
theorem dX6_kinds_39 : decode cX6_kinds 39 = .ok (.getfield 7, 3) := by decide +kernel
theorem dX6_kinds_42 : decode cX6_kinds 42 = .ok (.iload_n 2, 1) := by decide +kernel
theorem dX6_kinds_43 : decode cX6_kinds 43 = .ok (.iaload, 1) := by decide +kernel
theorem dX6_kinds_44 : decode cX6_kinds 44 = .ok (.istore 5, 2) := by decide +kernel
theorem dX6_kinds_46 : decode cX6_kinds 46 = .ok (.aload_n 0, 1) := by decide +kernel
theorem dX6_kinds_47 : decode cX6_kinds 47 = .ok (.getfield 13, 3) := by decide +kernel
theorem dX6_kinds_50 : decode cX6_kinds 50 = .ok (.iload_n 2, 1) := by decide +kernel
theorem dX6_kinds_51 : decode cX6_kinds 51 = .ok (.iaload, 1) := by decide +kernel
theorem dX6_kinds_52 : decode cX6_kinds 52 = .ok (.istore 6, 2) := by decide +kernel
theorem dX6_kinds_54 : decode cX6_kinds 54 = .ok (.iconst 0, 1) := by decide +kernel
theorem dX6_kinds_55 : decode cX6_kinds 55 = .ok (.istore 7, 2) := by decide +kernel
theorem dX6_kinds_57 : decode cX6_kinds 57 = .ok (.iconst 0, 1) := by decide +kernel
theorem dX6_kinds_58 : decode cX6_kinds 58 = .ok (.istore 8, 2) := by decide +kernel
theorem dX6_kinds_60 : decode cX6_kinds 60 = .ok (.iload 8, 2) := by decide +kernel
theorem dX6_kinds_62 : decode cX6_kinds 62 = .ok (.iload_n 3, 1) := by decide +kernel
theorem dX6_kinds_63 : decode cX6_kinds 63 = .ok (.ifCond .ne 8, 3) := by decide +kernel
theorem dX6_kinds_66 : decode cX6_kinds 66 = .ok (.bipush 6, 2) := by decide +kernel
theorem dX6_kinds_68 : decode cX6_kinds 68 = .ok (.goto 5, 3) := by decide +kernel
theorem dX6_kinds_71 : decode cX6_kinds 71 = .ok (.bipush 10, 2) := by decide +kernel
theorem dX6_kinds_73 : decode cX6_kinds 73 = .ok (.if_icmp .ge 66, 3) := by decide +kernel
theorem dX6_kinds_76 : decode cX6_kinds 76 = .ok (.aload_n 0, 1) := by decide +kernel
theorem dX6_kinds_77 : decode cX6_kinds 77 = .ok (.getfield 7, 3) := by decide +kernel
theorem dX6_kinds_80 : decode cX6_kinds 80 = .ok (.iload_n 2, 1) := by decide +kernel
theorem dX6_kinds_81 : decode cX6_kinds 81 = .ok (.iload_n 3, 1) := by decide +kernel
theorem dX6_kinds_82 : decode cX6_kinds 82 = .ok (.ifCond .ne 8, 3) := by decide +kernel
theorem dX6_kinds_85 : decode cX6_kinds 85 = .ok (.iload 8, 2) := by decide +kernel
theorem dX6_kinds_87 : decode cX6_kinds 87 = .ok (.goto 5, 3) := by decide +kernel
theorem dX6_kinds_90 : decode cX6_kinds 90 = .ok (.iload 5, 2) := by decide +kernel
theorem dX6_kinds_92 : decode cX6_kinds 92 = .ok (.iastore, 1) := by decide +kernel
theorem dX6_kinds_93 : decode cX6_kinds 93 = .ok (.aload_n 0, 1) := by decide +kernel
theorem dX6_kinds_94 : decode cX6_kinds 94 = .ok (.getfield 13, 3) := by decide +kernel
theorem dX6_kinds_97 : decode cX6_kinds 97 = .ok (.iload_n 2, 1) := by decide +kernel
theorem dX6_kinds_98 : decode cX6_kinds 98 = .ok (.iload_n 3, 1) := by decide +kernel
theorem dX6_kinds_99 : decode cX6_kinds 99 = .ok (.iconst 1, 1) := by decide +kernel
theorem dX6_kinds_100 : decode cX6_kinds 100 = .ok (.if_icmp .ne 8, 3) := by decide +kernel
theorem dX6_kinds_103 : decode cX6_kinds 103 = .ok (.iload 8, 2) := by decide +kernel
theorem dX6_kinds_105 : decode cX6_kinds 105 = .ok (.goto 5, 3) := by decide +kernel
theorem dX6_kinds_108 : decode cX6_kinds 108 = .ok (.iload 6, 2) := by decide +kernel
theorem dX6_kinds_110 : decode cX6_kinds 110 = .ok (.iastore, 1) := by decide +kernel
theorem dX6_kinds_111 : decode cX6_kinds 111 = .ok (.iload 7, 2) := by decide +kernel
theorem dX6_kinds_113 : decode cX6_kinds 113 = .ok (.aload_n 0, 1) := by decide +kernel
theorem dX6_kinds_114 : decode cX6_kinds 114 = .ok (.iload_n 1, 1) := by decide +kernel
theorem dX6_kinds_115 : decode cX6_kinds 115 = .ok (.invokevirtual 238, 3) := by decide +kernel
theorem dX6_kinds_118 : decode cX6_kinds 118 = .ok (.iconst (-1), 1) := by decide +kernel
theorem dX6_kinds_119 : decode cX6_kinds 119 = .ok (.if_icmp .ne 10, 3) := by decide +kernel
theorem dX6_kinds_122 : decode cX6_kinds 122 = .ok (.iconst 1, 1) := by decide +kernel
theorem dX6_kinds_123 : decode cX6_kinds 123 = .ok (.iload 8, 2) := by decide +kernel
theorem dX6_kinds_125 : decode cX6_kinds 125 = .ok (.ishl, 1) := by decide +kernel
theorem dX6_kinds_126 : decode cX6_kinds 126 = .ok (.goto 4, 3) := by decide +kernel
theorem dX6_kinds_129 : decode cX6_kinds 129 = .ok (.iconst 0, 1) := by decide +kernel
theorem dX6_kinds_130 : decode cX6_kinds 130 = .ok (.ior, 1) := by decide +kernel
theorem dX6_kinds_131 : decode cX6_kinds 131 = .ok (.istore 7, 2) := by decide +kernel
theorem dX6_kinds_133 : decode cX6_kinds 133 = .ok (.iinc 8 1, 3) := by decide +kernel
theorem dX6_kinds_136 : decode cX6_kinds 136 = .ok (.goto (-76), 3) := by decide +kernel
theorem dX6_kinds_139 : decode cX6_kinds 139 = .ok (.aload_n 0, 1) := by decide +kernel
theorem dX6_kinds_140 : decode cX6_kinds 140 = .ok (.getfield 7, 3) := by decide +kernel
theorem dX6_kinds_143 : decode cX6_kinds 143 = .ok (.iload_n 2, 1) := by decide +kernel
theorem dX6_kinds_144 : decode cX6_kinds 144 = .ok (.iload 5, 2) := by decide +kernel
theorem dX6_kinds_146 : decode cX6_kinds 146 = .ok (.iastore, 1) := by decide +kernel
theorem dX6_kinds_147 : decode cX6_kinds 147 = .ok (.aload_n 0, 1) := by decide +kernel
theorem dX6_kinds_148 : decode cX6_kinds 148 = .ok (.getfield 13, 3) := by decide +kernel
theorem dX6_kinds_151 : decode cX6_kinds 151 = .ok (.iload_n 2, 1) := by decide +kernel
theorem dX6_kinds_152 : decode cX6_kinds 152 = .ok (.iload 6, 2) := by decide +kernel
theorem dX6_kinds_154 : decode cX6_kinds 154 = .ok (.iastore, 1) := by decide +kernel
theorem dX6_kinds_155 : decode cX6_kinds 155 = .ok (.iload 7, 2) := by decide +kernel
theorem dX6_kinds_157 : decode cX6_kinds 157 = .ok (.ireturn, 1) := by decide +kernel
theorem dX6_nerves_0 : decode cX6_nerves 0 = .ok (.aload_n 0, 1) := by decide +kernel
theorem dX6_nerves_1 : decode cX6_nerves 1 = .ok (.iload_n 1, 1) := by decide +kernel
theorem dX6_nerves_2 : decode cX6_nerves 2 = .ok (.invokevirtual 235, 3) := by decide +kernel
theorem dX6_nerves_5 : decode cX6_nerves 5 = .ok (.istore 4, 2) := by decide +kernel
theorem dX6_nerves_7 : decode cX6_nerves 7 = .ok (.iload 4, 2) := by decide +kernel
theorem dX6_nerves_9 : decode cX6_nerves 9 = .ok (.ifCond .eq 6, 3) := by decide +kernel
theorem dX6_nerves_12 : decode cX6_nerves 12 = .ok (.iload 4, 2) := by decide +kernel
theorem dX6_nerves_14 : decode cX6_nerves 14 = .ok (.ireturn, 1) := by decide +kernel
theorem dX6_nerves_15 : decode cX6_nerves 15 = .ok (.aload_n 0, 1) := by decide +kernel
theorem dX6_nerves_16 : decode cX6_nerves 16 = .ok (.iload_n 2, 1) := by decide +kernel
theorem dX6_nerves_17 : decode cX6_nerves 17 = .ok (.invokevirtual 164, 3) := by decide +kernel
theorem dX6_nerves_20 : decode cX6_nerves 20 = .ok (.ifCond .ne 6, 3) := by decide +kernel
theorem dX6_nerves_23 : decode cX6_nerves 23 = .ok (.bipush (-5), 2) := by decide +kernel
theorem dX6_nerves_25 : decode cX6_nerves 25 = .ok (.ireturn, 1) := by decide +kernel
theorem dX6_nerves_26 : decode cX6_nerves 26 = .ok (.iload_n 3, 1) := by decide +kernel
theorem dX6_nerves_27 : decode cX6_nerves 27 = .ok (.iconst 0, 1) := by decide +kernel
theorem dX6_nerves_28 : decode cX6_nerves 28 = .ok (.iconst 1, 1) := by decide +kernel
theorem dX6_nerves_29 : decode cX6_nerves 29 = .ok (.invokestatic 81, 3) := by decide +kernel
theorem dX6_nerves_32 : decode cX6_nerves 32 = .ok (.ifCond .ne 6, 3) := by decide +kernel
theorem dX6_nerves_35 : decode cX6_nerves 35 = .ok (.bipush (-7), 2) := by decide +kernel
theorem dX6_nerves_37 : decode cX6_nerves 37 = .ok (.ireturn, 1) := by decide +kernel
theorem dX6_nerves_38 : decode cX6_nerves 38 = .ok (.aload_n 0, 1) := by decide +kernel
theorem dX6_nerves_39 : decode cX6_nerves 39 = .ok (.getfield 16, 3) := by decide +kernel
theorem dX6_nerves_42 : decode cX6_nerves 42 = .ok (.iconst 4, 1) := by decide +kernel
theorem dX6_nerves_43 : decode cX6_nerves 43 = .ok (.iload_n 2, 1) := by decide +kernel
theorem dX6_nerves_44 : decode cX6_nerves 44 = .ok (.imul, 1) := by decide +kernel
theorem dX6_nerves_45 : decode cX6_nerves 45 = .ok (.iaload, 1) := by decide +kernel
theorem dX6_nerves_46 : decode cX6_nerves 46 = .ok (.istore 5, 2) := by decide +kernel
theorem dX6_nerves_48 : decode cX6_nerves 48 = .ok (.iconst 0, 1) := by decide +kernel
theorem dX6_nerves_49 : decode cX6_nerves 49 = .ok (.istore 6, 2) := by decide +kernel
theorem dX6_nerves_51 : decode cX6_nerves 51 = .ok (.iconst (-1), 1) := by decide +kernel
theorem dX6_nerves_52 : decode cX6_nerves 52 = .ok (.istore 7, 2) := by decide +kernel
theorem dX6_nerves_54 : decode cX6_nerves 54 = .ok (.iconst 0, 1) := by decide +kernel
theorem dX6_nerves_55 : decode cX6_nerves 55 = .ok (.istore 8, 2) := by decide +kernel
theorem dX6_nerves_57 : decode cX6_nerves 57 = .ok (.iload 8, 2) := by decide +kernel
theorem dX6_nerves_59 : decode cX6_nerves 59 = .ok (.bipush 99, 2) := by decide +kernel
theorem dX6_nerves_61 : decode cX6_nerves 61 = .ok (.if_icmp .gt 70, 3) := by decide +kernel
theorem dX6_nerves_64 : decode cX6_nerves 64 = .ok (.aload_n 0, 1) := by decide +kernel
theorem dX6_nerves_65 : decode cX6_nerves 65 = .ok (.getfield 16, 3) := by decide +kernel
theorem dX6_nerves_68 : decode cX6_nerves 68 = .ok (.iconst 4, 1) := by decide +kernel
theorem dX6_nerves_69 : decode cX6_nerves 69 = .ok (.iload_n 2, 1) := by decide +kernel
theorem dX6_nerves_70 : decode cX6_nerves 70 = .ok (.imul, 1) := by decide +kernel
theorem dX6_nerves_71 : decode cX6_nerves 71 = .ok (.iload 8, 2) := by decide +kernel
theorem dX6_nerves_73 : decode cX6_nerves 73 = .ok (.iastore, 1) := by decide +kernel
theorem dX6_nerves_74 : decode cX6_nerves 74 = .ok (.aload_n 0, 1) := by decide +kernel
theorem dX6_nerves_75 : decode cX6_nerves 75 = .ok (.iload_n 1, 1) := by decide +kernel
theorem dX6_nerves_76 : decode cX6_nerves 76 = .ok (.invokevirtual 238, 3) := by decide +kernel
theorem dX6_nerves_79 : decode cX6_nerves 79 = .ok (.iconst (-1), 1) := by decide +kernel
theorem dX6_nerves_80 : decode cX6_nerves 80 = .ok (.if_icmp .ne 7, 3) := by decide +kernel
theorem dX6_nerves_83 : decode cX6_nerves 83 = .ok (.iconst 1, 1) := by decide +kernel
theorem dX6_nerves_84 : decode cX6_nerves 84 = .ok (.goto 4, 3) := by decide +kernel
theorem dX6_nerves_87 : decode cX6_nerves 87 = .ok (.iconst 0, 1) := by decide +kernel
theorem dX6_nerves_88 : decode cX6_nerves 88 = .ok (.istore 9, 2) := by decide +kernel
theorem dX6_nerves_90 : decode cX6_nerves 90 = .ok (.iload 6, 2) := by decide +kernel
theorem dX6_nerves_92 : decode cX6_nerves 92 = .ok (.iload 9, 2) := by decide +kernel
theorem dX6_nerves_94 : decode cX6_nerves 94 = .ok (.ifCond .eq 7, 3) := by decide +kernel
theorem dX6_nerves_97 : decode cX6_nerves 97 = .ok (.iconst 1, 1) := by decide +kernel
theorem dX6_nerves_98 : decode cX6_nerves 98 = .ok (.goto 4, 3) := by decide +kernel
theorem dX6_nerves_101 : decode cX6_nerves 101 = .ok (.iconst 0, 1) := by decide +kernel
theorem dX6_nerves_102 : decode cX6_nerves 102 = .ok (.iadd, 1) := by decide +kernel
theorem dX6_nerves_103 : decode cX6_nerves 103 = .ok (.istore 6, 2) := by decide +kernel
theorem dX6_nerves_105 : decode cX6_nerves 105 = .ok (.iload 9, 2) := by decide +kernel
theorem dX6_nerves_107 : decode cX6_nerves 107 = .ok (.ifCond .eq 14, 3) := by decide +kernel
theorem dX6_nerves_110 : decode cX6_nerves 110 = .ok (.iload 7, 2) := by decide +kernel
theorem dX6_nerves_112 : decode cX6_nerves 112 = .ok (.iconst (-1), 1) := by decide +kernel
theorem dX6_nerves_113 : decode cX6_nerves 113 = .ok (.if_icmp .ne 8, 3) := by decide +kernel
theorem dX6_nerves_116 : decode cX6_nerves 116 = .ok (.iload 8, 2) := by decide +kernel
theorem dX6_nerves_118 : decode cX6_nerves 118 = .ok (.goto 5, 3) := by decide +kernel
theorem dX6_nerves_121 : decode cX6_nerves 121 = .ok (.iload 7, 2) := by decide +kernel
theorem dX6_nerves_123 : decode cX6_nerves 123 = .ok (.istore 7, 2) := by decide +kernel
theorem dX6_nerves_125 : decode cX6_nerves 125 = .ok (.iinc 8 1, 3) := by decide +kernel
theorem dX6_nerves_128 : decode cX6_nerves 128 = .ok (.goto (-71), 3) := by decide +kernel
theorem dX6_nerves_131 : decode cX6_nerves 131 = .ok (.aload_n 0, 1) := by decide +kernel
theorem dX6_nerves_132 : decode cX6_nerves 132 = .ok (.getfield 16, 3) := by decide +kernel
theorem dX6_nerves_135 : decode cX6_nerves 135 = .ok (.iconst 4, 1) := by decide +kernel
theorem dX6_nerves_136 : decode cX6_nerves 136 = .ok (.iload_n 2, 1) := by decide +kernel
theorem dX6_nerves_137 : decode cX6_nerves 137 = .ok (.imul, 1) := by decide +kernel
theorem dX6_nerves_138 : decode cX6_nerves 138 = .ok (.iload 5, 2) := by decide +kernel
theorem dX6_nerves_140 : decode cX6_nerves 140 = .ok (.iastore, 1) := by decide +kernel
theorem dX6_nerves_141 : decode cX6_nerves 141 = .ok (.iload_n 3, 1) := by decide +kernel
theorem dX6_nerves_142 : decode cX6_nerves 142 = .ok (.ifCond .ne 8, 3) := by decide +kernel
theorem dX6_nerves_145 : decode cX6_nerves 145 = .ok (.iload 6, 2) := by decide +kernel
theorem dX6_nerves_147 : decode cX6_nerves 147 = .ok (.goto 5, 3) := by decide +kernel
theorem dX6_nerves_150 : decode cX6_nerves 150 = .ok (.iload 7, 2) := by decide +kernel
theorem dX6_nerves_152 : decode cX6_nerves 152 = .ok (.ireturn, 1) := by decide +kernel
theorem dX6_turned_0 : decode cX6_turned 0 = .ok (.aload_n 0, 1) := by decide +kernel
theorem dX6_turned_1 : decode cX6_turned 1 = .ok (.iload_n 1, 1) := by decide +kernel
theorem dX6_turned_2 : decode cX6_turned 2 = .ok (.invokevirtual 235, 3) := by decide +kernel
theorem dX6_turned_5 : decode cX6_turned 5 = .ok (.istore_n 2, 1) := by decide +kernel
theorem dX6_turned_6 : decode cX6_turned 6 = .ok (.iload_n 2, 1) := by decide +kernel
theorem dX6_turned_7 : decode cX6_turned 7 = .ok (.ifCond .eq 5, 3) := by decide +kernel
theorem dX6_turned_10 : decode cX6_turned 10 = .ok (.iload_n 2, 1) := by decide +kernel
theorem dX6_turned_11 : decode cX6_turned 11 = .ok (.ireturn, 1) := by decide +kernel
theorem dX6_turned_12 : decode cX6_turned 12 = .ok (.iconst 0, 1) := by decide +kernel
theorem dX6_turned_13 : decode cX6_turned 13 = .ok (.istore_n 3, 1) := by decide +kernel
theorem dX6_turned_14 : decode cX6_turned 14 = .ok (.iconst 0, 1) := by decide +kernel
theorem dX6_turned_15 : decode cX6_turned 15 = .ok (.istore 4, 2) := by decide +kernel
theorem dX6_turned_17 : decode cX6_turned 17 = .ok (.iload 4, 2) := by decide +kernel
theorem dX6_turned_19 : decode cX6_turned 19 = .ok (.aload_n 0, 1) := by decide +kernel
theorem dX6_turned_20 : decode cX6_turned 20 = .ok (.getfield 78, 3) := by decide +kernel
theorem dX6_turned_23 : decode cX6_turned 23 = .ok (.if_icmp .ge 77, 3) := by decide +kernel
theorem dX6_turned_26 : decode cX6_turned 26 = .ok (.aload_n 0, 1) := by decide +kernel
theorem dX6_turned_27 : decode cX6_turned 27 = .ok (.getfield 16, 3) := by decide +kernel
theorem dX6_turned_30 : decode cX6_turned 30 = .ok (.iconst 4, 1) := by decide +kernel
theorem dX6_turned_31 : decode cX6_turned 31 = .ok (.iload 4, 2) := by decide +kernel
theorem dX6_turned_33 : decode cX6_turned 33 = .ok (.imul, 1) := by decide +kernel
theorem dX6_turned_34 : decode cX6_turned 34 = .ok (.iconst 3, 1) := by decide +kernel
theorem dX6_turned_35 : decode cX6_turned 35 = .ok (.iadd, 1) := by decide +kernel
theorem dX6_turned_36 : decode cX6_turned 36 = .ok (.iconst 1, 1) := by decide +kernel
theorem dX6_turned_37 : decode cX6_turned 37 = .ok (.aload_n 0, 1) := by decide +kernel
theorem dX6_turned_38 : decode cX6_turned 38 = .ok (.getfield 16, 3) := by decide +kernel
theorem dX6_turned_41 : decode cX6_turned 41 = .ok (.iconst 4, 1) := by decide +kernel
theorem dX6_turned_42 : decode cX6_turned 42 = .ok (.iload 4, 2) := by decide +kernel
theorem dX6_turned_44 : decode cX6_turned 44 = .ok (.imul, 1) := by decide +kernel
theorem dX6_turned_45 : decode cX6_turned 45 = .ok (.iconst 3, 1) := by decide +kernel
theorem dX6_turned_46 : decode cX6_turned 46 = .ok (.iadd, 1) := by decide +kernel
theorem dX6_turned_47 : decode cX6_turned 47 = .ok (.iaload, 1) := by decide +kernel
theorem dX6_turned_48 : decode cX6_turned 48 = .ok (.isub, 1) := by decide +kernel
theorem dX6_turned_49 : decode cX6_turned 49 = .ok (.iastore, 1) := by decide +kernel
theorem dX6_turned_50 : decode cX6_turned 50 = .ok (.iload_n 3, 1) := by decide +kernel
theorem dX6_turned_51 : decode cX6_turned 51 = .ok (.aload_n 0, 1) := by decide +kernel
theorem dX6_turned_52 : decode cX6_turned 52 = .ok (.iload_n 1, 1) := by decide +kernel
theorem dX6_turned_53 : decode cX6_turned 53 = .ok (.invokevirtual 238, 3) := by decide +kernel
theorem dX6_turned_56 : decode cX6_turned 56 = .ok (.iconst (-1), 1) := by decide +kernel
theorem dX6_turned_57 : decode cX6_turned 57 = .ok (.if_icmp .ne 10, 3) := by decide +kernel
theorem dX6_turned_60 : decode cX6_turned 60 = .ok (.iconst 1, 1) := by decide +kernel
theorem dX6_turned_61 : decode cX6_turned 61 = .ok (.iload 4, 2) := by decide +kernel
theorem dX6_turned_63 : decode cX6_turned 63 = .ok (.ishl, 1) := by decide +kernel
theorem dX6_turned_64 : decode cX6_turned 64 = .ok (.goto 4, 3) := by decide +kernel
theorem dX6_turned_67 : decode cX6_turned 67 = .ok (.iconst 0, 1) := by decide +kernel
theorem dX6_turned_68 : decode cX6_turned 68 = .ok (.ior, 1) := by decide +kernel
theorem dX6_turned_69 : decode cX6_turned 69 = .ok (.istore_n 3, 1) := by decide +kernel
theorem dX6_turned_70 : decode cX6_turned 70 = .ok (.aload_n 0, 1) := by decide +kernel
theorem dX6_turned_71 : decode cX6_turned 71 = .ok (.getfield 16, 3) := by decide +kernel
theorem dX6_turned_74 : decode cX6_turned 74 = .ok (.iconst 4, 1) := by decide +kernel
theorem dX6_turned_75 : decode cX6_turned 75 = .ok (.iload 4, 2) := by decide +kernel
theorem dX6_turned_77 : decode cX6_turned 77 = .ok (.imul, 1) := by decide +kernel
theorem dX6_turned_78 : decode cX6_turned 78 = .ok (.iconst 3, 1) := by decide +kernel
theorem dX6_turned_79 : decode cX6_turned 79 = .ok (.iadd, 1) := by decide +kernel
theorem dX6_turned_80 : decode cX6_turned 80 = .ok (.iconst 1, 1) := by decide +kernel
theorem dX6_turned_81 : decode cX6_turned 81 = .ok (.aload_n 0, 1) := by decide +kernel
theorem dX6_turned_82 : decode cX6_turned 82 = .ok (.getfield 16, 3) := by decide +kernel
theorem dX6_turned_85 : decode cX6_turned 85 = .ok (.iconst 4, 1) := by decide +kernel
theorem dX6_turned_86 : decode cX6_turned 86 = .ok (.iload 4, 2) := by decide +kernel
theorem dX6_turned_88 : decode cX6_turned 88 = .ok (.imul, 1) := by decide +kernel
theorem dX6_turned_89 : decode cX6_turned 89 = .ok (.iconst 3, 1) := by decide +kernel
theorem dX6_turned_90 : decode cX6_turned 90 = .ok (.iadd, 1) := by decide +kernel
theorem dX6_turned_91 : decode cX6_turned 91 = .ok (.iaload, 1) := by decide +kernel
theorem dX6_turned_92 : decode cX6_turned 92 = .ok (.isub, 1) := by decide +kernel
theorem dX6_turned_93 : decode cX6_turned 93 = .ok (.iastore, 1) := by decide +kernel
theorem dX6_turned_94 : decode cX6_turned 94 = .ok (.iinc 4 1, 3) := by decide +kernel
theorem dX6_turned_97 : decode cX6_turned 97 = .ok (.goto (-80), 3) := by decide +kernel
theorem dX6_turned_100 : decode cX6_turned 100 = .ok (.iload_n 3, 1) := by decide +kernel
theorem dX6_turned_101 : decode cX6_turned 101 = .ok (.ireturn, 1) := by decide +kernel
theorem dX6_hours_0 : decode cX6_hours 0 = .ok (.aload_n 0, 1) := by decide +kernel
theorem dX6_hours_1 : decode cX6_hours 1 = .ok (.iload_n 1, 1) := by decide +kernel
theorem dX6_hours_2 : decode cX6_hours 2 = .ok (.invokevirtual 235, 3) := by decide +kernel
theorem dX6_hours_5 : decode cX6_hours 5 = .ok (.istore_n 2, 1) := by decide +kernel
theorem dX6_hours_6 : decode cX6_hours 6 = .ok (.iload_n 2, 1) := by decide +kernel
theorem dX6_hours_7 : decode cX6_hours 7 = .ok (.ifCond .eq 5, 3) := by decide +kernel
theorem dX6_hours_10 : decode cX6_hours 10 = .ok (.iload_n 2, 1) := by decide +kernel
theorem dX6_hours_11 : decode cX6_hours 11 = .ok (.ireturn, 1) := by decide +kernel
theorem dX6_hours_12 : decode cX6_hours 12 = .ok (.aload_n 0, 1) := by decide +kernel
theorem dX6_hours_13 : decode cX6_hours 13 = .ok (.getfield 19, 3) := by decide +kernel
theorem dX6_hours_16 : decode cX6_hours 16 = .ok (.iconst 0, 1) := by decide +kernel
theorem dX6_hours_17 : decode cX6_hours 17 = .ok (.iaload, 1) := by decide +kernel
theorem dX6_hours_18 : decode cX6_hours 18 = .ok (.istore_n 3, 1) := by decide +kernel
theorem dX6_hours_19 : decode cX6_hours 19 = .ok (.iconst 0, 1) := by decide +kernel
theorem dX6_hours_20 : decode cX6_hours 20 = .ok (.istore 4, 2) := by decide +kernel
theorem dX6_hours_22 : decode cX6_hours 22 = .ok (.iconst 0, 1) := by decide +kernel
theorem dX6_hours_23 : decode cX6_hours 23 = .ok (.istore 5, 2) := by decide +kernel
theorem dX6_hours_25 : decode cX6_hours 25 = .ok (.iload 5, 2) := by decide +kernel
theorem dX6_hours_27 : decode cX6_hours 27 = .ok (.bipush 24, 2) := by decide +kernel
theorem dX6_hours_29 : decode cX6_hours 29 = .ok (.if_icmp .ge 39, 3) := by decide +kernel
theorem dX6_hours_32 : decode cX6_hours 32 = .ok (.aload_n 0, 1) := by decide +kernel
theorem dX6_hours_33 : decode cX6_hours 33 = .ok (.getfield 19, 3) := by decide +kernel
theorem dX6_hours_36 : decode cX6_hours 36 = .ok (.iconst 0, 1) := by decide +kernel
theorem dX6_hours_37 : decode cX6_hours 37 = .ok (.iload 5, 2) := by decide +kernel
theorem dX6_hours_39 : decode cX6_hours 39 = .ok (.iastore, 1) := by decide +kernel
theorem dX6_hours_40 : decode cX6_hours 40 = .ok (.iload 4, 2) := by decide +kernel
theorem dX6_hours_42 : decode cX6_hours 42 = .ok (.aload_n 0, 1) := by decide +kernel
theorem dX6_hours_43 : decode cX6_hours 43 = .ok (.iload_n 1, 1) := by decide +kernel
theorem dX6_hours_44 : decode cX6_hours 44 = .ok (.invokevirtual 238, 3) := by decide +kernel
theorem dX6_hours_47 : decode cX6_hours 47 = .ok (.iconst (-1), 1) := by decide +kernel
theorem dX6_hours_48 : decode cX6_hours 48 = .ok (.if_icmp .ne 10, 3) := by decide +kernel
theorem dX6_hours_51 : decode cX6_hours 51 = .ok (.iconst 1, 1) := by decide +kernel
theorem dX6_hours_52 : decode cX6_hours 52 = .ok (.iload 5, 2) := by decide +kernel
theorem dX6_hours_54 : decode cX6_hours 54 = .ok (.ishl, 1) := by decide +kernel
theorem dX6_hours_55 : decode cX6_hours 55 = .ok (.goto 4, 3) := by decide +kernel
theorem dX6_hours_58 : decode cX6_hours 58 = .ok (.iconst 0, 1) := by decide +kernel
theorem dX6_hours_59 : decode cX6_hours 59 = .ok (.ior, 1) := by decide +kernel
theorem dX6_hours_60 : decode cX6_hours 60 = .ok (.istore 4, 2) := by decide +kernel
theorem dX6_hours_62 : decode cX6_hours 62 = .ok (.iinc 5 1, 3) := by decide +kernel
theorem dX6_hours_65 : decode cX6_hours 65 = .ok (.goto (-40), 3) := by decide +kernel
theorem dX6_hours_68 : decode cX6_hours 68 = .ok (.aload_n 0, 1) := by decide +kernel
theorem dX6_hours_69 : decode cX6_hours 69 = .ok (.getfield 19, 3) := by decide +kernel
theorem dX6_hours_72 : decode cX6_hours 72 = .ok (.iconst 0, 1) := by decide +kernel
theorem dX6_hours_73 : decode cX6_hours 73 = .ok (.iload_n 3, 1) := by decide +kernel
theorem dX6_hours_74 : decode cX6_hours 74 = .ok (.iastore, 1) := by decide +kernel
theorem dX6_hours_75 : decode cX6_hours 75 = .ok (.iload 4, 2) := by decide +kernel
theorem dX6_hours_77 : decode cX6_hours 77 = .ok (.ireturn, 1) := by decide +kernel
theorem dX6_laws_0 : decode cX6_laws 0 = .ok (.aload_n 0, 1) := by decide +kernel
theorem dX6_laws_1 : decode cX6_laws 1 = .ok (.iload_n 1, 1) := by decide +kernel
theorem dX6_laws_2 : decode cX6_laws 2 = .ok (.invokevirtual 235, 3) := by decide +kernel
theorem dX6_laws_5 : decode cX6_laws 5 = .ok (.istore_n 2, 1) := by decide +kernel
theorem dX6_laws_6 : decode cX6_laws 6 = .ok (.iload_n 2, 1) := by decide +kernel
theorem dX6_laws_7 : decode cX6_laws 7 = .ok (.ifCond .eq 5, 3) := by decide +kernel
theorem dX6_laws_10 : decode cX6_laws 10 = .ok (.iload_n 2, 1) := by decide +kernel
theorem dX6_laws_11 : decode cX6_laws 11 = .ok (.ireturn, 1) := by decide +kernel
theorem dX6_laws_12 : decode cX6_laws 12 = .ok (.aload_n 0, 1) := by decide +kernel
theorem dX6_laws_13 : decode cX6_laws 13 = .ok (.getfield 88, 3) := by decide +kernel
theorem dX6_laws_16 : decode cX6_laws 16 = .ok (.istore_n 3, 1) := by decide +kernel
theorem dX6_laws_17 : decode cX6_laws 17 = .ok (.iconst 0, 1) := by decide +kernel
theorem dX6_laws_18 : decode cX6_laws 18 = .ok (.istore 4, 2) := by decide +kernel
theorem dX6_laws_20 : decode cX6_laws 20 = .ok (.iconst 0, 1) := by decide +kernel
theorem dX6_laws_21 : decode cX6_laws 21 = .ok (.istore 5, 2) := by decide +kernel
theorem dX6_laws_23 : decode cX6_laws 23 = .ok (.iload 5, 2) := by decide +kernel
theorem dX6_laws_25 : decode cX6_laws 25 = .ok (.aload_n 0, 1) := by decide +kernel
theorem dX6_laws_26 : decode cX6_laws 26 = .ok (.getfield 85, 3) := by decide +kernel
theorem dX6_laws_29 : decode cX6_laws 29 = .ok (.if_icmp .ge 37, 3) := by decide +kernel
theorem dX6_laws_32 : decode cX6_laws 32 = .ok (.aload_n 0, 1) := by decide +kernel
theorem dX6_laws_33 : decode cX6_laws 33 = .ok (.iload 5, 2) := by decide +kernel
theorem dX6_laws_35 : decode cX6_laws 35 = .ok (.putfield 88, 3) := by decide +kernel
theorem dX6_laws_38 : decode cX6_laws 38 = .ok (.iload 4, 2) := by decide +kernel
theorem dX6_laws_40 : decode cX6_laws 40 = .ok (.aload_n 0, 1) := by decide +kernel
theorem dX6_laws_41 : decode cX6_laws 41 = .ok (.iload_n 1, 1) := by decide +kernel
theorem dX6_laws_42 : decode cX6_laws 42 = .ok (.invokevirtual 238, 3) := by decide +kernel
theorem dX6_laws_45 : decode cX6_laws 45 = .ok (.iconst (-1), 1) := by decide +kernel
theorem dX6_laws_46 : decode cX6_laws 46 = .ok (.if_icmp .ne 10, 3) := by decide +kernel
theorem dX6_laws_49 : decode cX6_laws 49 = .ok (.iconst 1, 1) := by decide +kernel
theorem dX6_laws_50 : decode cX6_laws 50 = .ok (.iload 5, 2) := by decide +kernel
theorem dX6_laws_52 : decode cX6_laws 52 = .ok (.ishl, 1) := by decide +kernel
theorem dX6_laws_53 : decode cX6_laws 53 = .ok (.goto 4, 3) := by decide +kernel
theorem dX6_laws_56 : decode cX6_laws 56 = .ok (.iconst 0, 1) := by decide +kernel
theorem dX6_laws_57 : decode cX6_laws 57 = .ok (.ior, 1) := by decide +kernel
theorem dX6_laws_58 : decode cX6_laws 58 = .ok (.istore 4, 2) := by decide +kernel
theorem dX6_laws_60 : decode cX6_laws 60 = .ok (.iinc 5 1, 3) := by decide +kernel
theorem dX6_laws_63 : decode cX6_laws 63 = .ok (.goto (-40), 3) := by decide +kernel
theorem dX6_laws_66 : decode cX6_laws 66 = .ok (.aload_n 0, 1) := by decide +kernel
theorem dX6_laws_67 : decode cX6_laws 67 = .ok (.iload_n 3, 1) := by decide +kernel
theorem dX6_laws_68 : decode cX6_laws 68 = .ok (.putfield 88, 3) := by decide +kernel
theorem dX6_laws_71 : decode cX6_laws 71 = .ok (.iload 4, 2) := by decide +kernel
theorem dX6_laws_73 : decode cX6_laws 73 = .ok (.ireturn, 1) := by decide +kernel
theorem dX6_film_0 : decode cX6_film 0 = .ok (.iload_n 1, 1) := by decide +kernel
theorem dX6_film_1 : decode cX6_film 1 = .ok (.iconst 0, 1) := by decide +kernel
theorem dX6_film_2 : decode cX6_film 2 = .ok (.iconst 3, 1) := by decide +kernel
theorem dX6_film_3 : decode cX6_film 3 = .ok (.invokestatic 81, 3) := by decide +kernel
theorem dX6_film_6 : decode cX6_film 6 = .ok (.ifCond .ne 6, 3) := by decide +kernel
theorem dX6_film_9 : decode cX6_film 9 = .ok (.bipush (-2), 2) := by decide +kernel
theorem dX6_film_11 : decode cX6_film 11 = .ok (.ireturn, 1) := by decide +kernel
theorem dX6_film_12 : decode cX6_film 12 = .ok (.iload_n 2, 1) := by decide +kernel
theorem dX6_film_13 : decode cX6_film 13 = .ok (.iconst 0, 1) := by decide +kernel
theorem dX6_film_14 : decode cX6_film 14 = .ok (.bipush 24, 2) := by decide +kernel
theorem dX6_film_16 : decode cX6_film 16 = .ok (.invokestatic 81, 3) := by decide +kernel
theorem dX6_film_19 : decode cX6_film 19 = .ok (.ifCond .ne 6, 3) := by decide +kernel
theorem dX6_film_22 : decode cX6_film 22 = .ok (.bipush (-7), 2) := by decide +kernel
theorem dX6_film_24 : decode cX6_film 24 = .ok (.ireturn, 1) := by decide +kernel
theorem dX6_film_25 : decode cX6_film 25 = .ok (.aload_n 0, 1) := by decide +kernel
theorem dX6_film_26 : decode cX6_film 26 = .ok (.getfield 37, 3) := by decide +kernel
theorem dX6_film_29 : decode cX6_film 29 = .ok (.iload_n 1, 1) := by decide +kernel
theorem dX6_film_30 : decode cX6_film 30 = .ok (.iconst 2, 1) := by decide +kernel
theorem dX6_film_31 : decode cX6_film 31 = .ok (.iastore, 1) := by decide +kernel
theorem dX6_film_32 : decode cX6_film 32 = .ok (.aload_n 0, 1) := by decide +kernel
theorem dX6_film_33 : decode cX6_film 33 = .ok (.getfield 40, 3) := by decide +kernel
theorem dX6_film_36 : decode cX6_film 36 = .ok (.iload_n 1, 1) := by decide +kernel
theorem dX6_film_37 : decode cX6_film 37 = .ok (.iload_n 2, 1) := by decide +kernel
theorem dX6_film_38 : decode cX6_film 38 = .ok (.iastore, 1) := by decide +kernel
theorem dX6_film_39 : decode cX6_film 39 = .ok (.aload_n 0, 1) := by decide +kernel
theorem dX6_film_40 : decode cX6_film 40 = .ok (.invokevirtual 199, 3) := by decide +kernel
theorem dX6_film_43 : decode cX6_film 43 = .ok (.iconst 0, 1) := by decide +kernel
theorem dX6_film_44 : decode cX6_film 44 = .ok (.istore_n 3, 1) := by decide +kernel
theorem dX6_film_45 : decode cX6_film 45 = .ok (.iload_n 3, 1) := by decide +kernel
theorem dX6_film_46 : decode cX6_film 46 = .ok (.bipush 40, 2) := by decide +kernel
theorem dX6_film_48 : decode cX6_film 48 = .ok (.if_icmp .ge 33, 3) := by decide +kernel
theorem dX6_film_51 : decode cX6_film 51 = .ok (.aload_n 0, 1) := by decide +kernel
theorem dX6_film_52 : decode cX6_film 52 = .ok (.getfield 43, 3) := by decide +kernel
theorem dX6_film_55 : decode cX6_film 55 = .ok (.bipush 40, 2) := by decide +kernel
theorem dX6_film_57 : decode cX6_film 57 = .ok (.iload_n 1, 1) := by decide +kernel
theorem dX6_film_58 : decode cX6_film 58 = .ok (.imul, 1) := by decide +kernel
theorem dX6_film_59 : decode cX6_film 59 = .ok (.iload_n 3, 1) := by decide +kernel
theorem dX6_film_60 : decode cX6_film 60 = .ok (.iadd, 1) := by decide +kernel
theorem dX6_film_61 : decode cX6_film 61 = .ok (.iload_n 3, 1) := by decide +kernel
theorem dX6_film_62 : decode cX6_film 62 = .ok (.iload_n 2, 1) := by decide +kernel
theorem dX6_film_63 : decode cX6_film 63 = .ok (.if_icmp .ge 10, 3) := by decide +kernel
theorem dX6_film_66 : decode cX6_film 66 = .ok (.aload_n 0, 1) := by decide +kernel
theorem dX6_film_67 : decode cX6_film 67 = .ok (.invokevirtual 196, 3) := by decide +kernel
theorem dX6_film_70 : decode cX6_film 70 = .ok (.goto 4, 3) := by decide +kernel
theorem dX6_film_73 : decode cX6_film 73 = .ok (.iconst 0, 1) := by decide +kernel
theorem dX6_film_74 : decode cX6_film 74 = .ok (.iastore, 1) := by decide +kernel
theorem dX6_film_75 : decode cX6_film 75 = .ok (.iinc 3 1, 3) := by decide +kernel
theorem dX6_film_78 : decode cX6_film 78 = .ok (.goto (-33), 3) := by decide +kernel
theorem dX6_film_81 : decode cX6_film 81 = .ok (.aload_n 0, 1) := by decide +kernel
theorem dX6_film_82 : decode cX6_film 82 = .ok (.invokevirtual 205, 3) := by decide +kernel
theorem dX6_film_85 : decode cX6_film 85 = .ok (.iload_n 2, 1) := by decide +kernel
theorem dX6_film_86 : decode cX6_film 86 = .ok (.ireturn, 1) := by decide +kernel
theorem dX6_crowds_0 : decode cX6_crowds 0 = .ok (.iload_n 1, 1) := by decide +kernel
theorem dX6_crowds_1 : decode cX6_crowds 1 = .ok (.i2l, 1) := by decide +kernel
theorem dX6_crowds_2 : decode cX6_crowds 2 = .ok (.lconst 1, 1) := by decide +kernel
theorem dX6_crowds_3 : decode cX6_crowds 3 = .ok (.ladd, 1) := by decide +kernel
theorem dX6_crowds_4 : decode cX6_crowds 4 = .ok (.lstore_n 3, 1) := by decide +kernel
theorem dX6_crowds_5 : decode cX6_crowds 5 = .ok (.iconst 0, 1) := by decide +kernel
theorem dX6_crowds_6 : decode cX6_crowds 6 = .ok (.istore 5, 2) := by decide +kernel
theorem dX6_crowds_8 : decode cX6_crowds 8 = .ok (.aload_n 0, 1) := by decide +kernel
theorem dX6_crowds_9 : decode cX6_crowds 9 = .ok (.iconst 0, 1) := by decide +kernel
theorem dX6_crowds_10 : decode cX6_crowds 10 = .ok (.putfield 241, 3) := by decide +kernel
theorem dX6_crowds_13 : decode cX6_crowds 13 = .ok (.aload_n 0, 1) := by decide +kernel
theorem dX6_crowds_14 : decode cX6_crowds 14 = .ok (.invokevirtual 199, 3) := by decide +kernel
theorem dX6_crowds_17 : decode cX6_crowds 17 = .ok (.iconst 0, 1) := by decide +kernel
theorem dX6_crowds_18 : decode cX6_crowds 18 = .ok (.istore 6, 2) := by decide +kernel
theorem dX6_crowds_20 : decode cX6_crowds 20 = .ok (.iload 6, 2) := by decide +kernel
theorem dX6_crowds_22 : decode cX6_crowds 22 = .ok (.iload_n 2, 1) := by decide +kernel
theorem dX6_crowds_23 : decode cX6_crowds 23 = .ok (.if_icmp .ge 85, 3) := by decide +kernel
theorem dX6_crowds_26 : decode cX6_crowds 26 = .ok (.lload_n 3, 1) := by decide +kernel
theorem dX6_crowds_27 : decode cX6_crowds 27 = .ok (.ldc2_w 244, 3) := by decide +kernel
theorem dX6_crowds_30 : decode cX6_crowds 30 = .ok (.lmul, 1) := by decide +kernel
theorem dX6_crowds_31 : decode cX6_crowds 31 = .ok (.ldc2_w 246, 3) := by decide +kernel
theorem dX6_crowds_34 : decode cX6_crowds 34 = .ok (.lrem, 1) := by decide +kernel
theorem dX6_crowds_35 : decode cX6_crowds 35 = .ok (.lstore_n 3, 1) := by decide +kernel
theorem dX6_crowds_36 : decode cX6_crowds 36 = .ok (.lload_n 3, 1) := by decide +kernel
theorem dX6_crowds_37 : decode cX6_crowds 37 = .ok (.ldc2_w 248, 3) := by decide +kernel
theorem dX6_crowds_40 : decode cX6_crowds 40 = .ok (.lrem, 1) := by decide +kernel
theorem dX6_crowds_41 : decode cX6_crowds 41 = .ok (.l2i, 1) := by decide +kernel
theorem dX6_crowds_42 : decode cX6_crowds 42 = .ok (.istore 7, 2) := by decide +kernel
theorem dX6_crowds_44 : decode cX6_crowds 44 = .ok (.iload 7, 2) := by decide +kernel
theorem dX6_crowds_46 : decode cX6_crowds 46 = .ok (.aload_n 0, 1) := by decide +kernel
theorem dX6_crowds_47 : decode cX6_crowds 47 = .ok (.getfield 78, 3) := by decide +kernel
theorem dX6_crowds_50 : decode cX6_crowds 50 = .ok (.if_icmp .ge 27, 3) := by decide +kernel
theorem dX6_crowds_53 : decode cX6_crowds 53 = .ok (.aload_n 0, 1) := by decide +kernel
theorem dX6_crowds_54 : decode cX6_crowds 54 = .ok (.getfield 16, 3) := by decide +kernel
theorem dX6_crowds_57 : decode cX6_crowds 57 = .ok (.iconst 4, 1) := by decide +kernel
theorem dX6_crowds_58 : decode cX6_crowds 58 = .ok (.iload 7, 2) := by decide +kernel
theorem dX6_crowds_60 : decode cX6_crowds 60 = .ok (.imul, 1) := by decide +kernel
theorem dX6_crowds_61 : decode cX6_crowds 61 = .ok (.iconst 3, 1) := by decide +kernel
theorem dX6_crowds_62 : decode cX6_crowds 62 = .ok (.iadd, 1) := by decide +kernel
theorem dX6_crowds_63 : decode cX6_crowds 63 = .ok (.iconst 1, 1) := by decide +kernel
theorem dX6_crowds_64 : decode cX6_crowds 64 = .ok (.aload_n 0, 1) := by decide +kernel
theorem dX6_crowds_65 : decode cX6_crowds 65 = .ok (.getfield 16, 3) := by decide +kernel
theorem dX6_crowds_68 : decode cX6_crowds 68 = .ok (.iconst 4, 1) := by decide +kernel
theorem dX6_crowds_69 : decode cX6_crowds 69 = .ok (.iload 7, 2) := by decide +kernel
theorem dX6_crowds_71 : decode cX6_crowds 71 = .ok (.imul, 1) := by decide +kernel
theorem dX6_crowds_72 : decode cX6_crowds 72 = .ok (.iconst 3, 1) := by decide +kernel
theorem dX6_crowds_73 : decode cX6_crowds 73 = .ok (.iadd, 1) := by decide +kernel
theorem dX6_crowds_74 : decode cX6_crowds 74 = .ok (.iaload, 1) := by decide +kernel
theorem dX6_crowds_75 : decode cX6_crowds 75 = .ok (.isub, 1) := by decide +kernel
theorem dX6_crowds_76 : decode cX6_crowds 76 = .ok (.iastore, 1) := by decide +kernel
theorem dX6_crowds_77 : decode cX6_crowds 77 = .ok (.iload 5, 2) := by decide +kernel
theorem dX6_crowds_79 : decode cX6_crowds 79 = .ok (.aload_n 0, 1) := by decide +kernel
theorem dX6_crowds_80 : decode cX6_crowds 80 = .ok (.invokevirtual 196, 3) := by decide +kernel
theorem dX6_crowds_83 : decode cX6_crowds 83 = .ok (.iadd, 1) := by decide +kernel
theorem dX6_crowds_84 : decode cX6_crowds 84 = .ok (.istore 5, 2) := by decide +kernel
theorem dX6_crowds_86 : decode cX6_crowds 86 = .ok (.aload_n 0, 1) := by decide +kernel
theorem dX6_crowds_87 : decode cX6_crowds 87 = .ok (.dup, 1) := by decide +kernel
theorem dX6_crowds_88 : decode cX6_crowds 88 = .ok (.getfield 241, 3) := by decide +kernel
theorem dX6_crowds_91 : decode cX6_crowds 91 = .ok (.aload_n 0, 1) := by decide +kernel
theorem dX6_crowds_92 : decode cX6_crowds 92 = .ok (.getfield 193, 3) := by decide +kernel
theorem dX6_crowds_95 : decode cX6_crowds 95 = .ok (.invokestatic 226, 3) := by decide +kernel
theorem dX6_crowds_98 : decode cX6_crowds 98 = .ok (.iadd, 1) := by decide +kernel
theorem dX6_crowds_99 : decode cX6_crowds 99 = .ok (.putfield 241, 3) := by decide +kernel
theorem dX6_crowds_102 : decode cX6_crowds 102 = .ok (.iinc 6 1, 3) := by decide +kernel
theorem dX6_crowds_105 : decode cX6_crowds 105 = .ok (.goto (-85), 3) := by decide +kernel
theorem dX6_crowds_108 : decode cX6_crowds 108 = .ok (.aload_n 0, 1) := by decide +kernel
theorem dX6_crowds_109 : decode cX6_crowds 109 = .ok (.invokevirtual 205, 3) := by decide +kernel
theorem dX6_crowds_112 : decode cX6_crowds 112 = .ok (.iload 5, 2) := by decide +kernel
theorem dX6_crowds_114 : decode cX6_crowds 114 = .ok (.ireturn, 1) := by decide +kernel
theorem dX6_drawn_0 : decode cX6_drawn 0 = .ok (.iload_n 1, 1) := by decide +kernel
theorem dX6_drawn_1 : decode cX6_drawn 1 = .ok (.iconst 0, 1) := by decide +kernel
theorem dX6_drawn_2 : decode cX6_drawn 2 = .ok (.ldc 250, 2) := by decide +kernel
theorem dX6_drawn_4 : decode cX6_drawn 4 = .ok (.invokestatic 81, 3) := by decide +kernel
theorem dX6_drawn_7 : decode cX6_drawn 7 = .ok (.ifCond .eq 22, 3) := by decide +kernel
theorem dX6_drawn_10 : decode cX6_drawn 10 = .ok (.iload_n 2, 1) := by decide +kernel
theorem dX6_drawn_11 : decode cX6_drawn 11 = .ok (.iconst 0, 1) := by decide +kernel
theorem dX6_drawn_12 : decode cX6_drawn 12 = .ok (.bipush 48, 2) := by decide +kernel
theorem dX6_drawn_14 : decode cX6_drawn 14 = .ok (.invokestatic 81, 3) := by decide +kernel
theorem dX6_drawn_17 : decode cX6_drawn 17 = .ok (.ifCond .eq 12, 3) := by decide +kernel
theorem dX6_drawn_20 : decode cX6_drawn 20 = .ok (.iload_n 3, 1) := by decide +kernel
theorem dX6_drawn_21 : decode cX6_drawn 21 = .ok (.iconst 0, 1) := by decide +kernel
theorem dX6_drawn_22 : decode cX6_drawn 22 = .ok (.iconst 1, 1) := by decide +kernel
theorem dX6_drawn_23 : decode cX6_drawn 23 = .ok (.invokestatic 81, 3) := by decide +kernel
theorem dX6_drawn_26 : decode cX6_drawn 26 = .ok (.ifCond .ne 6, 3) := by decide +kernel
theorem dX6_drawn_29 : decode cX6_drawn 29 = .ok (.bipush (-2), 2) := by decide +kernel
theorem dX6_drawn_31 : decode cX6_drawn 31 = .ok (.ireturn, 1) := by decide +kernel
theorem dX6_drawn_32 : decode cX6_drawn 32 = .ok (.aload_n 0, 1) := by decide +kernel
theorem dX6_drawn_33 : decode cX6_drawn 33 = .ok (.iload_n 1, 1) := by decide +kernel
theorem dX6_drawn_34 : decode cX6_drawn 34 = .ok (.iload_n 2, 1) := by decide +kernel
theorem dX6_drawn_35 : decode cX6_drawn 35 = .ok (.invokevirtual 251, 3) := by decide +kernel
theorem dX6_drawn_38 : decode cX6_drawn 38 = .ok (.istore 4, 2) := by decide +kernel
theorem dX6_drawn_40 : decode cX6_drawn 40 = .ok (.iload_n 3, 1) := by decide +kernel
theorem dX6_drawn_41 : decode cX6_drawn 41 = .ok (.ifCond .ne 8, 3) := by decide +kernel
theorem dX6_drawn_44 : decode cX6_drawn 44 = .ok (.iload 4, 2) := by decide +kernel
theorem dX6_drawn_46 : decode cX6_drawn 46 = .ok (.goto 7, 3) := by decide +kernel
theorem dX6_drawn_49 : decode cX6_drawn 49 = .ok (.aload_n 0, 1) := by decide +kernel
theorem dX6_drawn_50 : decode cX6_drawn 50 = .ok (.getfield 241, 3) := by decide +kernel
theorem dX6_drawn_53 : decode cX6_drawn 53 = .ok (.ireturn, 1) := by decide +kernel
theorem dX6_odds_0 : decode cX6_odds 0 = .ok (.iload_n 1, 1) := by decide +kernel
theorem dX6_odds_1 : decode cX6_odds 1 = .ok (.iconst 0, 1) := by decide +kernel
theorem dX6_odds_2 : decode cX6_odds 2 = .ok (.ldc 250, 2) := by decide +kernel
theorem dX6_odds_4 : decode cX6_odds 4 = .ok (.invokestatic 81, 3) := by decide +kernel
theorem dX6_odds_7 : decode cX6_odds 7 = .ok (.ifCond .eq 34, 3) := by decide +kernel
theorem dX6_odds_10 : decode cX6_odds 10 = .ok (.iload_n 2, 1) := by decide +kernel
theorem dX6_odds_11 : decode cX6_odds 11 = .ok (.iconst 1, 1) := by decide +kernel
theorem dX6_odds_12 : decode cX6_odds 12 = .ok (.bipush 40, 2) := by decide +kernel
theorem dX6_odds_14 : decode cX6_odds 14 = .ok (.invokestatic 81, 3) := by decide +kernel
theorem dX6_odds_17 : decode cX6_odds 17 = .ok (.ifCond .eq 24, 3) := by decide +kernel
theorem dX6_odds_20 : decode cX6_odds 20 = .ok (.iload_n 3, 1) := by decide +kernel
theorem dX6_odds_21 : decode cX6_odds 21 = .ok (.iconst 0, 1) := by decide +kernel
theorem dX6_odds_22 : decode cX6_odds 22 = .ok (.sipush 9999, 3) := by decide +kernel
theorem dX6_odds_25 : decode cX6_odds 25 = .ok (.invokestatic 81, 3) := by decide +kernel
theorem dX6_odds_28 : decode cX6_odds 28 = .ok (.ifCond .eq 13, 3) := by decide +kernel
theorem dX6_odds_31 : decode cX6_odds 31 = .ok (.iload 4, 2) := by decide +kernel
theorem dX6_odds_33 : decode cX6_odds 33 = .ok (.iconst 0, 1) := by decide +kernel
theorem dX6_odds_34 : decode cX6_odds 34 = .ok (.iconst 1, 1) := by decide +kernel
theorem dX6_odds_35 : decode cX6_odds 35 = .ok (.invokestatic 81, 3) := by decide +kernel
theorem dX6_odds_38 : decode cX6_odds 38 = .ok (.ifCond .ne 7, 3) := by decide +kernel
theorem dX6_odds_41 : decode cX6_odds 41 = .ok (.ldc2_w 229, 3) := by decide +kernel
theorem dX6_odds_44 : decode cX6_odds 44 = .ok (.lreturn, 1) := by decide +kernel
theorem dX6_odds_45 : decode cX6_odds 45 = .ok (.lconst 0, 1) := by decide +kernel
theorem dX6_odds_46 : decode cX6_odds 46 = .ok (.lstore 5, 2) := by decide +kernel
theorem dX6_odds_48 : decode cX6_odds 48 = .ok (.iconst 0, 1) := by decide +kernel
theorem dX6_odds_49 : decode cX6_odds 49 = .ok (.istore 7, 2) := by decide +kernel
theorem dX6_odds_51 : decode cX6_odds 51 = .ok (.iload 7, 2) := by decide +kernel
theorem dX6_odds_53 : decode cX6_odds 53 = .ok (.iload_n 2, 1) := by decide +kernel
theorem dX6_odds_54 : decode cX6_odds 54 = .ok (.if_icmp .ge 33, 3) := by decide +kernel
theorem dX6_odds_57 : decode cX6_odds 57 = .ok (.lload 5, 2) := by decide +kernel
theorem dX6_odds_59 : decode cX6_odds 59 = .ok (.aload_n 0, 1) := by decide +kernel
theorem dX6_odds_60 : decode cX6_odds 60 = .ok (.iload_n 1, 1) := by decide +kernel
theorem dX6_odds_61 : decode cX6_odds 61 = .ok (.iload 7, 2) := by decide +kernel
theorem dX6_odds_63 : decode cX6_odds 63 = .ok (.iadd, 1) := by decide +kernel
theorem dX6_odds_64 : decode cX6_odds 64 = .ok (.bipush 12, 2) := by decide +kernel
theorem dX6_odds_66 : decode cX6_odds 66 = .ok (.invokevirtual 251, 3) := by decide +kernel
theorem dX6_odds_69 : decode cX6_odds 69 = .ok (.iload_n 3, 1) := by decide +kernel
theorem dX6_odds_70 : decode cX6_odds 70 = .ok (.if_icmp .lt 7, 3) := by decide +kernel
theorem dX6_odds_73 : decode cX6_odds 73 = .ok (.lconst 1, 1) := by decide +kernel
theorem dX6_odds_74 : decode cX6_odds 74 = .ok (.goto 4, 3) := by decide +kernel
theorem dX6_odds_77 : decode cX6_odds 77 = .ok (.lconst 0, 1) := by decide +kernel
theorem dX6_odds_78 : decode cX6_odds 78 = .ok (.ladd, 1) := by decide +kernel
theorem dX6_odds_79 : decode cX6_odds 79 = .ok (.lstore 5, 2) := by decide +kernel
theorem dX6_odds_81 : decode cX6_odds 81 = .ok (.iinc 7 1, 3) := by decide +kernel
theorem dX6_odds_84 : decode cX6_odds 84 = .ok (.goto (-33), 3) := by decide +kernel
theorem dX6_odds_87 : decode cX6_odds 87 = .ok (.lload 5, 2) := by decide +kernel
theorem dX6_odds_89 : decode cX6_odds 89 = .ok (.iload_n 2, 1) := by decide +kernel
theorem dX6_odds_90 : decode cX6_odds 90 = .ok (.i2l, 1) := by decide +kernel
theorem dX6_odds_91 : decode cX6_odds 91 = .ok (.iload 4, 2) := by decide +kernel
theorem dX6_odds_93 : decode cX6_odds 93 = .ok (.invokestatic 231, 3) := by decide +kernel
theorem dX6_odds_96 : decode cX6_odds 96 = .ok (.lreturn, 1) := by decide +kernel
theorem dX6_image_0 : decode cX6_image 0 = .ok (.aload_n 0, 1) := by decide +kernel
theorem dX6_image_1 : decode cX6_image 1 = .ok (.iconst 1, 1) := by decide +kernel
theorem dX6_image_2 : decode cX6_image 2 = .ok (.putfield 254, 3) := by decide +kernel
theorem dX6_image_5 : decode cX6_image 5 = .ok (.iconst 0, 1) := by decide +kernel
theorem dX6_image_6 : decode cX6_image 6 = .ok (.istore_n 1, 1) := by decide +kernel
theorem dX6_image_7 : decode cX6_image 7 = .ok (.iload_n 1, 1) := by decide +kernel
theorem dX6_image_8 : decode cX6_image 8 = .ok (.bipush 24, 2) := by decide +kernel
theorem dX6_image_10 : decode cX6_image 10 = .ok (.if_icmp .ge 21, 3) := by decide +kernel
theorem dX6_image_13 : decode cX6_image 13 = .ok (.aload_n 0, 1) := by decide +kernel
theorem dX6_image_14 : decode cX6_image 14 = .ok (.getfield 31, 3) := by decide +kernel
theorem dX6_image_17 : decode cX6_image 17 = .ok (.iload_n 1, 1) := by decide +kernel
theorem dX6_image_18 : decode cX6_image 18 = .ok (.aload_n 0, 1) := by decide +kernel
theorem dX6_image_19 : decode cX6_image 19 = .ok (.getfield 16, 3) := by decide +kernel
theorem dX6_image_22 : decode cX6_image 22 = .ok (.iload_n 1, 1) := by decide +kernel
theorem dX6_image_23 : decode cX6_image 23 = .ok (.iaload, 1) := by decide +kernel
theorem dX6_image_24 : decode cX6_image 24 = .ok (.iastore, 1) := by decide +kernel
theorem dX6_image_25 : decode cX6_image 25 = .ok (.iinc 1 1, 3) := by decide +kernel
theorem dX6_image_28 : decode cX6_image 28 = .ok (.goto (-21), 3) := by decide +kernel
theorem dX6_image_31 : decode cX6_image 31 = .ok (.iconst 0, 1) := by decide +kernel
theorem dX6_image_32 : decode cX6_image 32 = .ok (.istore_n 1, 1) := by decide +kernel
theorem dX6_image_33 : decode cX6_image 33 = .ok (.iload_n 1, 1) := by decide +kernel
theorem dX6_image_34 : decode cX6_image 34 = .ok (.iconst 3, 1) := by decide +kernel
theorem dX6_image_35 : decode cX6_image 35 = .ok (.if_icmp .ge 24, 3) := by decide +kernel
theorem dX6_image_38 : decode cX6_image 38 = .ok (.aload_n 0, 1) := by decide +kernel
theorem dX6_image_39 : decode cX6_image 39 = .ok (.getfield 31, 3) := by decide +kernel
theorem dX6_image_42 : decode cX6_image 42 = .ok (.bipush 24, 2) := by decide +kernel
theorem dX6_image_44 : decode cX6_image 44 = .ok (.iload_n 1, 1) := by decide +kernel
theorem dX6_image_45 : decode cX6_image 45 = .ok (.iadd, 1) := by decide +kernel
theorem dX6_image_46 : decode cX6_image 46 = .ok (.aload_n 0, 1) := by decide +kernel
theorem dX6_image_47 : decode cX6_image 47 = .ok (.getfield 19, 3) := by decide +kernel
theorem dX6_image_50 : decode cX6_image 50 = .ok (.iload_n 1, 1) := by decide +kernel
theorem dX6_image_51 : decode cX6_image 51 = .ok (.iaload, 1) := by decide +kernel
theorem dX6_image_52 : decode cX6_image 52 = .ok (.iastore, 1) := by decide +kernel
theorem dX6_image_53 : decode cX6_image 53 = .ok (.iinc 1 1, 3) := by decide +kernel
theorem dX6_image_56 : decode cX6_image 56 = .ok (.goto (-23), 3) := by decide +kernel
theorem dX6_image_59 : decode cX6_image 59 = .ok (.aload_n 0, 1) := by decide +kernel
theorem dX6_image_60 : decode cX6_image 60 = .ok (.getfield 34, 3) := by decide +kernel
theorem dX6_image_63 : decode cX6_image 63 = .ok (.iconst 0, 1) := by decide +kernel
theorem dX6_image_64 : decode cX6_image 64 = .ok (.aload_n 0, 1) := by decide +kernel
theorem dX6_image_65 : decode cX6_image 65 = .ok (.getfield 78, 3) := by decide +kernel
theorem dX6_image_68 : decode cX6_image 68 = .ok (.iastore, 1) := by decide +kernel
theorem dX6_image_69 : decode cX6_image 69 = .ok (.aload_n 0, 1) := by decide +kernel
theorem dX6_image_70 : decode cX6_image 70 = .ok (.getfield 34, 3) := by decide +kernel
theorem dX6_image_73 : decode cX6_image 73 = .ok (.iconst 1, 1) := by decide +kernel
theorem dX6_image_74 : decode cX6_image 74 = .ok (.aload_n 0, 1) := by decide +kernel
theorem dX6_image_75 : decode cX6_image 75 = .ok (.getfield 88, 3) := by decide +kernel
theorem dX6_image_78 : decode cX6_image 78 = .ok (.iastore, 1) := by decide +kernel
theorem dX6_image_79 : decode cX6_image 79 = .ok (.aload_n 0, 1) := by decide +kernel
theorem dX6_image_80 : decode cX6_image 80 = .ok (.getfield 78, 3) := by decide +kernel
theorem dX6_image_83 : decode cX6_image 83 = .ok (.ireturn, 1) := by decide +kernel
theorem dX6_back_0 : decode cX6_back 0 = .ok (.aload_n 0, 1) := by decide +kernel
theorem dX6_back_1 : decode cX6_back 1 = .ok (.getfield 254, 3) := by decide +kernel
theorem dX6_back_4 : decode cX6_back 4 = .ok (.ifCond .ne 6, 3) := by decide +kernel
theorem dX6_back_7 : decode cX6_back 7 = .ok (.bipush (-3), 2) := by decide +kernel
theorem dX6_back_9 : decode cX6_back 9 = .ok (.ireturn, 1) := by decide +kernel
theorem dX6_back_10 : decode cX6_back 10 = .ok (.iconst 0, 1) := by decide +kernel
theorem dX6_back_11 : decode cX6_back 11 = .ok (.istore_n 1, 1) := by decide +kernel
theorem dX6_back_12 : decode cX6_back 12 = .ok (.iload_n 1, 1) := by decide +kernel
theorem dX6_back_13 : decode cX6_back 13 = .ok (.bipush 24, 2) := by decide +kernel
theorem dX6_back_15 : decode cX6_back 15 = .ok (.if_icmp .ge 21, 3) := by decide +kernel
theorem dX6_back_18 : decode cX6_back 18 = .ok (.aload_n 0, 1) := by decide +kernel
theorem dX6_back_19 : decode cX6_back 19 = .ok (.getfield 16, 3) := by decide +kernel
theorem dX6_back_22 : decode cX6_back 22 = .ok (.iload_n 1, 1) := by decide +kernel
theorem dX6_back_23 : decode cX6_back 23 = .ok (.aload_n 0, 1) := by decide +kernel
theorem dX6_back_24 : decode cX6_back 24 = .ok (.getfield 31, 3) := by decide +kernel
theorem dX6_back_27 : decode cX6_back 27 = .ok (.iload_n 1, 1) := by decide +kernel
theorem dX6_back_28 : decode cX6_back 28 = .ok (.iaload, 1) := by decide +kernel
theorem dX6_back_29 : decode cX6_back 29 = .ok (.iastore, 1) := by decide +kernel
theorem dX6_back_30 : decode cX6_back 30 = .ok (.iinc 1 1, 3) := by decide +kernel
theorem dX6_back_33 : decode cX6_back 33 = .ok (.goto (-21), 3) := by decide +kernel
theorem dX6_back_36 : decode cX6_back 36 = .ok (.iconst 0, 1) := by decide +kernel
theorem dX6_back_37 : decode cX6_back 37 = .ok (.istore_n 1, 1) := by decide +kernel
theorem dX6_back_38 : decode cX6_back 38 = .ok (.iload_n 1, 1) := by decide +kernel
theorem dX6_back_39 : decode cX6_back 39 = .ok (.iconst 3, 1) := by decide +kernel
theorem dX6_back_40 : decode cX6_back 40 = .ok (.if_icmp .ge 24, 3) := by decide +kernel
theorem dX6_back_43 : decode cX6_back 43 = .ok (.aload_n 0, 1) := by decide +kernel
theorem dX6_back_44 : decode cX6_back 44 = .ok (.getfield 19, 3) := by decide +kernel
theorem dX6_back_47 : decode cX6_back 47 = .ok (.iload_n 1, 1) := by decide +kernel
theorem dX6_back_48 : decode cX6_back 48 = .ok (.aload_n 0, 1) := by decide +kernel
theorem dX6_back_49 : decode cX6_back 49 = .ok (.getfield 31, 3) := by decide +kernel
theorem dX6_back_52 : decode cX6_back 52 = .ok (.bipush 24, 2) := by decide +kernel
theorem dX6_back_54 : decode cX6_back 54 = .ok (.iload_n 1, 1) := by decide +kernel
theorem dX6_back_55 : decode cX6_back 55 = .ok (.iadd, 1) := by decide +kernel
theorem dX6_back_56 : decode cX6_back 56 = .ok (.iaload, 1) := by decide +kernel
theorem dX6_back_57 : decode cX6_back 57 = .ok (.iastore, 1) := by decide +kernel
theorem dX6_back_58 : decode cX6_back 58 = .ok (.iinc 1 1, 3) := by decide +kernel
theorem dX6_back_61 : decode cX6_back 61 = .ok (.goto (-23), 3) := by decide +kernel
theorem dX6_back_64 : decode cX6_back 64 = .ok (.aload_n 0, 1) := by decide +kernel
theorem dX6_back_65 : decode cX6_back 65 = .ok (.aload_n 0, 1) := by decide +kernel
theorem dX6_back_66 : decode cX6_back 66 = .ok (.getfield 34, 3) := by decide +kernel
theorem dX6_back_69 : decode cX6_back 69 = .ok (.iconst 0, 1) := by decide +kernel
theorem dX6_back_70 : decode cX6_back 70 = .ok (.iaload, 1) := by decide +kernel
theorem dX6_back_71 : decode cX6_back 71 = .ok (.putfield 78, 3) := by decide +kernel
theorem dX6_back_74 : decode cX6_back 74 = .ok (.aload_n 0, 1) := by decide +kernel
theorem dX6_back_75 : decode cX6_back 75 = .ok (.aload_n 0, 1) := by decide +kernel
theorem dX6_back_76 : decode cX6_back 76 = .ok (.getfield 34, 3) := by decide +kernel
theorem dX6_back_79 : decode cX6_back 79 = .ok (.iconst 1, 1) := by decide +kernel
theorem dX6_back_80 : decode cX6_back 80 = .ok (.iaload, 1) := by decide +kernel
theorem dX6_back_81 : decode cX6_back 81 = .ok (.putfield 88, 3) := by decide +kernel
theorem dX6_back_84 : decode cX6_back 84 = .ok (.aload_n 0, 1) := by decide +kernel
theorem dX6_back_85 : decode cX6_back 85 = .ok (.getfield 78, 3) := by decide +kernel
theorem dX6_back_88 : decode cX6_back 88 = .ok (.ireturn, 1) := by decide +kernel
theorem dX6_sheet_0 : decode cX6_sheet 0 = .ok (.iload_n 1, 1) := by decide +kernel
theorem dX6_sheet_1 : decode cX6_sheet 1 = .ok (.iconst 0, 1) := by decide +kernel
theorem dX6_sheet_2 : decode cX6_sheet 2 = .ok (.iconst 3, 1) := by decide +kernel
theorem dX6_sheet_3 : decode cX6_sheet 3 = .ok (.invokestatic 81, 3) := by decide +kernel
theorem dX6_sheet_6 : decode cX6_sheet 6 = .ok (.ifCond .eq 23, 3) := by decide +kernel
theorem dX6_sheet_9 : decode cX6_sheet 9 = .ok (.iload_n 2, 1) := by decide +kernel
theorem dX6_sheet_10 : decode cX6_sheet 10 = .ok (.iconst (-1), 1) := by decide +kernel
theorem dX6_sheet_11 : decode cX6_sheet 11 = .ok (.iconst 2, 1) := by decide +kernel
theorem dX6_sheet_12 : decode cX6_sheet 12 = .ok (.invokestatic 81, 3) := by decide +kernel
theorem dX6_sheet_15 : decode cX6_sheet 15 = .ok (.ifCond .eq 14, 3) := by decide +kernel
theorem dX6_sheet_18 : decode cX6_sheet 18 = .ok (.iload_n 2, 1) := by decide +kernel
theorem dX6_sheet_19 : decode cX6_sheet 19 = .ok (.iconst (-1), 1) := by decide +kernel
theorem dX6_sheet_20 : decode cX6_sheet 20 = .ok (.if_icmp .eq 12, 3) := by decide +kernel
theorem dX6_sheet_23 : decode cX6_sheet 23 = .ok (.iload_n 3, 1) := by decide +kernel
theorem dX6_sheet_24 : decode cX6_sheet 24 = .ok (.bipush 40, 2) := by decide +kernel
theorem dX6_sheet_26 : decode cX6_sheet 26 = .ok (.if_icmp .le 6, 3) := by decide +kernel
theorem dX6_sheet_29 : decode cX6_sheet 29 = .ok (.bipush (-2), 2) := by decide +kernel
theorem dX6_sheet_31 : decode cX6_sheet 31 = .ok (.ireturn, 1) := by decide +kernel
theorem dX6_sheet_32 : decode cX6_sheet 32 = .ok (.iload_n 2, 1) := by decide +kernel
theorem dX6_sheet_33 : decode cX6_sheet 33 = .ok (.iconst (-1), 1) := by decide +kernel
theorem dX6_sheet_34 : decode cX6_sheet 34 = .ok (.if_icmp .eq 10, 3) := by decide +kernel
theorem dX6_sheet_37 : decode cX6_sheet 37 = .ok (.iload_n 3, 1) := by decide +kernel
theorem dX6_sheet_38 : decode cX6_sheet 38 = .ok (.ifCond .ge 6, 3) := by decide +kernel
theorem dX6_sheet_41 : decode cX6_sheet 41 = .ok (.bipush (-14), 2) := by decide +kernel
theorem dX6_sheet_43 : decode cX6_sheet 43 = .ok (.ireturn, 1) := by decide +kernel
theorem dX6_sheet_44 : decode cX6_sheet 44 = .ok (.aload_n 0, 1) := by decide +kernel
theorem dX6_sheet_45 : decode cX6_sheet 45 = .ok (.getfield 37, 3) := by decide +kernel
theorem dX6_sheet_48 : decode cX6_sheet 48 = .ok (.iload_n 1, 1) := by decide +kernel
theorem dX6_sheet_49 : decode cX6_sheet 49 = .ok (.iload_n 2, 1) := by decide +kernel
theorem dX6_sheet_50 : decode cX6_sheet 50 = .ok (.iastore, 1) := by decide +kernel
theorem dX6_sheet_51 : decode cX6_sheet 51 = .ok (.aload_n 0, 1) := by decide +kernel
theorem dX6_sheet_52 : decode cX6_sheet 52 = .ok (.getfield 40, 3) := by decide +kernel
theorem dX6_sheet_55 : decode cX6_sheet 55 = .ok (.iload_n 1, 1) := by decide +kernel
theorem dX6_sheet_56 : decode cX6_sheet 56 = .ok (.iload_n 2, 1) := by decide +kernel
theorem dX6_sheet_57 : decode cX6_sheet 57 = .ok (.iconst (-1), 1) := by decide +kernel
theorem dX6_sheet_58 : decode cX6_sheet 58 = .ok (.if_icmp .ne 7, 3) := by decide +kernel
theorem dX6_sheet_61 : decode cX6_sheet 61 = .ok (.iconst 0, 1) := by decide +kernel
theorem dX6_sheet_62 : decode cX6_sheet 62 = .ok (.goto 4, 3) := by decide +kernel
theorem dX6_sheet_65 : decode cX6_sheet 65 = .ok (.iload_n 3, 1) := by decide +kernel
theorem dX6_sheet_66 : decode cX6_sheet 66 = .ok (.iastore, 1) := by decide +kernel
theorem dX6_sheet_67 : decode cX6_sheet 67 = .ok (.iconst 0, 1) := by decide +kernel
theorem dX6_sheet_68 : decode cX6_sheet 68 = .ok (.istore 4, 2) := by decide +kernel
theorem dX6_sheet_70 : decode cX6_sheet 70 = .ok (.iload 4, 2) := by decide +kernel
theorem dX6_sheet_72 : decode cX6_sheet 72 = .ok (.bipush 40, 2) := by decide +kernel
theorem dX6_sheet_74 : decode cX6_sheet 74 = .ok (.if_icmp .ge 22, 3) := by decide +kernel
theorem dX6_sheet_77 : decode cX6_sheet 77 = .ok (.aload_n 0, 1) := by decide +kernel
theorem dX6_sheet_78 : decode cX6_sheet 78 = .ok (.getfield 43, 3) := by decide +kernel
theorem dX6_sheet_81 : decode cX6_sheet 81 = .ok (.bipush 40, 2) := by decide +kernel
theorem dX6_sheet_83 : decode cX6_sheet 83 = .ok (.iload_n 1, 1) := by decide +kernel
theorem dX6_sheet_84 : decode cX6_sheet 84 = .ok (.imul, 1) := by decide +kernel
theorem dX6_sheet_85 : decode cX6_sheet 85 = .ok (.iload 4, 2) := by decide +kernel
theorem dX6_sheet_87 : decode cX6_sheet 87 = .ok (.iadd, 1) := by decide +kernel
theorem dX6_sheet_88 : decode cX6_sheet 88 = .ok (.iconst 0, 1) := by decide +kernel
theorem dX6_sheet_89 : decode cX6_sheet 89 = .ok (.iastore, 1) := by decide +kernel
theorem dX6_sheet_90 : decode cX6_sheet 90 = .ok (.iinc 4 1, 3) := by decide +kernel
theorem dX6_sheet_93 : decode cX6_sheet 93 = .ok (.goto (-23), 3) := by decide +kernel
theorem dX6_sheet_96 : decode cX6_sheet 96 = .ok (.iconst 1, 1) := by decide +kernel
theorem dX6_sheet_97 : decode cX6_sheet 97 = .ok (.ireturn, 1) := by decide +kernel
theorem dX6_cell_0 : decode cX6_cell 0 = .ok (.iload_n 1, 1) := by decide +kernel
theorem dX6_cell_1 : decode cX6_cell 1 = .ok (.iconst 0, 1) := by decide +kernel
theorem dX6_cell_2 : decode cX6_cell 2 = .ok (.iconst 3, 1) := by decide +kernel
theorem dX6_cell_3 : decode cX6_cell 3 = .ok (.invokestatic 81, 3) := by decide +kernel
theorem dX6_cell_6 : decode cX6_cell 6 = .ok (.ifCond .ne 6, 3) := by decide +kernel
theorem dX6_cell_9 : decode cX6_cell 9 = .ok (.bipush (-2), 2) := by decide +kernel
theorem dX6_cell_11 : decode cX6_cell 11 = .ok (.ireturn, 1) := by decide +kernel
theorem dX6_cell_12 : decode cX6_cell 12 = .ok (.aload_n 0, 1) := by decide +kernel
theorem dX6_cell_13 : decode cX6_cell 13 = .ok (.getfield 37, 3) := by decide +kernel
theorem dX6_cell_16 : decode cX6_cell 16 = .ok (.iload_n 1, 1) := by decide +kernel
theorem dX6_cell_17 : decode cX6_cell 17 = .ok (.iaload, 1) := by decide +kernel
theorem dX6_cell_18 : decode cX6_cell 18 = .ok (.iconst (-1), 1) := by decide +kernel
theorem dX6_cell_19 : decode cX6_cell 19 = .ok (.if_icmp .ne 6, 3) := by decide +kernel
theorem dX6_cell_22 : decode cX6_cell 22 = .ok (.bipush (-11), 2) := by decide +kernel
theorem dX6_cell_24 : decode cX6_cell 24 = .ok (.ireturn, 1) := by decide +kernel
theorem dX6_cell_25 : decode cX6_cell 25 = .ok (.iload_n 2, 1) := by decide +kernel
theorem dX6_cell_26 : decode cX6_cell 26 = .ok (.iconst 0, 1) := by decide +kernel
theorem dX6_cell_27 : decode cX6_cell 27 = .ok (.aload_n 0, 1) := by decide +kernel
theorem dX6_cell_28 : decode cX6_cell 28 = .ok (.getfield 40, 3) := by decide +kernel
theorem dX6_cell_31 : decode cX6_cell 31 = .ok (.iload_n 1, 1) := by decide +kernel
theorem dX6_cell_32 : decode cX6_cell 32 = .ok (.iaload, 1) := by decide +kernel
theorem dX6_cell_33 : decode cX6_cell 33 = .ok (.iconst 1, 1) := by decide +kernel
theorem dX6_cell_34 : decode cX6_cell 34 = .ok (.isub, 1) := by decide +kernel
theorem dX6_cell_35 : decode cX6_cell 35 = .ok (.invokestatic 81, 3) := by decide +kernel
theorem dX6_cell_38 : decode cX6_cell 38 = .ok (.ifCond .ne 6, 3) := by decide +kernel
theorem dX6_cell_41 : decode cX6_cell 41 = .ok (.bipush (-12), 2) := by decide +kernel
theorem dX6_cell_43 : decode cX6_cell 43 = .ok (.ireturn, 1) := by decide +kernel
theorem dX6_cell_44 : decode cX6_cell 44 = .ok (.aload_n 0, 1) := by decide +kernel
theorem dX6_cell_45 : decode cX6_cell 45 = .ok (.getfield 43, 3) := by decide +kernel
theorem dX6_cell_48 : decode cX6_cell 48 = .ok (.bipush 40, 2) := by decide +kernel
theorem dX6_cell_50 : decode cX6_cell 50 = .ok (.iload_n 1, 1) := by decide +kernel
theorem dX6_cell_51 : decode cX6_cell 51 = .ok (.imul, 1) := by decide +kernel
theorem dX6_cell_52 : decode cX6_cell 52 = .ok (.iload_n 2, 1) := by decide +kernel
theorem dX6_cell_53 : decode cX6_cell 53 = .ok (.iadd, 1) := by decide +kernel
theorem dX6_cell_54 : decode cX6_cell 54 = .ok (.aload_n 0, 1) := by decide +kernel
theorem dX6_cell_55 : decode cX6_cell 55 = .ok (.getfield 37, 3) := by decide +kernel
theorem dX6_cell_58 : decode cX6_cell 58 = .ok (.iload_n 1, 1) := by decide +kernel
theorem dX6_cell_59 : decode cX6_cell 59 = .ok (.iaload, 1) := by decide +kernel
theorem dX6_cell_60 : decode cX6_cell 60 = .ok (.ifCond .ne 8, 3) := by decide +kernel
theorem dX6_cell_63 : decode cX6_cell 63 = .ok (.iload_n 3, 1) := by decide +kernel
theorem dX6_cell_64 : decode cX6_cell 64 = .ok (.i2b, 1) := by decide +kernel
theorem dX6_cell_65 : decode cX6_cell 65 = .ok (.goto 19, 3) := by decide +kernel
theorem dX6_cell_68 : decode cX6_cell 68 = .ok (.aload_n 0, 1) := by decide +kernel
theorem dX6_cell_69 : decode cX6_cell 69 = .ok (.getfield 37, 3) := by decide +kernel
theorem dX6_cell_72 : decode cX6_cell 72 = .ok (.iload_n 1, 1) := by decide +kernel
theorem dX6_cell_73 : decode cX6_cell 73 = .ok (.iaload, 1) := by decide +kernel
theorem dX6_cell_74 : decode cX6_cell 74 = .ok (.iconst 1, 1) := by decide +kernel
theorem dX6_cell_75 : decode cX6_cell 75 = .ok (.if_icmp .ne 8, 3) := by decide +kernel
theorem dX6_cell_78 : decode cX6_cell 78 = .ok (.iload_n 3, 1) := by decide +kernel
theorem dX6_cell_79 : decode cX6_cell 79 = .ok (.i2s, 1) := by decide +kernel
theorem dX6_cell_80 : decode cX6_cell 80 = .ok (.goto 4, 3) := by decide +kernel
theorem dX6_cell_83 : decode cX6_cell 83 = .ok (.iload_n 3, 1) := by decide +kernel
theorem dX6_cell_84 : decode cX6_cell 84 = .ok (.iastore, 1) := by decide +kernel
theorem dX6_cell_85 : decode cX6_cell 85 = .ok (.iconst 1, 1) := by decide +kernel
theorem dX6_cell_86 : decode cX6_cell 86 = .ok (.ireturn, 1) := by decide +kernel
theorem dX6_copy_0 : decode cX6_copy 0 = .ok (.iload_n 1, 1) := by decide +kernel
theorem dX6_copy_1 : decode cX6_copy 1 = .ok (.iconst 0, 1) := by decide +kernel
theorem dX6_copy_2 : decode cX6_copy 2 = .ok (.iconst 3, 1) := by decide +kernel
theorem dX6_copy_3 : decode cX6_copy 3 = .ok (.invokestatic 81, 3) := by decide +kernel
theorem dX6_copy_6 : decode cX6_copy 6 = .ok (.ifCond .eq 12, 3) := by decide +kernel
theorem dX6_copy_9 : decode cX6_copy 9 = .ok (.iload_n 3, 1) := by decide +kernel
theorem dX6_copy_10 : decode cX6_copy 10 = .ok (.iconst 0, 1) := by decide +kernel
theorem dX6_copy_11 : decode cX6_copy 11 = .ok (.iconst 3, 1) := by decide +kernel
theorem dX6_copy_12 : decode cX6_copy 12 = .ok (.invokestatic 81, 3) := by decide +kernel
theorem dX6_copy_15 : decode cX6_copy 15 = .ok (.ifCond .ne 6, 3) := by decide +kernel
theorem dX6_copy_18 : decode cX6_copy 18 = .ok (.bipush (-2), 2) := by decide +kernel
theorem dX6_copy_20 : decode cX6_copy 20 = .ok (.ireturn, 1) := by decide +kernel
theorem dX6_copy_21 : decode cX6_copy 21 = .ok (.aload_n 0, 1) := by decide +kernel
theorem dX6_copy_22 : decode cX6_copy 22 = .ok (.getfield 37, 3) := by decide +kernel
theorem dX6_copy_25 : decode cX6_copy 25 = .ok (.iload_n 1, 1) := by decide +kernel
theorem dX6_copy_26 : decode cX6_copy 26 = .ok (.iaload, 1) := by decide +kernel
theorem dX6_copy_27 : decode cX6_copy 27 = .ok (.iconst (-1), 1) := by decide +kernel
theorem dX6_copy_28 : decode cX6_copy 28 = .ok (.if_icmp .eq 13, 3) := by decide +kernel
theorem dX6_copy_31 : decode cX6_copy 31 = .ok (.aload_n 0, 1) := by decide +kernel
theorem dX6_copy_32 : decode cX6_copy 32 = .ok (.getfield 37, 3) := by decide +kernel
theorem dX6_copy_35 : decode cX6_copy 35 = .ok (.iload_n 3, 1) := by decide +kernel
theorem dX6_copy_36 : decode cX6_copy 36 = .ok (.iaload, 1) := by decide +kernel
theorem dX6_copy_37 : decode cX6_copy 37 = .ok (.iconst (-1), 1) := by decide +kernel
theorem dX6_copy_38 : decode cX6_copy 38 = .ok (.if_icmp .ne 6, 3) := by decide +kernel
theorem dX6_copy_41 : decode cX6_copy 41 = .ok (.bipush (-11), 2) := by decide +kernel
theorem dX6_copy_43 : decode cX6_copy 43 = .ok (.ireturn, 1) := by decide +kernel
theorem dX6_copy_44 : decode cX6_copy 44 = .ok (.aload_n 0, 1) := by decide +kernel
theorem dX6_copy_45 : decode cX6_copy 45 = .ok (.getfield 37, 3) := by decide +kernel
theorem dX6_copy_48 : decode cX6_copy 48 = .ok (.iload_n 1, 1) := by decide +kernel
theorem dX6_copy_49 : decode cX6_copy 49 = .ok (.iaload, 1) := by decide +kernel
theorem dX6_copy_50 : decode cX6_copy 50 = .ok (.aload_n 0, 1) := by decide +kernel
theorem dX6_copy_51 : decode cX6_copy 51 = .ok (.getfield 37, 3) := by decide +kernel
theorem dX6_copy_54 : decode cX6_copy 54 = .ok (.iload_n 3, 1) := by decide +kernel
theorem dX6_copy_55 : decode cX6_copy 55 = .ok (.iaload, 1) := by decide +kernel
theorem dX6_copy_56 : decode cX6_copy 56 = .ok (.if_icmp .eq 6, 3) := by decide +kernel
theorem dX6_copy_59 : decode cX6_copy 59 = .ok (.bipush (-13), 2) := by decide +kernel
theorem dX6_copy_61 : decode cX6_copy 61 = .ok (.ireturn, 1) := by decide +kernel
theorem dX6_copy_62 : decode cX6_copy 62 = .ok (.iload 5, 2) := by decide +kernel
theorem dX6_copy_64 : decode cX6_copy 64 = .ok (.ifCond .lt 60, 3) := by decide +kernel
theorem dX6_copy_67 : decode cX6_copy 67 = .ok (.iload_n 2, 1) := by decide +kernel
theorem dX6_copy_68 : decode cX6_copy 68 = .ok (.ifCond .lt 56, 3) := by decide +kernel
theorem dX6_copy_71 : decode cX6_copy 71 = .ok (.iload 4, 2) := by decide +kernel
theorem dX6_copy_73 : decode cX6_copy 73 = .ok (.ifCond .lt 51, 3) := by decide +kernel
theorem dX6_copy_76 : decode cX6_copy 76 = .ok (.iload_n 2, 1) := by decide +kernel
theorem dX6_copy_77 : decode cX6_copy 77 = .ok (.aload_n 0, 1) := by decide +kernel
theorem dX6_copy_78 : decode cX6_copy 78 = .ok (.getfield 40, 3) := by decide +kernel
theorem dX6_copy_81 : decode cX6_copy 81 = .ok (.iload_n 1, 1) := by decide +kernel
theorem dX6_copy_82 : decode cX6_copy 82 = .ok (.iaload, 1) := by decide +kernel
theorem dX6_copy_83 : decode cX6_copy 83 = .ok (.if_icmp .gt 41, 3) := by decide +kernel
theorem dX6_copy_86 : decode cX6_copy 86 = .ok (.iload 4, 2) := by decide +kernel
theorem dX6_copy_88 : decode cX6_copy 88 = .ok (.aload_n 0, 1) := by decide +kernel
theorem dX6_copy_89 : decode cX6_copy 89 = .ok (.getfield 40, 3) := by decide +kernel
theorem dX6_copy_92 : decode cX6_copy 92 = .ok (.iload_n 3, 1) := by decide +kernel
theorem dX6_copy_93 : decode cX6_copy 93 = .ok (.iaload, 1) := by decide +kernel
theorem dX6_copy_94 : decode cX6_copy 94 = .ok (.if_icmp .gt 30, 3) := by decide +kernel
theorem dX6_copy_97 : decode cX6_copy 97 = .ok (.iload 5, 2) := by decide +kernel
theorem dX6_copy_99 : decode cX6_copy 99 = .ok (.aload_n 0, 1) := by decide +kernel
theorem dX6_copy_100 : decode cX6_copy 100 = .ok (.getfield 40, 3) := by decide +kernel
theorem dX6_copy_103 : decode cX6_copy 103 = .ok (.iload_n 1, 1) := by decide +kernel
theorem dX6_copy_104 : decode cX6_copy 104 = .ok (.iaload, 1) := by decide +kernel
theorem dX6_copy_105 : decode cX6_copy 105 = .ok (.iload_n 2, 1) := by decide +kernel
theorem dX6_copy_106 : decode cX6_copy 106 = .ok (.isub, 1) := by decide +kernel
theorem dX6_copy_107 : decode cX6_copy 107 = .ok (.if_icmp .gt 17, 3) := by decide +kernel
theorem dX6_copy_110 : decode cX6_copy 110 = .ok (.iload 5, 2) := by decide +kernel
theorem dX6_copy_112 : decode cX6_copy 112 = .ok (.aload_n 0, 1) := by decide +kernel
theorem dX6_copy_113 : decode cX6_copy 113 = .ok (.getfield 40, 3) := by decide +kernel
theorem dX6_copy_116 : decode cX6_copy 116 = .ok (.iload_n 3, 1) := by decide +kernel
theorem dX6_copy_117 : decode cX6_copy 117 = .ok (.iaload, 1) := by decide +kernel
theorem dX6_copy_118 : decode cX6_copy 118 = .ok (.iload 4, 2) := by decide +kernel
theorem dX6_copy_120 : decode cX6_copy 120 = .ok (.isub, 1) := by decide +kernel
theorem dX6_copy_121 : decode cX6_copy 121 = .ok (.if_icmp .le 6, 3) := by decide +kernel
theorem dX6_copy_124 : decode cX6_copy 124 = .ok (.bipush (-12), 2) := by decide +kernel
theorem dX6_copy_126 : decode cX6_copy 126 = .ok (.ireturn, 1) := by decide +kernel
theorem dX6_copy_127 : decode cX6_copy 127 = .ok (.bipush 40, 2) := by decide +kernel
theorem dX6_copy_129 : decode cX6_copy 129 = .ok (.iload_n 1, 1) := by decide +kernel
theorem dX6_copy_130 : decode cX6_copy 130 = .ok (.imul, 1) := by decide +kernel
theorem dX6_copy_131 : decode cX6_copy 131 = .ok (.iload_n 2, 1) := by decide +kernel
theorem dX6_copy_132 : decode cX6_copy 132 = .ok (.iadd, 1) := by decide +kernel
theorem dX6_copy_133 : decode cX6_copy 133 = .ok (.istore 6, 2) := by decide +kernel
theorem dX6_copy_135 : decode cX6_copy 135 = .ok (.bipush 40, 2) := by decide +kernel
theorem dX6_copy_137 : decode cX6_copy 137 = .ok (.iload_n 3, 1) := by decide +kernel
theorem dX6_copy_138 : decode cX6_copy 138 = .ok (.imul, 1) := by decide +kernel
theorem dX6_copy_139 : decode cX6_copy 139 = .ok (.iload 4, 2) := by decide +kernel
theorem dX6_copy_141 : decode cX6_copy 141 = .ok (.iadd, 1) := by decide +kernel
theorem dX6_copy_142 : decode cX6_copy 142 = .ok (.istore 7, 2) := by decide +kernel
theorem dX6_copy_144 : decode cX6_copy 144 = .ok (.iconst 0, 1) := by decide +kernel
theorem dX6_copy_145 : decode cX6_copy 145 = .ok (.istore 8, 2) := by decide +kernel
theorem dX6_copy_147 : decode cX6_copy 147 = .ok (.iload 8, 2) := by decide +kernel
theorem dX6_copy_149 : decode cX6_copy 149 = .ok (.iload 5, 2) := by decide +kernel
theorem dX6_copy_151 : decode cX6_copy 151 = .ok (.if_icmp .ge 50, 3) := by decide +kernel
theorem dX6_copy_154 : decode cX6_copy 154 = .ok (.iload 6, 2) := by decide +kernel
theorem dX6_copy_156 : decode cX6_copy 156 = .ok (.iload 7, 2) := by decide +kernel
theorem dX6_copy_158 : decode cX6_copy 158 = .ok (.if_icmp .ge 13, 3) := by decide +kernel
theorem dX6_copy_161 : decode cX6_copy 161 = .ok (.iload 5, 2) := by decide +kernel
theorem dX6_copy_163 : decode cX6_copy 163 = .ok (.iconst 1, 1) := by decide +kernel
theorem dX6_copy_164 : decode cX6_copy 164 = .ok (.isub, 1) := by decide +kernel
theorem dX6_copy_165 : decode cX6_copy 165 = .ok (.iload 8, 2) := by decide +kernel
theorem dX6_copy_167 : decode cX6_copy 167 = .ok (.isub, 1) := by decide +kernel
theorem dX6_copy_168 : decode cX6_copy 168 = .ok (.goto 5, 3) := by decide +kernel
theorem dX6_copy_171 : decode cX6_copy 171 = .ok (.iload 8, 2) := by decide +kernel
theorem dX6_copy_173 : decode cX6_copy 173 = .ok (.istore 9, 2) := by decide +kernel
theorem dX6_copy_175 : decode cX6_copy 175 = .ok (.aload_n 0, 1) := by decide +kernel
theorem dX6_copy_176 : decode cX6_copy 176 = .ok (.getfield 43, 3) := by decide +kernel
theorem dX6_copy_179 : decode cX6_copy 179 = .ok (.iload 7, 2) := by decide +kernel
theorem dX6_copy_181 : decode cX6_copy 181 = .ok (.iload 9, 2) := by decide +kernel
theorem dX6_copy_183 : decode cX6_copy 183 = .ok (.iadd, 1) := by decide +kernel
theorem dX6_copy_184 : decode cX6_copy 184 = .ok (.aload_n 0, 1) := by decide +kernel
theorem dX6_copy_185 : decode cX6_copy 185 = .ok (.getfield 43, 3) := by decide +kernel
theorem dX6_copy_188 : decode cX6_copy 188 = .ok (.iload 6, 2) := by decide +kernel
theorem dX6_copy_190 : decode cX6_copy 190 = .ok (.iload 9, 2) := by decide +kernel
theorem dX6_copy_192 : decode cX6_copy 192 = .ok (.iadd, 1) := by decide +kernel
theorem dX6_copy_193 : decode cX6_copy 193 = .ok (.iaload, 1) := by decide +kernel
theorem dX6_copy_194 : decode cX6_copy 194 = .ok (.iastore, 1) := by decide +kernel
theorem dX6_copy_195 : decode cX6_copy 195 = .ok (.iinc 8 1, 3) := by decide +kernel
theorem dX6_copy_198 : decode cX6_copy 198 = .ok (.goto (-51), 3) := by decide +kernel
theorem dX6_copy_201 : decode cX6_copy 201 = .ok (.iload 5, 2) := by decide +kernel
theorem dX6_copy_203 : decode cX6_copy 203 = .ok (.ireturn, 1) := by decide +kernel
theorem dX6_townBy_0 : decode cX6_townBy 0 = .ok (.iload_n 1, 1) := by decide +kernel
theorem dX6_townBy_1 : decode cX6_townBy 1 = .ok (.iconst 0, 1) := by decide +kernel
theorem dX6_townBy_2 : decode cX6_townBy 2 = .ok (.iconst 3, 1) := by decide +kernel
theorem dX6_townBy_3 : decode cX6_townBy 3 = .ok (.invokestatic 81, 3) := by decide +kernel
theorem dX6_townBy_6 : decode cX6_townBy 6 = .ok (.ifCond .eq 23, 3) := by decide +kernel
theorem dX6_townBy_9 : decode cX6_townBy 9 = .ok (.iload_n 2, 1) := by decide +kernel
theorem dX6_townBy_10 : decode cX6_townBy 10 = .ok (.iconst 0, 1) := by decide +kernel
theorem dX6_townBy_11 : decode cX6_townBy 11 = .ok (.iconst 2, 1) := by decide +kernel
theorem dX6_townBy_12 : decode cX6_townBy 12 = .ok (.invokestatic 81, 3) := by decide +kernel
theorem dX6_townBy_15 : decode cX6_townBy 15 = .ok (.ifCond .eq 14, 3) := by decide +kernel
theorem dX6_townBy_18 : decode cX6_townBy 18 = .ok (.iload 4, 2) := by decide +kernel
theorem dX6_townBy_20 : decode cX6_townBy 20 = .ok (.iconst 0, 1) := by decide +kernel
theorem dX6_townBy_21 : decode cX6_townBy 21 = .ok (.bipush 6, 2) := by decide +kernel
theorem dX6_townBy_23 : decode cX6_townBy 23 = .ok (.invokestatic 81, 3) := by decide +kernel
theorem dX6_townBy_26 : decode cX6_townBy 26 = .ok (.ifCond .ne 6, 3) := by decide +kernel
theorem dX6_townBy_29 : decode cX6_townBy 29 = .ok (.bipush (-2), 2) := by decide +kernel
theorem dX6_townBy_31 : decode cX6_townBy 31 = .ok (.ireturn, 1) := by decide +kernel
theorem dX6_townBy_32 : decode cX6_townBy 32 = .ok (.aload_n 0, 1) := by decide +kernel
theorem dX6_townBy_33 : decode cX6_townBy 33 = .ok (.getfield 37, 3) := by decide +kernel
theorem dX6_townBy_36 : decode cX6_townBy 36 = .ok (.iload_n 1, 1) := by decide +kernel
theorem dX6_townBy_37 : decode cX6_townBy 37 = .ok (.iaload, 1) := by decide +kernel
theorem dX6_townBy_38 : decode cX6_townBy 38 = .ok (.iconst (-1), 1) := by decide +kernel
theorem dX6_townBy_39 : decode cX6_townBy 39 = .ok (.if_icmp .ne 6, 3) := by decide +kernel
theorem dX6_townBy_42 : decode cX6_townBy 42 = .ok (.bipush (-11), 2) := by decide +kernel
theorem dX6_townBy_44 : decode cX6_townBy 44 = .ok (.ireturn, 1) := by decide +kernel
theorem dX6_townBy_45 : decode cX6_townBy 45 = .ok (.aload_n 0, 1) := by decide +kernel
theorem dX6_townBy_46 : decode cX6_townBy 46 = .ok (.getfield 37, 3) := by decide +kernel
theorem dX6_townBy_49 : decode cX6_townBy 49 = .ok (.iload_n 1, 1) := by decide +kernel
theorem dX6_townBy_50 : decode cX6_townBy 50 = .ok (.iaload, 1) := by decide +kernel
theorem dX6_townBy_51 : decode cX6_townBy 51 = .ok (.iload_n 2, 1) := by decide +kernel
theorem dX6_townBy_52 : decode cX6_townBy 52 = .ok (.if_icmp .eq 6, 3) := by decide +kernel
theorem dX6_townBy_55 : decode cX6_townBy 55 = .ok (.bipush (-13), 2) := by decide +kernel
theorem dX6_townBy_57 : decode cX6_townBy 57 = .ok (.ireturn, 1) := by decide +kernel
theorem dX6_townBy_58 : decode cX6_townBy 58 = .ok (.iconst 0, 1) := by decide +kernel
theorem dX6_townBy_59 : decode cX6_townBy 59 = .ok (.istore 5, 2) := by decide +kernel
theorem dX6_townBy_61 : decode cX6_townBy 61 = .ok (.iconst 0, 1) := by decide +kernel
theorem dX6_townBy_62 : decode cX6_townBy 62 = .ok (.istore 6, 2) := by decide +kernel
theorem dX6_townBy_64 : decode cX6_townBy 64 = .ok (.iload 6, 2) := by decide +kernel
theorem dX6_townBy_66 : decode cX6_townBy 66 = .ok (.iload 4, 2) := by decide +kernel
theorem dX6_townBy_68 : decode cX6_townBy 68 = .ok (.if_icmp .ge 94, 3) := by decide +kernel
theorem dX6_townBy_71 : decode cX6_townBy 71 = .ok (.iload_n 3, 1) := by decide +kernel
theorem dX6_townBy_72 : decode cX6_townBy 72 = .ok (.iconst 3, 1) := by decide +kernel
theorem dX6_townBy_73 : decode cX6_townBy 73 = .ok (.iload 6, 2) := by decide +kernel
theorem dX6_townBy_75 : decode cX6_townBy 75 = .ok (.imul, 1) := by decide +kernel
theorem dX6_townBy_76 : decode cX6_townBy 76 = .ok (.iadd, 1) := by decide +kernel
theorem dX6_townBy_77 : decode cX6_townBy 77 = .ok (.istore 7, 2) := by decide +kernel
theorem dX6_townBy_79 : decode cX6_townBy 79 = .ok (.iload_n 3, 1) := by decide +kernel
theorem dX6_townBy_80 : decode cX6_townBy 80 = .ok (.ifCond .lt 22, 3) := by decide +kernel
theorem dX6_townBy_83 : decode cX6_townBy 83 = .ok (.iload 7, 2) := by decide +kernel
theorem dX6_townBy_85 : decode cX6_townBy 85 = .ok (.iload_n 3, 1) := by decide +kernel
theorem dX6_townBy_86 : decode cX6_townBy 86 = .ok (.if_icmp .lt 16, 3) := by decide +kernel
theorem dX6_townBy_89 : decode cX6_townBy 89 = .ok (.iload 7, 2) := by decide +kernel
theorem dX6_townBy_91 : decode cX6_townBy 91 = .ok (.aload_n 0, 1) := by decide +kernel
theorem dX6_townBy_92 : decode cX6_townBy 92 = .ok (.getfield 40, 3) := by decide +kernel
theorem dX6_townBy_95 : decode cX6_townBy 95 = .ok (.iload_n 1, 1) := by decide +kernel
theorem dX6_townBy_96 : decode cX6_townBy 96 = .ok (.iaload, 1) := by decide +kernel
theorem dX6_townBy_97 : decode cX6_townBy 97 = .ok (.iconst 3, 1) := by decide +kernel
theorem dX6_townBy_98 : decode cX6_townBy 98 = .ok (.isub, 1) := by decide +kernel
theorem dX6_townBy_99 : decode cX6_townBy 99 = .ok (.if_icmp .le 6, 3) := by decide +kernel
theorem dX6_townBy_102 : decode cX6_townBy 102 = .ok (.bipush (-12), 2) := by decide +kernel
theorem dX6_townBy_104 : decode cX6_townBy 104 = .ok (.ireturn, 1) := by decide +kernel
theorem dX6_townBy_105 : decode cX6_townBy 105 = .ok (.bipush 40, 2) := by decide +kernel
theorem dX6_townBy_107 : decode cX6_townBy 107 = .ok (.iload_n 1, 1) := by decide +kernel
theorem dX6_townBy_108 : decode cX6_townBy 108 = .ok (.imul, 1) := by decide +kernel
theorem dX6_townBy_109 : decode cX6_townBy 109 = .ok (.iload 7, 2) := by decide +kernel
theorem dX6_townBy_111 : decode cX6_townBy 111 = .ok (.iadd, 1) := by decide +kernel
theorem dX6_townBy_112 : decode cX6_townBy 112 = .ok (.istore 8, 2) := by decide +kernel
theorem dX6_townBy_114 : decode cX6_townBy 114 = .ok (.iload 5, 2) := by decide +kernel
theorem dX6_townBy_116 : decode cX6_townBy 116 = .ok (.aload_n 0, 1) := by decide +kernel
theorem dX6_townBy_117 : decode cX6_townBy 117 = .ok (.aload_n 0, 1) := by decide +kernel
theorem dX6_townBy_118 : decode cX6_townBy 118 = .ok (.getfield 43, 3) := by decide +kernel
theorem dX6_townBy_121 : decode cX6_townBy 121 = .ok (.iload 8, 2) := by decide +kernel
theorem dX6_townBy_123 : decode cX6_townBy 123 = .ok (.iaload, 1) := by decide +kernel
theorem dX6_townBy_124 : decode cX6_townBy 124 = .ok (.aload_n 0, 1) := by decide +kernel
theorem dX6_townBy_125 : decode cX6_townBy 125 = .ok (.getfield 43, 3) := by decide +kernel
theorem dX6_townBy_128 : decode cX6_townBy 128 = .ok (.iload 8, 2) := by decide +kernel
theorem dX6_townBy_130 : decode cX6_townBy 130 = .ok (.iconst 1, 1) := by decide +kernel
theorem dX6_townBy_131 : decode cX6_townBy 131 = .ok (.iadd, 1) := by decide +kernel
theorem dX6_townBy_132 : decode cX6_townBy 132 = .ok (.iaload, 1) := by decide +kernel
theorem dX6_townBy_133 : decode cX6_townBy 133 = .ok (.aload_n 0, 1) := by decide +kernel
theorem dX6_townBy_134 : decode cX6_townBy 134 = .ok (.getfield 43, 3) := by decide +kernel
theorem dX6_townBy_137 : decode cX6_townBy 137 = .ok (.iload 8, 2) := by decide +kernel
theorem dX6_townBy_139 : decode cX6_townBy 139 = .ok (.iconst 2, 1) := by decide +kernel
theorem dX6_townBy_140 : decode cX6_townBy 140 = .ok (.iadd, 1) := by decide +kernel
theorem dX6_townBy_141 : decode cX6_townBy 141 = .ok (.iaload, 1) := by decide +kernel
theorem dX6_townBy_142 : decode cX6_townBy 142 = .ok (.invokevirtual 258, 3) := by decide +kernel
theorem dX6_townBy_145 : decode cX6_townBy 145 = .ok (.ifCond .lt 7, 3) := by decide +kernel
theorem dX6_townBy_148 : decode cX6_townBy 148 = .ok (.iconst 1, 1) := by decide +kernel
theorem dX6_townBy_149 : decode cX6_townBy 149 = .ok (.goto 4, 3) := by decide +kernel
theorem dX6_townBy_152 : decode cX6_townBy 152 = .ok (.iconst 0, 1) := by decide +kernel
theorem dX6_townBy_153 : decode cX6_townBy 153 = .ok (.iadd, 1) := by decide +kernel
theorem dX6_townBy_154 : decode cX6_townBy 154 = .ok (.istore 5, 2) := by decide +kernel
theorem dX6_townBy_156 : decode cX6_townBy 156 = .ok (.iinc 6 1, 3) := by decide +kernel
theorem dX6_townBy_159 : decode cX6_townBy 159 = .ok (.goto (-95), 3) := by decide +kernel
theorem dX6_townBy_162 : decode cX6_townBy 162 = .ok (.iload 5, 2) := by decide +kernel
theorem dX6_townBy_164 : decode cX6_townBy 164 = .ok (.ireturn, 1) := by decide +kernel
theorem dX6_isUnder_0 : decode cX6_isUnder 0 = .ok (.iload_n 1, 1) := by decide +kernel
theorem dX6_isUnder_1 : decode cX6_isUnder 1 = .ok (.ifCond .eq 28, 3) := by decide +kernel
theorem dX6_isUnder_4 : decode cX6_isUnder 4 = .ok (.iload_n 0, 1) := by decide +kernel
theorem dX6_isUnder_5 : decode cX6_isUnder 5 = .ok (.iload_n 1, 1) := by decide +kernel
theorem dX6_isUnder_6 : decode cX6_isUnder 6 = .ok (.if_icmp .eq 23, 3) := by decide +kernel
theorem dX6_isUnder_9 : decode cX6_isUnder 9 = .ok (.iload_n 1, 1) := by decide +kernel
theorem dX6_isUnder_10 : decode cX6_isUnder 10 = .ok (.iconst 1, 1) := by decide +kernel
theorem dX6_isUnder_11 : decode cX6_isUnder 11 = .ok (.if_icmp .ne 8, 3) := by decide +kernel
theorem dX6_isUnder_14 : decode cX6_isUnder 14 = .ok (.iload_n 0, 1) := by decide +kernel
theorem dX6_isUnder_15 : decode cX6_isUnder 15 = .ok (.iconst 3, 1) := by decide +kernel
theorem dX6_isUnder_16 : decode cX6_isUnder 16 = .ok (.if_icmp .eq 13, 3) := by decide +kernel
theorem dX6_isUnder_19 : decode cX6_isUnder 19 = .ok (.iload_n 1, 1) := by decide +kernel
theorem dX6_isUnder_20 : decode cX6_isUnder 20 = .ok (.iconst 2, 1) := by decide +kernel
theorem dX6_isUnder_21 : decode cX6_isUnder 21 = .ok (.if_icmp .ne 12, 3) := by decide +kernel
theorem dX6_isUnder_24 : decode cX6_isUnder 24 = .ok (.iload_n 0, 1) := by decide +kernel
theorem dX6_isUnder_25 : decode cX6_isUnder 25 = .ok (.iconst 4, 1) := by decide +kernel
theorem dX6_isUnder_26 : decode cX6_isUnder 26 = .ok (.if_icmp .ne 7, 3) := by decide +kernel
theorem dX6_isUnder_29 : decode cX6_isUnder 29 = .ok (.iconst 1, 1) := by decide +kernel
theorem dX6_isUnder_30 : decode cX6_isUnder 30 = .ok (.goto 4, 3) := by decide +kernel
theorem dX6_isUnder_33 : decode cX6_isUnder 33 = .ok (.iconst 0, 1) := by decide +kernel
theorem dX6_isUnder_34 : decode cX6_isUnder 34 = .ok (.ireturn, 1) := by decide +kernel
theorem dX6_taken_0 : decode cX6_taken 0 = .ok (.iload_n 2, 1) := by decide +kernel
theorem dX6_taken_1 : decode cX6_taken 1 = .ok (.iconst 0, 1) := by decide +kernel
theorem dX6_taken_2 : decode cX6_taken 2 = .ok (.bipush 6, 2) := by decide +kernel
theorem dX6_taken_4 : decode cX6_taken 4 = .ok (.invokestatic 81, 3) := by decide +kernel
theorem dX6_taken_7 : decode cX6_taken 7 = .ok (.ifCond .ne 6, 3) := by decide +kernel
theorem dX6_taken_10 : decode cX6_taken 10 = .ok (.bipush (-2), 2) := by decide +kernel
theorem dX6_taken_12 : decode cX6_taken 12 = .ok (.ireturn, 1) := by decide +kernel
theorem dX6_taken_13 : decode cX6_taken 13 = .ok (.iload_n 1, 1) := by decide +kernel
theorem dX6_taken_14 : decode cX6_taken 14 = .ok (.iconst 0, 1) := by decide +kernel
theorem dX6_taken_15 : decode cX6_taken 15 = .ok (.bipush 11, 2) := by decide +kernel
theorem dX6_taken_17 : decode cX6_taken 17 = .ok (.invokestatic 81, 3) := by decide +kernel
theorem dX6_taken_20 : decode cX6_taken 20 = .ok (.ifCond .ne 6, 3) := by decide +kernel
theorem dX6_taken_23 : decode cX6_taken 23 = .ok (.bipush (-12), 2) := by decide +kernel
theorem dX6_taken_25 : decode cX6_taken 25 = .ok (.ireturn, 1) := by decide +kernel
theorem dX6_taken_26 : decode cX6_taken 26 = .ok (.iload_n 1, 1) := by decide +kernel
theorem dX6_taken_27 : decode cX6_taken 27 = .ok (.bipush 6, 2) := by decide +kernel
theorem dX6_taken_29 : decode cX6_taken 29 = .ok (.irem, 1) := by decide +kernel
theorem dX6_taken_30 : decode cX6_taken 30 = .ok (.aload_n 0, 1) := by decide +kernel
theorem dX6_taken_31 : decode cX6_taken 31 = .ok (.getfield 78, 3) := by decide +kernel
theorem dX6_taken_34 : decode cX6_taken 34 = .ok (.if_icmp .lt 6, 3) := by decide +kernel
theorem dX6_taken_37 : decode cX6_taken 37 = .ok (.bipush (-11), 2) := by decide +kernel
theorem dX6_taken_39 : decode cX6_taken 39 = .ok (.ireturn, 1) := by decide +kernel
theorem dX6_taken_40 : decode cX6_taken 40 = .ok (.iload_n 1, 1) := by decide +kernel
theorem dX6_taken_41 : decode cX6_taken 41 = .ok (.bipush 6, 2) := by decide +kernel
theorem dX6_taken_43 : decode cX6_taken 43 = .ok (.if_icmp .lt 28, 3) := by decide +kernel
theorem dX6_taken_46 : decode cX6_taken 46 = .ok (.iload_n 2, 1) := by decide +kernel
theorem dX6_taken_47 : decode cX6_taken 47 = .ok (.bipush 6, 2) := by decide +kernel
theorem dX6_taken_49 : decode cX6_taken 49 = .ok (.if_icmp .ne 19, 3) := by decide +kernel
theorem dX6_taken_52 : decode cX6_taken 52 = .ok (.aload_n 0, 1) := by decide +kernel
theorem dX6_taken_53 : decode cX6_taken 53 = .ok (.getfield 16, 3) := by decide +kernel
theorem dX6_taken_56 : decode cX6_taken 56 = .ok (.iconst 4, 1) := by decide +kernel
theorem dX6_taken_57 : decode cX6_taken 57 = .ok (.iload_n 1, 1) := by decide +kernel
theorem dX6_taken_58 : decode cX6_taken 58 = .ok (.bipush 6, 2) := by decide +kernel
theorem dX6_taken_60 : decode cX6_taken 60 = .ok (.isub, 1) := by decide +kernel
theorem dX6_taken_61 : decode cX6_taken 61 = .ok (.imul, 1) := by decide +kernel
theorem dX6_taken_62 : decode cX6_taken 62 = .ok (.iconst 2, 1) := by decide +kernel
theorem dX6_taken_63 : decode cX6_taken 63 = .ok (.iadd, 1) := by decide +kernel
theorem dX6_taken_64 : decode cX6_taken 64 = .ok (.iaload, 1) := by decide +kernel
theorem dX6_taken_65 : decode cX6_taken 65 = .ok (.goto 5, 3) := by decide +kernel
theorem dX6_taken_68 : decode cX6_taken 68 = .ok (.bipush (-13), 2) := by decide +kernel
theorem dX6_taken_70 : decode cX6_taken 70 = .ok (.ireturn, 1) := by decide +kernel
theorem dX6_taken_71 : decode cX6_taken 71 = .ok (.iload_n 2, 1) := by decide +kernel
theorem dX6_taken_72 : decode cX6_taken 72 = .ok (.bipush 6, 2) := by decide +kernel
theorem dX6_taken_74 : decode cX6_taken 74 = .ok (.if_icmp .ge 20, 3) := by decide +kernel
theorem dX6_taken_77 : decode cX6_taken 77 = .ok (.aload_n 0, 1) := by decide +kernel
theorem dX6_taken_78 : decode cX6_taken 78 = .ok (.getfield 7, 3) := by decide +kernel
theorem dX6_taken_81 : decode cX6_taken 81 = .ok (.iload_n 1, 1) := by decide +kernel
theorem dX6_taken_82 : decode cX6_taken 82 = .ok (.iaload, 1) := by decide +kernel
theorem dX6_taken_83 : decode cX6_taken 83 = .ok (.iload_n 2, 1) := by decide +kernel
theorem dX6_taken_84 : decode cX6_taken 84 = .ok (.invokestatic 261, 3) := by decide +kernel
theorem dX6_taken_87 : decode cX6_taken 87 = .ok (.ifCond .eq 7, 3) := by decide +kernel
theorem dX6_taken_90 : decode cX6_taken 90 = .ok (.iload_n 1, 1) := by decide +kernel
theorem dX6_taken_91 : decode cX6_taken 91 = .ok (.goto 5, 3) := by decide +kernel
theorem dX6_taken_94 : decode cX6_taken 94 = .ok (.bipush (-13), 2) := by decide +kernel
theorem dX6_taken_96 : decode cX6_taken 96 = .ok (.ireturn, 1) := by decide +kernel
theorem dJ6_bitCount_0f7a4_0 : decode cJ6_bitCount_0f7a4 0 = .ok (.iload_n 0, 1) := by decide +kernel
theorem dJ6_bitCount_0f7a4_1 : decode cJ6_bitCount_0f7a4 1 = .ok (.iload_n 0, 1) := by decide +kernel
theorem dJ6_bitCount_0f7a4_2 : decode cJ6_bitCount_0f7a4 2 = .ok (.iconst 1, 1) := by decide +kernel
theorem dJ6_bitCount_0f7a4_3 : decode cJ6_bitCount_0f7a4 3 = .ok (.iushr, 1) := by decide +kernel
theorem dJ6_bitCount_0f7a4_4 : decode cJ6_bitCount_0f7a4 4 = .ok (.ldc_w 265, 3) := by decide +kernel
theorem dJ6_bitCount_0f7a4_7 : decode cJ6_bitCount_0f7a4 7 = .ok (.iand, 1) := by decide +kernel
theorem dJ6_bitCount_0f7a4_8 : decode cJ6_bitCount_0f7a4 8 = .ok (.isub, 1) := by decide +kernel
theorem dJ6_bitCount_0f7a4_9 : decode cJ6_bitCount_0f7a4 9 = .ok (.istore_n 0, 1) := by decide +kernel
theorem dJ6_bitCount_0f7a4_10 : decode cJ6_bitCount_0f7a4 10 = .ok (.iload_n 0, 1) := by decide +kernel
theorem dJ6_bitCount_0f7a4_11 : decode cJ6_bitCount_0f7a4 11 = .ok (.ldc_w 266, 3) := by decide +kernel
theorem dJ6_bitCount_0f7a4_14 : decode cJ6_bitCount_0f7a4 14 = .ok (.iand, 1) := by decide +kernel
theorem dJ6_bitCount_0f7a4_15 : decode cJ6_bitCount_0f7a4 15 = .ok (.iload_n 0, 1) := by decide +kernel
theorem dJ6_bitCount_0f7a4_16 : decode cJ6_bitCount_0f7a4 16 = .ok (.iconst 2, 1) := by decide +kernel
theorem dJ6_bitCount_0f7a4_17 : decode cJ6_bitCount_0f7a4 17 = .ok (.iushr, 1) := by decide +kernel
theorem dJ6_bitCount_0f7a4_18 : decode cJ6_bitCount_0f7a4 18 = .ok (.ldc_w 266, 3) := by decide +kernel
theorem dJ6_bitCount_0f7a4_21 : decode cJ6_bitCount_0f7a4 21 = .ok (.iand, 1) := by decide +kernel
theorem dJ6_bitCount_0f7a4_22 : decode cJ6_bitCount_0f7a4 22 = .ok (.iadd, 1) := by decide +kernel
theorem dJ6_bitCount_0f7a4_23 : decode cJ6_bitCount_0f7a4 23 = .ok (.istore_n 0, 1) := by decide +kernel
theorem dJ6_bitCount_0f7a4_24 : decode cJ6_bitCount_0f7a4 24 = .ok (.iload_n 0, 1) := by decide +kernel
theorem dJ6_bitCount_0f7a4_25 : decode cJ6_bitCount_0f7a4 25 = .ok (.iload_n 0, 1) := by decide +kernel
theorem dJ6_bitCount_0f7a4_26 : decode cJ6_bitCount_0f7a4 26 = .ok (.iconst 4, 1) := by decide +kernel
theorem dJ6_bitCount_0f7a4_27 : decode cJ6_bitCount_0f7a4 27 = .ok (.iushr, 1) := by decide +kernel
theorem dJ6_bitCount_0f7a4_28 : decode cJ6_bitCount_0f7a4 28 = .ok (.iadd, 1) := by decide +kernel
theorem dJ6_bitCount_0f7a4_29 : decode cJ6_bitCount_0f7a4 29 = .ok (.ldc_w 267, 3) := by decide +kernel
theorem dJ6_bitCount_0f7a4_32 : decode cJ6_bitCount_0f7a4 32 = .ok (.iand, 1) := by decide +kernel
theorem dJ6_bitCount_0f7a4_33 : decode cJ6_bitCount_0f7a4 33 = .ok (.istore_n 0, 1) := by decide +kernel
theorem dJ6_bitCount_0f7a4_34 : decode cJ6_bitCount_0f7a4 34 = .ok (.iload_n 0, 1) := by decide +kernel
theorem dJ6_bitCount_0f7a4_35 : decode cJ6_bitCount_0f7a4 35 = .ok (.iload_n 0, 1) := by decide +kernel
theorem dJ6_bitCount_0f7a4_36 : decode cJ6_bitCount_0f7a4 36 = .ok (.bipush 8, 2) := by decide +kernel
theorem dJ6_bitCount_0f7a4_38 : decode cJ6_bitCount_0f7a4 38 = .ok (.iushr, 1) := by decide +kernel
theorem dJ6_bitCount_0f7a4_39 : decode cJ6_bitCount_0f7a4 39 = .ok (.iadd, 1) := by decide +kernel
theorem dJ6_bitCount_0f7a4_40 : decode cJ6_bitCount_0f7a4 40 = .ok (.istore_n 0, 1) := by decide +kernel
theorem dJ6_bitCount_0f7a4_41 : decode cJ6_bitCount_0f7a4 41 = .ok (.iload_n 0, 1) := by decide +kernel
theorem dJ6_bitCount_0f7a4_42 : decode cJ6_bitCount_0f7a4 42 = .ok (.iload_n 0, 1) := by decide +kernel
theorem dJ6_bitCount_0f7a4_43 : decode cJ6_bitCount_0f7a4 43 = .ok (.bipush 16, 2) := by decide +kernel
theorem dJ6_bitCount_0f7a4_45 : decode cJ6_bitCount_0f7a4 45 = .ok (.iushr, 1) := by decide +kernel
theorem dJ6_bitCount_0f7a4_46 : decode cJ6_bitCount_0f7a4 46 = .ok (.iadd, 1) := by decide +kernel
theorem dJ6_bitCount_0f7a4_47 : decode cJ6_bitCount_0f7a4 47 = .ok (.istore_n 0, 1) := by decide +kernel
theorem dJ6_bitCount_0f7a4_48 : decode cJ6_bitCount_0f7a4 48 = .ok (.iload_n 0, 1) := by decide +kernel
theorem dJ6_bitCount_0f7a4_49 : decode cJ6_bitCount_0f7a4 49 = .ok (.bipush 63, 2) := by decide +kernel
theorem dJ6_bitCount_0f7a4_51 : decode cJ6_bitCount_0f7a4 51 = .ok (.iand, 1) := by decide +kernel
theorem dJ6_bitCount_0f7a4_52 : decode cJ6_bitCount_0f7a4 52 = .ok (.ireturn, 1) := by decide +kernel
theorem dJ9_max_7cf53_0 : decode cJ9_max_7cf53 0 = .ok (.iload_n 0, 1) := by decide +kernel
theorem dJ9_max_7cf53_1 : decode cJ9_max_7cf53 1 = .ok (.iload_n 1, 1) := by decide +kernel
theorem dJ9_max_7cf53_2 : decode cJ9_max_7cf53 2 = .ok (.if_icmp .lt 7, 3) := by decide +kernel
theorem dJ9_max_7cf53_5 : decode cJ9_max_7cf53 5 = .ok (.iload_n 0, 1) := by decide +kernel
theorem dJ9_max_7cf53_6 : decode cJ9_max_7cf53 6 = .ok (.goto 4, 3) := by decide +kernel
theorem dJ9_max_7cf53_9 : decode cJ9_max_7cf53 9 = .ok (.iload_n 1, 1) := by decide +kernel
theorem dJ9_max_7cf53_10 : decode cJ9_max_7cf53 10 = .ok (.ireturn, 1) := by decide +kernel
theorem dJ9_min_7cf53_0 : decode cJ9_min_7cf53 0 = .ok (.iload_n 0, 1) := by decide +kernel
theorem dJ9_min_7cf53_1 : decode cJ9_min_7cf53 1 = .ok (.iload_n 1, 1) := by decide +kernel
theorem dJ9_min_7cf53_2 : decode cJ9_min_7cf53 2 = .ok (.if_icmp .gt 7, 3) := by decide +kernel
theorem dJ9_min_7cf53_5 : decode cJ9_min_7cf53 5 = .ok (.iload_n 0, 1) := by decide +kernel
theorem dJ9_min_7cf53_6 : decode cJ9_min_7cf53 6 = .ok (.goto 4, 3) := by decide +kernel
theorem dJ9_min_7cf53_9 : decode cJ9_min_7cf53 9 = .ok (.iload_n 1, 1) := by decide +kernel
theorem dJ9_min_7cf53_10 : decode cJ9_min_7cf53 10 = .ok (.ireturn, 1) := by decide +kernel
theorem dJ0_length_8abf5_0 : decode cJ0_length_8abf5 0 = .ok (.aload_n 0, 1) := by decide +kernel
theorem dJ0_length_8abf5_1 : decode cJ0_length_8abf5 1 = .ok (.getfield 9, 3) := by decide +kernel
theorem dJ0_length_8abf5_4 : decode cJ0_length_8abf5 4 = .ok (.arraylength, 1) := by decide +kernel
theorem dJ0_length_8abf5_5 : decode cJ0_length_8abf5 5 = .ok (.aload_n 0, 1) := by decide +kernel
theorem dJ0_length_8abf5_6 : decode cJ0_length_8abf5 6 = .ok (.invokevirtual 335, 3) := by decide +kernel
theorem dJ0_length_8abf5_9 : decode cJ0_length_8abf5 9 = .ok (.ishr, 1) := by decide +kernel
theorem dJ0_length_8abf5_10 : decode cJ0_length_8abf5 10 = .ok (.ireturn, 1) := by decide +kernel
theorem dJ0_charAt_5068e_0 : decode cJ0_charAt_5068e 0 = .ok (.aload_n 0, 1) := by decide +kernel
theorem dJ0_charAt_5068e_1 : decode cJ0_charAt_5068e 1 = .ok (.invokevirtual 492, 3) := by decide +kernel
theorem dJ0_charAt_5068e_4 : decode cJ0_charAt_5068e 4 = .ok (.ifCond .eq 12, 3) := by decide +kernel
theorem dJ0_charAt_5068e_7 : decode cJ0_charAt_5068e 7 = .ok (.aload_n 0, 1) := by decide +kernel
theorem dJ0_charAt_5068e_8 : decode cJ0_charAt_5068e 8 = .ok (.getfield 9, 3) := by decide +kernel
theorem dJ0_charAt_5068e_11 : decode cJ0_charAt_5068e 11 = .ok (.iload_n 1, 1) := by decide +kernel
theorem dJ0_charAt_5068e_12 : decode cJ0_charAt_5068e 12 = .ok (.invokestatic 495, 3) := by decide +kernel
theorem dJ0_charAt_5068e_15 : decode cJ0_charAt_5068e 15 = .ok (.ireturn, 1) := by decide +kernel
theorem dJ0_charAt_5068e_16 : decode cJ0_charAt_5068e 16 = .ok (.aload_n 0, 1) := by decide +kernel
theorem dJ0_charAt_5068e_17 : decode cJ0_charAt_5068e 17 = .ok (.getfield 9, 3) := by decide +kernel
theorem dJ0_charAt_5068e_20 : decode cJ0_charAt_5068e 20 = .ok (.iload_n 1, 1) := by decide +kernel
theorem dJ0_charAt_5068e_21 : decode cJ0_charAt_5068e 21 = .ok (.invokestatic 498, 3) := by decide +kernel
theorem dJ0_charAt_5068e_24 : decode cJ0_charAt_5068e 24 = .ok (.ireturn, 1) := by decide +kernel
theorem dJ0_coder_7d493_0 : decode cJ0_coder_7d493 0 = .ok (.getstatic 38, 3) := by decide +kernel
theorem dJ0_coder_7d493_3 : decode cJ0_coder_7d493 3 = .ok (.ifCond .eq 10, 3) := by decide +kernel
theorem dJ0_coder_7d493_6 : decode cJ0_coder_7d493 6 = .ok (.aload_n 0, 1) := by decide +kernel
theorem dJ0_coder_7d493_7 : decode cJ0_coder_7d493 7 = .ok (.getfield 15, 3) := by decide +kernel
theorem dJ0_coder_7d493_10 : decode cJ0_coder_7d493 10 = .ok (.goto 4, 3) := by decide +kernel
theorem dJ0_coder_7d493_13 : decode cJ0_coder_7d493 13 = .ok (.iconst 1, 1) := by decide +kernel
theorem dJ0_coder_7d493_14 : decode cJ0_coder_7d493 14 = .ok (.ireturn, 1) := by decide +kernel
theorem dJ0_isLatin1_aae02_0 : decode cJ0_isLatin1_aae02 0 = .ok (.getstatic 38, 3) := by decide +kernel
theorem dJ0_isLatin1_aae02_3 : decode cJ0_isLatin1_aae02 3 = .ok (.ifCond .eq 14, 3) := by decide +kernel
theorem dJ0_isLatin1_aae02_6 : decode cJ0_isLatin1_aae02 6 = .ok (.aload_n 0, 1) := by decide +kernel
theorem dJ0_isLatin1_aae02_7 : decode cJ0_isLatin1_aae02 7 = .ok (.getfield 15, 3) := by decide +kernel
theorem dJ0_isLatin1_aae02_10 : decode cJ0_isLatin1_aae02 10 = .ok (.ifCond .ne 7, 3) := by decide +kernel
theorem dJ0_isLatin1_aae02_13 : decode cJ0_isLatin1_aae02 13 = .ok (.iconst 1, 1) := by decide +kernel
theorem dJ0_isLatin1_aae02_14 : decode cJ0_isLatin1_aae02 14 = .ok (.goto 4, 3) := by decide +kernel
theorem dJ0_isLatin1_aae02_17 : decode cJ0_isLatin1_aae02 17 = .ok (.iconst 0, 1) := by decide +kernel
theorem dJ0_isLatin1_aae02_18 : decode cJ0_isLatin1_aae02 18 = .ok (.ireturn, 1) := by decide +kernel
theorem dJ0_checkIndex_df160_0 : decode cJ0_checkIndex_df160 0 = .ok (.iload_n 0, 1) := by decide +kernel
theorem dJ0_checkIndex_df160_1 : decode cJ0_checkIndex_df160 1 = .ok (.iload_n 1, 1) := by decide +kernel
theorem dJ0_checkIndex_df160_2 : decode cJ0_checkIndex_df160 2 = .ok (.getstatic 1053, 3) := by decide +kernel
theorem dJ0_checkIndex_df160_5 : decode cJ0_checkIndex_df160 5 = .ok (.invokestatic 1059, 3) := by decide +kernel
theorem dJ0_checkIndex_df160_8 : decode cJ0_checkIndex_df160 8 = .ok (.pop, 1) := by decide +kernel
theorem dJ0_checkIndex_df160_9 : decode cJ0_checkIndex_df160 9 = .ok (.return_, 1) := by decide +kernel
theorem dJ1_charAt_3b067_0 : decode cJ1_charAt_3b067 0 = .ok (.iload_n 1, 1) := by decide +kernel
theorem dJ1_charAt_3b067_1 : decode cJ1_charAt_3b067 1 = .ok (.aload_n 0, 1) := by decide +kernel
theorem dJ1_charAt_3b067_2 : decode cJ1_charAt_3b067 2 = .ok (.arraylength, 1) := by decide +kernel
theorem dJ1_charAt_3b067_3 : decode cJ1_charAt_3b067 3 = .ok (.invokestatic 9, 3) := by decide +kernel
theorem dJ1_charAt_3b067_6 : decode cJ1_charAt_3b067 6 = .ok (.aload_n 0, 1) := by decide +kernel
theorem dJ1_charAt_3b067_7 : decode cJ1_charAt_3b067 7 = .ok (.iload_n 1, 1) := by decide +kernel
theorem dJ1_charAt_3b067_8 : decode cJ1_charAt_3b067 8 = .ok (.baload, 1) := by decide +kernel
theorem dJ1_charAt_3b067_9 : decode cJ1_charAt_3b067 9 = .ok (.sipush 255, 3) := by decide +kernel
theorem dJ1_charAt_3b067_12 : decode cJ1_charAt_3b067 12 = .ok (.iand, 1) := by decide +kernel
theorem dJ1_charAt_3b067_13 : decode cJ1_charAt_3b067 13 = .ok (.i2c, 1) := by decide +kernel
theorem dJ1_charAt_3b067_14 : decode cJ1_charAt_3b067 14 = .ok (.ireturn, 1) := by decide +kernel
theorem dJ2_getChar_3b067_0 : decode cJ2_getChar_3b067 0 = .ok (.getstatic 44, 3) := by decide +kernel
theorem dJ2_getChar_3b067_3 : decode cJ2_getChar_3b067 3 = .ok (.ifCond .ne 25, 3) := by decide +kernel
theorem dJ2_getChar_3b067_6 : decode cJ2_getChar_3b067 6 = .ok (.iload_n 1, 1) := by decide +kernel
theorem dJ2_getChar_3b067_7 : decode cJ2_getChar_3b067 7 = .ok (.ifCond .lt 11, 3) := by decide +kernel
theorem dJ2_getChar_3b067_10 : decode cJ2_getChar_3b067 10 = .ok (.iload_n 1, 1) := by decide +kernel
theorem dJ2_getChar_3b067_11 : decode cJ2_getChar_3b067 11 = .ok (.aload_n 0, 1) := by decide +kernel
theorem dJ2_getChar_3b067_12 : decode cJ2_getChar_3b067 12 = .ok (.invokestatic 48, 3) := by decide +kernel
theorem dJ2_getChar_3b067_15 : decode cJ2_getChar_3b067 15 = .ok (.if_icmp .lt 13, 3) := by decide +kernel
theorem dJ2_getChar_3b067_18 : decode cJ2_getChar_3b067 18 = .ok (.new 52, 3) := by decide +kernel
theorem dJ2_getChar_3b067_21 : decode cJ2_getChar_3b067 21 = .ok (.dup, 1) := by decide +kernel
theorem dJ2_getChar_3b067_22 : decode cJ2_getChar_3b067 22 = .ok (.ldc 54, 2) := by decide +kernel
theorem dJ2_getChar_3b067_24 : decode cJ2_getChar_3b067 24 = .ok (.invokespecial 56, 3) := by decide +kernel
theorem dJ2_getChar_3b067_27 : decode cJ2_getChar_3b067 27 = .ok (.athrow, 1) := by decide +kernel
theorem dJ2_getChar_3b067_28 : decode cJ2_getChar_3b067 28 = .ok (.iload_n 1, 1) := by decide +kernel
theorem dJ2_getChar_3b067_29 : decode cJ2_getChar_3b067 29 = .ok (.iconst 1, 1) := by decide +kernel
theorem dJ2_getChar_3b067_30 : decode cJ2_getChar_3b067 30 = .ok (.ishl, 1) := by decide +kernel
theorem dJ2_getChar_3b067_31 : decode cJ2_getChar_3b067 31 = .ok (.istore_n 1, 1) := by decide +kernel
theorem dJ2_getChar_3b067_32 : decode cJ2_getChar_3b067 32 = .ok (.aload_n 0, 1) := by decide +kernel
theorem dJ2_getChar_3b067_33 : decode cJ2_getChar_3b067 33 = .ok (.iload_n 1, 1) := by decide +kernel
theorem dJ2_getChar_3b067_34 : decode cJ2_getChar_3b067 34 = .ok (.iinc 1 1, 3) := by decide +kernel
theorem dJ2_getChar_3b067_37 : decode cJ2_getChar_3b067 37 = .ok (.baload, 1) := by decide +kernel
theorem dJ2_getChar_3b067_38 : decode cJ2_getChar_3b067 38 = .ok (.sipush 255, 3) := by decide +kernel
theorem dJ2_getChar_3b067_41 : decode cJ2_getChar_3b067 41 = .ok (.iand, 1) := by decide +kernel
theorem dJ2_getChar_3b067_42 : decode cJ2_getChar_3b067 42 = .ok (.getstatic 59, 3) := by decide +kernel
theorem dJ2_getChar_3b067_45 : decode cJ2_getChar_3b067 45 = .ok (.ishl, 1) := by decide +kernel
theorem dJ2_getChar_3b067_46 : decode cJ2_getChar_3b067 46 = .ok (.aload_n 0, 1) := by decide +kernel
theorem dJ2_getChar_3b067_47 : decode cJ2_getChar_3b067 47 = .ok (.iload_n 1, 1) := by decide +kernel
theorem dJ2_getChar_3b067_48 : decode cJ2_getChar_3b067 48 = .ok (.baload, 1) := by decide +kernel
theorem dJ2_getChar_3b067_49 : decode cJ2_getChar_3b067 49 = .ok (.sipush 255, 3) := by decide +kernel
theorem dJ2_getChar_3b067_52 : decode cJ2_getChar_3b067 52 = .ok (.iand, 1) := by decide +kernel
theorem dJ2_getChar_3b067_53 : decode cJ2_getChar_3b067 53 = .ok (.getstatic 63, 3) := by decide +kernel
theorem dJ2_getChar_3b067_56 : decode cJ2_getChar_3b067 56 = .ok (.ishl, 1) := by decide +kernel
theorem dJ2_getChar_3b067_57 : decode cJ2_getChar_3b067 57 = .ok (.ior, 1) := by decide +kernel
theorem dJ2_getChar_3b067_58 : decode cJ2_getChar_3b067 58 = .ok (.i2c, 1) := by decide +kernel
theorem dJ2_getChar_3b067_59 : decode cJ2_getChar_3b067 59 = .ok (.ireturn, 1) := by decide +kernel
theorem dJ2_length_9d52b_0 : decode cJ2_length_9d52b 0 = .ok (.aload_n 0, 1) := by decide +kernel
theorem dJ2_length_9d52b_1 : decode cJ2_length_9d52b 1 = .ok (.arraylength, 1) := by decide +kernel
theorem dJ2_length_9d52b_2 : decode cJ2_length_9d52b 2 = .ok (.iconst 1, 1) := by decide +kernel
theorem dJ2_length_9d52b_3 : decode cJ2_length_9d52b 3 = .ok (.ishr, 1) := by decide +kernel
theorem dJ2_length_9d52b_4 : decode cJ2_length_9d52b 4 = .ok (.ireturn, 1) := by decide +kernel
theorem dJ2_charAt_3b067_0 : decode cJ2_charAt_3b067 0 = .ok (.iload_n 1, 1) := by decide +kernel
theorem dJ2_charAt_3b067_1 : decode cJ2_charAt_3b067 1 = .ok (.aload_n 0, 1) := by decide +kernel
theorem dJ2_charAt_3b067_2 : decode cJ2_charAt_3b067 2 = .ok (.invokestatic 67, 3) := by decide +kernel
theorem dJ2_charAt_3b067_5 : decode cJ2_charAt_3b067 5 = .ok (.aload_n 0, 1) := by decide +kernel
theorem dJ2_charAt_3b067_6 : decode cJ2_charAt_3b067 6 = .ok (.iload_n 1, 1) := by decide +kernel
theorem dJ2_charAt_3b067_7 : decode cJ2_charAt_3b067 7 = .ok (.invokestatic 71, 3) := by decide +kernel
theorem dJ2_charAt_3b067_10 : decode cJ2_charAt_3b067 10 = .ok (.ireturn, 1) := by decide +kernel
theorem dJ2_checkIndex_2214a_0 : decode cJ2_checkIndex_2214a 0 = .ok (.iload_n 0, 1) := by decide +kernel
theorem dJ2_checkIndex_2214a_1 : decode cJ2_checkIndex_2214a 1 = .ok (.aload_n 1, 1) := by decide +kernel
theorem dJ2_checkIndex_2214a_2 : decode cJ2_checkIndex_2214a 2 = .ok (.invokestatic 48, 3) := by decide +kernel
theorem dJ2_checkIndex_2214a_5 : decode cJ2_checkIndex_2214a 5 = .ok (.invokestatic 414, 3) := by decide +kernel
theorem dJ2_checkIndex_2214a_8 : decode cJ2_checkIndex_2214a 8 = .ok (.return_, 1) := by decide +kernel
theorem dJ3_checkIndex_8e157_0 : decode cJ3_checkIndex_8e157 0 = .ok (.iload_n 0, 1) := by decide +kernel
theorem dJ3_checkIndex_8e157_1 : decode cJ3_checkIndex_8e157 1 = .ok (.ifCond .lt 8, 3) := by decide +kernel
theorem dJ3_checkIndex_8e157_4 : decode cJ3_checkIndex_8e157 4 = .ok (.iload_n 0, 1) := by decide +kernel
theorem dJ3_checkIndex_8e157_5 : decode cJ3_checkIndex_8e157 5 = .ok (.iload_n 1, 1) := by decide +kernel
theorem dJ3_checkIndex_8e157_6 : decode cJ3_checkIndex_8e157 6 = .ok (.if_icmp .lt 10, 3) := by decide +kernel
theorem dJ3_checkIndex_8e157_9 : decode cJ3_checkIndex_8e157 9 = .ok (.aload_n 2, 1) := by decide +kernel
theorem dJ3_checkIndex_8e157_10 : decode cJ3_checkIndex_8e157 10 = .ok (.iload_n 0, 1) := by decide +kernel
theorem dJ3_checkIndex_8e157_11 : decode cJ3_checkIndex_8e157 11 = .ok (.iload_n 1, 1) := by decide +kernel
theorem dJ3_checkIndex_8e157_12 : decode cJ3_checkIndex_8e157 12 = .ok (.invokestatic 95, 3) := by decide +kernel
theorem dJ3_checkIndex_8e157_15 : decode cJ3_checkIndex_8e157 15 = .ok (.athrow, 1) := by decide +kernel
theorem dJ3_checkIndex_8e157_16 : decode cJ3_checkIndex_8e157 16 = .ok (.iload_n 0, 1) := by decide +kernel
theorem dJ3_checkIndex_8e157_17 : decode cJ3_checkIndex_8e157 17 = .ok (.ireturn, 1) := by decide +kernel
