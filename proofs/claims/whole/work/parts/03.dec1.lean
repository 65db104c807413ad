theorem dX4_join_17 : decode cX4_join 17 = .ok (.ifCond .eq 13, 3) := by decide +kernel
theorem dX4_join_20 : decode cX4_join 20 = .ok (.iload_n 3, 1) := by decide +kernel
theorem dX4_join_21 : decode cX4_join 21 = .ok (.iconst 0, 1) := by decide +kernel
theorem dX4_join_22 : decode cX4_join 22 = .ok (.ldc 58, 2) := by decide +kernel
theorem dX4_join_24 : decode cX4_join 24 = .ok (.invokestatic 54, 3) := by decide +kernel
theorem dX4_join_27 : decode cX4_join 27 = .ok (.ifCond .ne 6, 3) := by decide +kernel
theorem dX4_join_30 : decode cX4_join 30 = .ok (.bipush (-2), 2) := by decide +kernel
theorem dX4_join_32 : decode cX4_join 32 = .ok (.ireturn, 1) := by decide +kernel
theorem dX4_join_33 : decode cX4_join 33 = .ok (.aload_n 0, 1) := by decide +kernel
theorem dX4_join_34 : decode cX4_join 34 = .ok (.getfield 31, 3) := by decide +kernel
theorem dX4_join_37 : decode cX4_join 37 = .ok (.bipush 6, 2) := by decide +kernel
theorem dX4_join_39 : decode cX4_join 39 = .ok (.if_icmp .lt 6, 3) := by decide +kernel
theorem dX4_join_42 : decode cX4_join 42 = .ok (.bipush (-4), 2) := by decide +kernel
theorem dX4_join_44 : decode cX4_join 44 = .ok (.ireturn, 1) := by decide +kernel
theorem dX4_join_45 : decode cX4_join 45 = .ok (.aload_n 0, 1) := by decide +kernel
theorem dX4_join_46 : decode cX4_join 46 = .ok (.getfield 31, 3) := by decide +kernel
theorem dX4_join_49 : decode cX4_join 49 = .ok (.istore 4, 2) := by decide +kernel
theorem dX4_join_51 : decode cX4_join 51 = .ok (.aload_n 0, 1) := by decide +kernel
theorem dX4_join_52 : decode cX4_join 52 = .ok (.getfield 9, 3) := by decide +kernel
theorem dX4_join_55 : decode cX4_join 55 = .ok (.iload 4, 2) := by decide +kernel
theorem dX4_join_57 : decode cX4_join 57 = .ok (.iload_n 1, 1) := by decide +kernel
theorem dX4_join_58 : decode cX4_join 58 = .ok (.bipush 10, 2) := by decide +kernel
theorem dX4_join_60 : decode cX4_join 60 = .ok (.idiv, 1) := by decide +kernel
theorem dX4_join_61 : decode cX4_join 61 = .ok (.iastore, 1) := by decide +kernel
theorem dX4_join_62 : decode cX4_join 62 = .ok (.aload_n 0, 1) := by decide +kernel
theorem dX4_join_63 : decode cX4_join 63 = .ok (.getfield 15, 3) := by decide +kernel
theorem dX4_join_66 : decode cX4_join 66 = .ok (.iload 4, 2) := by decide +kernel
theorem dX4_join_68 : decode cX4_join 68 = .ok (.iload_n 1, 1) := by decide +kernel
theorem dX4_join_69 : decode cX4_join 69 = .ok (.bipush 10, 2) := by decide +kernel
theorem dX4_join_71 : decode cX4_join 71 = .ok (.irem, 1) := by decide +kernel
theorem dX4_join_72 : decode cX4_join 72 = .ok (.iastore, 1) := by decide +kernel
theorem dX4_join_73 : decode cX4_join 73 = .ok (.aload_n 0, 1) := by decide +kernel
theorem dX4_join_74 : decode cX4_join 74 = .ok (.getfield 18, 3) := by decide +kernel
theorem dX4_join_77 : decode cX4_join 77 = .ok (.iload 4, 2) := by decide +kernel
theorem dX4_join_79 : decode cX4_join 79 = .ok (.iload_n 2, 1) := by decide +kernel
theorem dX4_join_80 : decode cX4_join 80 = .ok (.iastore, 1) := by decide +kernel
theorem dX4_join_81 : decode cX4_join 81 = .ok (.aload_n 0, 1) := by decide +kernel
theorem dX4_join_82 : decode cX4_join 82 = .ok (.getfield 21, 3) := by decide +kernel
theorem dX4_join_85 : decode cX4_join 85 = .ok (.iload 4, 2) := by decide +kernel
theorem dX4_join_87 : decode cX4_join 87 = .ok (.iconst 0, 1) := by decide +kernel
theorem dX4_join_88 : decode cX4_join 88 = .ok (.iastore, 1) := by decide +kernel
theorem dX4_join_89 : decode cX4_join 89 = .ok (.aload_n 0, 1) := by decide +kernel
theorem dX4_join_90 : decode cX4_join 90 = .ok (.getfield 24, 3) := by decide +kernel
theorem dX4_join_93 : decode cX4_join 93 = .ok (.iload 4, 2) := by decide +kernel
theorem dX4_join_95 : decode cX4_join 95 = .ok (.iload_n 3, 1) := by decide +kernel
theorem dX4_join_96 : decode cX4_join 96 = .ok (.iastore, 1) := by decide +kernel
theorem dX4_join_97 : decode cX4_join 97 = .ok (.aload_n 0, 1) := by decide +kernel
theorem dX4_join_98 : decode cX4_join 98 = .ok (.dup, 1) := by decide +kernel
theorem dX4_join_99 : decode cX4_join 99 = .ok (.getfield 27, 3) := by decide +kernel
theorem dX4_join_102 : decode cX4_join 102 = .ok (.iconst 1, 1) := by decide +kernel
theorem dX4_join_103 : decode cX4_join 103 = .ok (.iload 4, 2) := by decide +kernel
theorem dX4_join_105 : decode cX4_join 105 = .ok (.ishl, 1) := by decide +kernel
theorem dX4_join_106 : decode cX4_join 106 = .ok (.iconst (-1), 1) := by decide +kernel
theorem dX4_join_107 : decode cX4_join 107 = .ok (.ixor, 1) := by decide +kernel
theorem dX4_join_108 : decode cX4_join 108 = .ok (.iand, 1) := by decide +kernel
theorem dX4_join_109 : decode cX4_join 109 = .ok (.putfield 27, 3) := by decide +kernel
theorem dX4_join_112 : decode cX4_join 112 = .ok (.aload_n 0, 1) := by decide +kernel
theorem dX4_join_113 : decode cX4_join 113 = .ok (.dup, 1) := by decide +kernel
theorem dX4_join_114 : decode cX4_join 114 = .ok (.getfield 31, 3) := by decide +kernel
theorem dX4_join_117 : decode cX4_join 117 = .ok (.iconst 1, 1) := by decide +kernel
theorem dX4_join_118 : decode cX4_join 118 = .ok (.iadd, 1) := by decide +kernel
theorem dX4_join_119 : decode cX4_join 119 = .ok (.putfield 31, 3) := by decide +kernel
theorem dX4_join_122 : decode cX4_join 122 = .ok (.iload 4, 2) := by decide +kernel
theorem dX4_join_124 : decode cX4_join 124 = .ok (.ireturn, 1) := by decide +kernel
theorem dX4_isVowed_0 : decode cX4_isVowed 0 = .ok (.aload_n 0, 1) := by decide +kernel
theorem dX4_isVowed_1 : decode cX4_isVowed 1 = .ok (.getfield 27, 3) := by decide +kernel
theorem dX4_isVowed_4 : decode cX4_isVowed 4 = .ok (.iload_n 1, 1) := by decide +kernel
theorem dX4_isVowed_5 : decode cX4_isVowed 5 = .ok (.ishr, 1) := by decide +kernel
theorem dX4_isVowed_6 : decode cX4_isVowed 6 = .ok (.iconst 1, 1) := by decide +kernel
theorem dX4_isVowed_7 : decode cX4_isVowed 7 = .ok (.iand, 1) := by decide +kernel
theorem dX4_isVowed_8 : decode cX4_isVowed 8 = .ok (.iconst 1, 1) := by decide +kernel
theorem dX4_isVowed_9 : decode cX4_isVowed 9 = .ok (.if_icmp .ne 7, 3) := by decide +kernel
theorem dX4_isVowed_12 : decode cX4_isVowed 12 = .ok (.iconst 1, 1) := by decide +kernel
theorem dX4_isVowed_13 : decode cX4_isVowed 13 = .ok (.goto 4, 3) := by decide +kernel
theorem dX4_isVowed_16 : decode cX4_isVowed 16 = .ok (.iconst 0, 1) := by decide +kernel
theorem dX4_isVowed_17 : decode cX4_isVowed 17 = .ok (.ireturn, 1) := by decide +kernel
set_option maxRecDepth 20000 in
theorem ggX4_turnVow_X4_has : GoodIn wsX4_turnVow wsX4_has := goodIn_r _ [6, 7, 8, 9, 10, 11, 12, 13, 14, 15, 16, 17, 18, 19] (by decide +kernel) (by decide +kernel)
set_option maxRecDepth 20000 in
theorem gX4_turnVow_X4_has : GoodIn wsX4_turnVow (wsV RX4 59 RX4 yX4_has wsX4_has) := goodIn_app (goodIn_of _ (by decide +kernel)) ggX4_turnVow_X4_has
theorem dX4_turnVow_0 : decode cX4_turnVow 0 = .ok (.aload_n 0, 1) := by decide +kernel
theorem dX4_turnVow_1 : decode cX4_turnVow 1 = .ok (.iload_n 1, 1) := by decide +kernel
theorem dX4_turnVow_2 : decode cX4_turnVow 2 = .ok (.invokevirtual 59, 3) := by decide +kernel
theorem dX4_turnVow_5 : decode cX4_turnVow 5 = .ok (.ifCond .eq 15, 3) := by decide +kernel
theorem dX4_turnVow_8 : decode cX4_turnVow 8 = .ok (.aload_n 0, 1) := by decide +kernel
theorem dX4_turnVow_9 : decode cX4_turnVow 9 = .ok (.dup, 1) := by decide +kernel
theorem dX4_turnVow_10 : decode cX4_turnVow 10 = .ok (.getfield 27, 3) := by decide +kernel
theorem dX4_turnVow_13 : decode cX4_turnVow 13 = .ok (.iconst 1, 1) := by decide +kernel
theorem dX4_turnVow_14 : decode cX4_turnVow 14 = .ok (.iload_n 1, 1) := by decide +kernel
theorem dX4_turnVow_15 : decode cX4_turnVow 15 = .ok (.ishl, 1) := by decide +kernel
theorem dX4_turnVow_16 : decode cX4_turnVow 16 = .ok (.ixor, 1) := by decide +kernel
theorem dX4_turnVow_17 : decode cX4_turnVow 17 = .ok (.putfield 27, 3) := by decide +kernel
theorem dX4_turnVow_20 : decode cX4_turnVow 20 = .ok (.return_, 1) := by decide +kernel
set_option maxRecDepth 20000 in
theorem ggX4_turnHour_X4_has : GoodIn wsX4_turnHour wsX4_has := goodIn_r _ [6, 7, 8, 9, 10, 11, 12, 13, 14, 15, 16, 17, 18, 19] (by decide +kernel) (by decide +kernel)
set_option maxRecDepth 20000 in
theorem gX4_turnHour_X4_has : GoodIn wsX4_turnHour (wsV RX4 59 RX4 yX4_has wsX4_has) := goodIn_app (goodIn_of _ (by decide +kernel)) ggX4_turnHour_X4_has
theorem dX4_turnHour_0 : decode cX4_turnHour 0 = .ok (.aload_n 0, 1) := by decide +kernel
theorem dX4_turnHour_1 : decode cX4_turnHour 1 = .ok (.iload_n 1, 1) := by decide +kernel
theorem dX4_turnHour_2 : decode cX4_turnHour 2 = .ok (.invokevirtual 59, 3) := by decide +kernel
theorem dX4_turnHour_5 : decode cX4_turnHour 5 = .ok (.ifCond .eq 15, 3) := by decide +kernel
theorem dX4_turnHour_8 : decode cX4_turnHour 8 = .ok (.aload_n 0, 1) := by decide +kernel
theorem dX4_turnHour_9 : decode cX4_turnHour 9 = .ok (.getfield 24, 3) := by decide +kernel
theorem dX4_turnHour_12 : decode cX4_turnHour 12 = .ok (.iload_n 1, 1) := by decide +kernel
theorem dX4_turnHour_13 : decode cX4_turnHour 13 = .ok (.dup2, 1) := by decide +kernel
theorem dX4_turnHour_14 : decode cX4_turnHour 14 = .ok (.iaload, 1) := by decide +kernel
theorem dX4_turnHour_15 : decode cX4_turnHour 15 = .ok (.iconst 1, 1) := by decide +kernel
theorem dX4_turnHour_16 : decode cX4_turnHour 16 = .ok (.iload_n 2, 1) := by decide +kernel
theorem dX4_turnHour_17 : decode cX4_turnHour 17 = .ok (.ishl, 1) := by decide +kernel
theorem dX4_turnHour_18 : decode cX4_turnHour 18 = .ok (.ixor, 1) := by decide +kernel
theorem dX4_turnHour_19 : decode cX4_turnHour 19 = .ok (.iastore, 1) := by decide +kernel
theorem dX4_turnHour_20 : decode cX4_turnHour 20 = .ok (.return_, 1) := by decide +kernel
set_option maxRecDepth 20000 in
theorem ggX4_known_X4_has : GoodIn wsX4_known wsX4_has := goodIn_r _ [8, 9, 15, 16, 17, 18, 19, 20, 21, 22, 23, 24, 25, 26] (by decide +kernel) (by decide +kernel)
set_option maxRecDepth 20000 in
theorem gX4_known_X4_has : GoodIn wsX4_known (wsV RX4 59 RX4 yX4_has wsX4_has) := goodIn_app (goodIn_of _ (by decide +kernel)) ggX4_known_X4_has
set_option maxRecDepth 20000 in
theorem ggX4_known_X4_isVowed : GoodIn wsX4_known wsX4_isVowed := goodIn_r _ [13, 14, 15, 16, 17, 18, 19, 20, 21, 22, 23, 24, 25, 26] (by decide +kernel) (by decide +kernel)
set_option maxRecDepth 20000 in
theorem gX4_known_X4_isVowed : GoodIn wsX4_known (wsV RX4 63 RX4 yX4_isVowed wsX4_isVowed) := goodIn_app (goodIn_of _ (by decide +kernel)) ggX4_known_X4_isVowed
theorem dX4_known_0 : decode cX4_known 0 = .ok (.aload_n 0, 1) := by decide +kernel
theorem dX4_known_1 : decode cX4_known 1 = .ok (.iload_n 1, 1) := by decide +kernel
theorem dX4_known_2 : decode cX4_known 2 = .ok (.invokevirtual 59, 3) := by decide +kernel
theorem dX4_known_5 : decode cX4_known 5 = .ok (.ifCond .ne 5, 3) := by decide +kernel
theorem dX4_known_8 : decode cX4_known 8 = .ok (.iconst 0, 1) := by decide +kernel
theorem dX4_known_9 : decode cX4_known 9 = .ok (.ireturn, 1) := by decide +kernel
theorem dX4_known_10 : decode cX4_known 10 = .ok (.iload_n 2, 1) := by decide +kernel
theorem dX4_known_11 : decode cX4_known 11 = .ok (.tableswitch 46 0 2 #[25, 32, 39], 25) := by decide +kernel
theorem dX4_known_36 : decode cX4_known 36 = .ok (.aload_n 0, 1) := by decide +kernel
theorem dX4_known_37 : decode cX4_known 37 = .ok (.getfield 18, 3) := by decide +kernel
theorem dX4_known_40 : decode cX4_known 40 = .ok (.iload_n 1, 1) := by decide +kernel
theorem dX4_known_41 : decode cX4_known 41 = .ok (.iaload, 1) := by decide +kernel
theorem dX4_known_42 : decode cX4_known 42 = .ok (.ireturn, 1) := by decide +kernel
theorem dX4_known_43 : decode cX4_known 43 = .ok (.aload_n 0, 1) := by decide +kernel
theorem dX4_known_44 : decode cX4_known 44 = .ok (.getfield 21, 3) := by decide +kernel
theorem dX4_known_47 : decode cX4_known 47 = .ok (.iload_n 1, 1) := by decide +kernel
theorem dX4_known_48 : decode cX4_known 48 = .ok (.iaload, 1) := by decide +kernel
theorem dX4_known_49 : decode cX4_known 49 = .ok (.ireturn, 1) := by decide +kernel
theorem dX4_known_50 : decode cX4_known 50 = .ok (.aload_n 0, 1) := by decide +kernel
theorem dX4_known_51 : decode cX4_known 51 = .ok (.getfield 24, 3) := by decide +kernel
theorem dX4_known_54 : decode cX4_known 54 = .ok (.iload_n 1, 1) := by decide +kernel
theorem dX4_known_55 : decode cX4_known 55 = .ok (.iaload, 1) := by decide +kernel
theorem dX4_known_56 : decode cX4_known 56 = .ok (.ireturn, 1) := by decide +kernel
theorem dX4_known_57 : decode cX4_known 57 = .ok (.aload_n 0, 1) := by decide +kernel
theorem dX4_known_58 : decode cX4_known 58 = .ok (.iload_n 1, 1) := by decide +kernel
theorem dX4_known_59 : decode cX4_known 59 = .ok (.invokevirtual 63, 3) := by decide +kernel
theorem dX4_known_62 : decode cX4_known 62 = .ok (.ifCond .eq 7, 3) := by decide +kernel
theorem dX4_known_65 : decode cX4_known 65 = .ok (.iconst 1, 1) := by decide +kernel
theorem dX4_known_66 : decode cX4_known 66 = .ok (.goto 4, 3) := by decide +kernel
theorem dX4_known_69 : decode cX4_known 69 = .ok (.iconst 0, 1) := by decide +kernel
theorem dX4_known_70 : decode cX4_known 70 = .ok (.ireturn, 1) := by decide +kernel
set_option maxRecDepth 20000 in
theorem ggX4_change_X4_has : GoodIn wsX4_change wsX4_has := goodIn_r _ [8, 9, 19, 20, 21, 22, 23, 24, 25, 26, 27, 28, 29, 30] (by decide +kernel) (by decide +kernel)
set_option maxRecDepth 20000 in
theorem gX4_change_X4_has : GoodIn wsX4_change (wsV RX4 59 RX4 yX4_has wsX4_has) := goodIn_app (goodIn_of _ (by decide +kernel)) ggX4_change_X4_has
set_option maxRecDepth 20000 in
theorem ggX4_change_X4_isVowed : GoodIn wsX4_change wsX4_isVowed := goodIn_r _ [13, 14, 19, 20, 21, 22, 23, 24, 25, 26, 27, 28, 29, 30] (by decide +kernel) (by decide +kernel)
set_option maxRecDepth 20000 in
theorem gX4_change_X4_isVowed : GoodIn wsX4_change (wsV RX4 63 RX4 yX4_isVowed wsX4_isVowed) := goodIn_app (goodIn_of _ (by decide +kernel)) ggX4_change_X4_isVowed
set_option maxRecDepth 20000 in
theorem ggX4_change_X4_turnVow : GoodIn wsX4_change wsX4_turnVow := goodIn_r _ [18, 14, 4, 5, 6, 7, 8, 9, 19, 20, 21, 22, 23, 24, 25, 26, 27, 28, 29, 30] (by decide +kernel) (by decide +kernel)
set_option maxRecDepth 20000 in
theorem gX4_change_X4_turnVow : GoodIn wsX4_change (wsV RX4 66 RX4 yX4_turnVow wsX4_turnVow) := goodIn_app (goodIn_of _ (by decide +kernel)) ggX4_change_X4_turnVow
theorem dX4_change_0 : decode cX4_change 0 = .ok (.aload_n 0, 1) := by decide +kernel
theorem dX4_change_1 : decode cX4_change 1 = .ok (.iload_n 1, 1) := by decide +kernel
theorem dX4_change_2 : decode cX4_change 2 = .ok (.invokevirtual 59, 3) := by decide +kernel
theorem dX4_change_5 : decode cX4_change 5 = .ok (.ifCond .ne 4, 3) := by decide +kernel
theorem dX4_change_8 : decode cX4_change 8 = .ok (.return_, 1) := by decide +kernel
theorem dX4_change_9 : decode cX4_change 9 = .ok (.iload_n 2, 1) := by decide +kernel
theorem dX4_change_10 : decode cX4_change 10 = .ok (.tableswitch 56 0 2 #[26, 36, 46], 26) := by decide +kernel
theorem dX4_change_36 : decode cX4_change 36 = .ok (.aload_n 0, 1) := by decide +kernel
theorem dX4_change_37 : decode cX4_change 37 = .ok (.getfield 18, 3) := by decide +kernel
theorem dX4_change_40 : decode cX4_change 40 = .ok (.iload_n 1, 1) := by decide +kernel
theorem dX4_change_41 : decode cX4_change 41 = .ok (.iload_n 3, 1) := by decide +kernel
theorem dX4_change_42 : decode cX4_change 42 = .ok (.iastore, 1) := by decide +kernel
theorem dX4_change_43 : decode cX4_change 43 = .ok (.goto 46, 3) := by decide +kernel
theorem dX4_change_46 : decode cX4_change 46 = .ok (.aload_n 0, 1) := by decide +kernel
theorem dX4_change_47 : decode cX4_change 47 = .ok (.getfield 21, 3) := by decide +kernel
theorem dX4_change_50 : decode cX4_change 50 = .ok (.iload_n 1, 1) := by decide +kernel
theorem dX4_change_51 : decode cX4_change 51 = .ok (.iload_n 3, 1) := by decide +kernel
theorem dX4_change_52 : decode cX4_change 52 = .ok (.iastore, 1) := by decide +kernel
theorem dX4_change_53 : decode cX4_change 53 = .ok (.goto 36, 3) := by decide +kernel
theorem dX4_change_56 : decode cX4_change 56 = .ok (.aload_n 0, 1) := by decide +kernel
theorem dX4_change_57 : decode cX4_change 57 = .ok (.getfield 24, 3) := by decide +kernel
theorem dX4_change_60 : decode cX4_change 60 = .ok (.iload_n 1, 1) := by decide +kernel
theorem dX4_change_61 : decode cX4_change 61 = .ok (.iload_n 3, 1) := by decide +kernel
theorem dX4_change_62 : decode cX4_change 62 = .ok (.iastore, 1) := by decide +kernel
theorem dX4_change_63 : decode cX4_change 63 = .ok (.goto 26, 3) := by decide +kernel
theorem dX4_change_66 : decode cX4_change 66 = .ok (.aload_n 0, 1) := by decide +kernel
theorem dX4_change_67 : decode cX4_change 67 = .ok (.iload_n 1, 1) := by decide +kernel
theorem dX4_change_68 : decode cX4_change 68 = .ok (.invokevirtual 63, 3) := by decide +kernel
theorem dX4_change_71 : decode cX4_change 71 = .ok (.iload_n 3, 1) := by decide +kernel
theorem dX4_change_72 : decode cX4_change 72 = .ok (.iconst 1, 1) := by decide +kernel
theorem dX4_change_73 : decode cX4_change 73 = .ok (.if_icmp .ne 7, 3) := by decide +kernel
theorem dX4_change_76 : decode cX4_change 76 = .ok (.iconst 1, 1) := by decide +kernel
theorem dX4_change_77 : decode cX4_change 77 = .ok (.goto 4, 3) := by decide +kernel
theorem dX4_change_80 : decode cX4_change 80 = .ok (.iconst 0, 1) := by decide +kernel
theorem dX4_change_81 : decode cX4_change 81 = .ok (.if_icmp .eq 8, 3) := by decide +kernel
theorem dX4_change_84 : decode cX4_change 84 = .ok (.aload_n 0, 1) := by decide +kernel
theorem dX4_change_85 : decode cX4_change 85 = .ok (.iload_n 1, 1) := by decide +kernel
theorem dX4_change_86 : decode cX4_change 86 = .ok (.invokevirtual 66, 3) := by decide +kernel
theorem dX4_change_89 : decode cX4_change 89 = .ok (.return_, 1) := by decide +kernel
set_option maxRecDepth 20000 in
theorem ggX4_named_X4_has : GoodIn wsX4_named wsX4_has := goodIn_r _ [15, 9, 16, 17, 18, 19, 20, 21, 22, 23, 24, 25, 26, 27] (by decide +kernel) (by decide +kernel)
set_option maxRecDepth 20000 in
theorem gX4_named_X4_has : GoodIn wsX4_named (wsV RX4 59 RX4 yX4_has wsX4_has) := goodIn_app (goodIn_of _ (by decide +kernel)) ggX4_named_X4_has
theorem dX4_named_0 : decode cX4_named 0 = .ok (.aload_n 0, 1) := by decide +kernel
theorem dX4_named_1 : decode cX4_named 1 = .ok (.iload_n 2, 1) := by decide +kernel
theorem dX4_named_2 : decode cX4_named 2 = .ok (.invokevirtual 59, 3) := by decide +kernel
theorem dX4_named_5 : decode cX4_named 5 = .ok (.ifCond .ne 5, 3) := by decide +kernel
theorem dX4_named_8 : decode cX4_named 8 = .ok (.iconst 0, 1) := by decide +kernel
theorem dX4_named_9 : decode cX4_named 9 = .ok (.ireturn, 1) := by decide +kernel
theorem dX4_named_10 : decode cX4_named 10 = .ok (.iload_n 1, 1) := by decide +kernel
theorem dX4_named_11 : decode cX4_named 11 = .ok (.tableswitch 70 (-5) (-1) #[65, 60, 52, 40, 33], 33) := by decide +kernel
theorem dX4_named_44 : decode cX4_named 44 = .ok (.aload_n 0, 1) := by decide +kernel
theorem dX4_named_45 : decode cX4_named 45 = .ok (.getfield 18, 3) := by decide +kernel
theorem dX4_named_48 : decode cX4_named 48 = .ok (.iload_n 2, 1) := by decide +kernel
theorem dX4_named_49 : decode cX4_named 49 = .ok (.iaload, 1) := by decide +kernel
theorem dX4_named_50 : decode cX4_named 50 = .ok (.ireturn, 1) := by decide +kernel
theorem dX4_named_51 : decode cX4_named 51 = .ok (.aload_n 0, 1) := by decide +kernel
theorem dX4_named_52 : decode cX4_named 52 = .ok (.getfield 21, 3) := by decide +kernel
theorem dX4_named_55 : decode cX4_named 55 = .ok (.iload_n 2, 1) := by decide +kernel
theorem dX4_named_56 : decode cX4_named 56 = .ok (.iaload, 1) := by decide +kernel
theorem dX4_named_57 : decode cX4_named 57 = .ok (.bipush 99, 2) := by decide +kernel
theorem dX4_named_59 : decode cX4_named 59 = .ok (.invokestatic 70, 3) := by decide +kernel
theorem dX4_named_62 : decode cX4_named 62 = .ok (.ireturn, 1) := by decide +kernel
theorem dX4_named_63 : decode cX4_named 63 = .ok (.aload_n 0, 1) := by decide +kernel
theorem dX4_named_64 : decode cX4_named 64 = .ok (.getfield 34, 3) := by decide +kernel
theorem dX4_named_67 : decode cX4_named 67 = .ok (.bipush 24, 2) := by decide +kernel
theorem dX4_named_69 : decode cX4_named 69 = .ok (.irem, 1) := by decide +kernel
theorem dX4_named_70 : decode cX4_named 70 = .ok (.ireturn, 1) := by decide +kernel
theorem dX4_named_71 : decode cX4_named 71 = .ok (.aload_n 0, 1) := by decide +kernel
theorem dX4_named_72 : decode cX4_named 72 = .ok (.getfield 40, 3) := by decide +kernel
theorem dX4_named_75 : decode cX4_named 75 = .ok (.ireturn, 1) := by decide +kernel
theorem dX4_named_76 : decode cX4_named 76 = .ok (.aload_n 0, 1) := by decide +kernel
theorem dX4_named_77 : decode cX4_named 77 = .ok (.getfield 31, 3) := by decide +kernel
theorem dX4_named_80 : decode cX4_named 80 = .ok (.ireturn, 1) := by decide +kernel
theorem dX4_named_81 : decode cX4_named 81 = .ok (.aload_n 0, 1) := by decide +kernel
theorem dX4_named_82 : decode cX4_named 82 = .ok (.getfield 15, 3) := by decide +kernel
theorem dX4_named_85 : decode cX4_named 85 = .ok (.iload_n 2, 1) := by decide +kernel
theorem dX4_named_86 : decode cX4_named 86 = .ok (.iaload, 1) := by decide +kernel
theorem dX4_named_87 : decode cX4_named 87 = .ok (.ireturn, 1) := by decide +kernel
set_option maxRecDepth 20000 in
theorem ggX4_isOwnHour_X4_has : GoodIn wsX4_isOwnHour wsX4_has := goodIn_r _ [7, 8, 9, 10, 11, 12, 13, 14, 15, 16, 17, 18, 19, 20] (by decide +kernel) (by decide +kernel)
set_option maxRecDepth 20000 in
theorem gX4_isOwnHour_X4_has : GoodIn wsX4_isOwnHour (wsV RX4 59 RX4 yX4_has wsX4_has) := goodIn_app (goodIn_of _ (by decide +kernel)) ggX4_isOwnHour_X4_has
theorem dX4_isOwnHour_0 : decode cX4_isOwnHour 0 = .ok (.aload_n 0, 1) := by decide +kernel
theorem dX4_isOwnHour_1 : decode cX4_isOwnHour 1 = .ok (.iload_n 1, 1) := by decide +kernel
theorem dX4_isOwnHour_2 : decode cX4_isOwnHour 2 = .ok (.invokevirtual 59, 3) := by decide +kernel
theorem dX4_isOwnHour_5 : decode cX4_isOwnHour 5 = .ok (.ifCond .eq 27, 3) := by decide +kernel
theorem dX4_isOwnHour_8 : decode cX4_isOwnHour 8 = .ok (.aload_n 0, 1) := by decide +kernel
theorem dX4_isOwnHour_9 : decode cX4_isOwnHour 9 = .ok (.getfield 24, 3) := by decide +kernel
theorem dX4_isOwnHour_12 : decode cX4_isOwnHour 12 = .ok (.iload_n 1, 1) := by decide +kernel
theorem dX4_isOwnHour_13 : decode cX4_isOwnHour 13 = .ok (.iaload, 1) := by decide +kernel
theorem dX4_isOwnHour_14 : decode cX4_isOwnHour 14 = .ok (.aload_n 0, 1) := by decide +kernel
theorem dX4_isOwnHour_15 : decode cX4_isOwnHour 15 = .ok (.getfield 34, 3) := by decide +kernel
theorem dX4_isOwnHour_18 : decode cX4_isOwnHour 18 = .ok (.bipush 24, 2) := by decide +kernel
theorem dX4_isOwnHour_20 : decode cX4_isOwnHour 20 = .ok (.irem, 1) := by decide +kernel
theorem dX4_isOwnHour_21 : decode cX4_isOwnHour 21 = .ok (.ishr, 1) := by decide +kernel
theorem dX4_isOwnHour_22 : decode cX4_isOwnHour 22 = .ok (.iconst 1, 1) := by decide +kernel
theorem dX4_isOwnHour_23 : decode cX4_isOwnHour 23 = .ok (.iand, 1) := by decide +kernel
theorem dX4_isOwnHour_24 : decode cX4_isOwnHour 24 = .ok (.iconst 1, 1) := by decide +kernel
theorem dX4_isOwnHour_25 : decode cX4_isOwnHour 25 = .ok (.if_icmp .ne 7, 3) := by decide +kernel
theorem dX4_isOwnHour_28 : decode cX4_isOwnHour 28 = .ok (.iconst 1, 1) := by decide +kernel
theorem dX4_isOwnHour_29 : decode cX4_isOwnHour 29 = .ok (.goto 4, 3) := by decide +kernel
theorem dX4_isOwnHour_32 : decode cX4_isOwnHour 32 = .ok (.iconst 0, 1) := by decide +kernel
theorem dX4_isOwnHour_33 : decode cX4_isOwnHour 33 = .ok (.ireturn, 1) := by decide +kernel
set_option maxRecDepth 20000 in
theorem ggX4_isLoversHour_X4_isOwnHour : GoodIn wsX4_isLoversHour wsX4_isOwnHour := goodIn_r _ [7, 8, 1, 9, 10, 11, 6, 12, 13, 14, 15, 16, 17, 18, 19, 20, 21, 22, 23, 24, 25] (by decide +kernel) (by decide +kernel)
set_option maxRecDepth 20000 in
theorem gX4_isLoversHour_X4_isOwnHour : GoodIn wsX4_isLoversHour (wsV RX4 76 RX4 yX4_isOwnHour wsX4_isOwnHour) := goodIn_app (goodIn_of _ (by decide +kernel)) ggX4_isLoversHour_X4_isOwnHour
set_option maxRecDepth 20000 in
theorem ggX4_isLoversHour_X4_has : GoodIn wsX4_isLoversHour wsX4_has := goodIn_r _ [12, 13, 14, 15, 16, 17, 18, 19, 20, 21, 22, 23, 24, 25] (by decide +kernel) (by decide +kernel)
set_option maxRecDepth 20000 in
theorem gX4_isLoversHour_X4_has : GoodIn wsX4_isLoversHour (wsV RX4 59 RX4 yX4_has wsX4_has) := goodIn_app (goodIn_of _ (by decide +kernel)) ggX4_isLoversHour_X4_has
theorem dX4_isLoversHour_0 : decode cX4_isLoversHour 0 = .ok (.aload_n 0, 1) := by decide +kernel
theorem dX4_isLoversHour_1 : decode cX4_isLoversHour 1 = .ok (.iload_n 1, 1) := by decide +kernel
theorem dX4_isLoversHour_2 : decode cX4_isLoversHour 2 = .ok (.invokevirtual 76, 3) := by decide +kernel
theorem dX4_isLoversHour_5 : decode cX4_isLoversHour 5 = .ok (.ifCond .ne 30, 3) := by decide +kernel
theorem dX4_isLoversHour_8 : decode cX4_isLoversHour 8 = .ok (.aload_n 0, 1) := by decide +kernel
theorem dX4_isLoversHour_9 : decode cX4_isLoversHour 9 = .ok (.iload_n 1, 1) := by decide +kernel
theorem dX4_isLoversHour_10 : decode cX4_isLoversHour 10 = .ok (.invokevirtual 59, 3) := by decide +kernel
theorem dX4_isLoversHour_13 : decode cX4_isLoversHour 13 = .ok (.ifCond .eq 26, 3) := by decide +kernel
theorem dX4_isLoversHour_16 : decode cX4_isLoversHour 16 = .ok (.aload_n 0, 1) := by decide +kernel
theorem dX4_isLoversHour_17 : decode cX4_isLoversHour 17 = .ok (.getfield 34, 3) := by decide +kernel
theorem dX4_isLoversHour_20 : decode cX4_isLoversHour 20 = .ok (.bipush 24, 2) := by decide +kernel
theorem dX4_isLoversHour_22 : decode cX4_isLoversHour 22 = .ok (.irem, 1) := by decide +kernel
theorem dX4_isLoversHour_23 : decode cX4_isLoversHour 23 = .ok (.bipush 12, 2) := by decide +kernel
theorem dX4_isLoversHour_25 : decode cX4_isLoversHour 25 = .ok (.irem, 1) := by decide +kernel
theorem dX4_isLoversHour_26 : decode cX4_isLoversHour 26 = .ok (.aload_n 0, 1) := by decide +kernel
theorem dX4_isLoversHour_27 : decode cX4_isLoversHour 27 = .ok (.getfield 15, 3) := by decide +kernel
theorem dX4_isLoversHour_30 : decode cX4_isLoversHour 30 = .ok (.iload_n 1, 1) := by decide +kernel
theorem dX4_isLoversHour_31 : decode cX4_isLoversHour 31 = .ok (.iaload, 1) := by decide +kernel
theorem dX4_isLoversHour_32 : decode cX4_isLoversHour 32 = .ok (.if_icmp .ne 7, 3) := by decide +kernel
theorem dX4_isLoversHour_35 : decode cX4_isLoversHour 35 = .ok (.iconst 1, 1) := by decide +kernel
theorem dX4_isLoversHour_36 : decode cX4_isLoversHour 36 = .ok (.goto 4, 3) := by decide +kernel
theorem dX4_isLoversHour_39 : decode cX4_isLoversHour 39 = .ok (.iconst 0, 1) := by decide +kernel
theorem dX4_isLoversHour_40 : decode cX4_isLoversHour 40 = .ok (.ireturn, 1) := by decide +kernel
set_option maxRecDepth 20000 in
theorem ggX4_isLying_X4_has : GoodIn wsX4_isLying wsX4_has := goodIn_r _ [9, 10, 52, 53, 54, 55, 56, 57, 58, 59, 60, 61, 62, 63] (by decide +kernel) (by decide +kernel)
set_option maxRecDepth 20000 in
theorem gX4_isLying_X4_has : GoodIn wsX4_isLying (wsV RX4 59 RX4 yX4_has wsX4_has) := goodIn_app (goodIn_of _ (by decide +kernel)) ggX4_isLying_X4_has
set_option maxRecDepth 20000 in
theorem ggX4_isLying_X4_isVowed : GoodIn wsX4_isLying wsX4_isVowed := goodIn_r _ [14, 15, 52, 53, 54, 55, 56, 57, 58, 59, 60, 61, 62, 63] (by decide +kernel) (by decide +kernel)
set_option maxRecDepth 20000 in
theorem gX4_isLying_X4_isVowed : GoodIn wsX4_isLying (wsV RX4 63 RX4 yX4_isVowed wsX4_isVowed) := goodIn_app (goodIn_of _ (by decide +kernel)) ggX4_isLying_X4_isVowed
set_option maxRecDepth 20000 in
theorem ggX4_isLying_X4_isLoversHour : GoodIn wsX4_isLying wsX4_isLoversHour := goodIn_r _ [19, 20, 4, 21, 22, 23, 8, 24, 25, 5, 6, 7, 9, 10, 52, 53, 54, 55, 56, 57, 58, 59, 60, 61, 62, 63] (by decide +kernel) (by decide +kernel)
set_option maxRecDepth 20000 in
theorem gX4_isLying_X4_isLoversHour : GoodIn wsX4_isLying (wsV RX4 79 RX4 yX4_isLoversHour wsX4_isLoversHour) := goodIn_app (goodIn_of _ (by decide +kernel)) ggX4_isLying_X4_isLoversHour
set_option maxRecDepth 20000 in
theorem ggX4_isLying_X3_says : GoodIn wsX4_isLying wsX3_says := goodIn_r _ [30, 31, 32, 33, 34, 35, 36, 37, 38, 39, 40, 41, 6, 7, 8, 9, 10, 42, 43, 44, 45, 46, 47, 48, 20, 3, 4, 5, 49, 50, 29, 51, 64, 65, 66, 67, 52, 53, 54, 55, 56, 57, 58, 59, 60, 61, 62, 63] (by decide +kernel) (by decide +kernel)
set_option maxRecDepth 20000 in
theorem gX4_isLying_X3_says : GoodIn wsX4_isLying (wsV RX4 82 RX3 yX3_says wsX3_says) := goodIn_app (goodIn_of _ (by decide +kernel)) ggX4_isLying_X3_says
set_option maxRecDepth 20000 in
theorem ggX4_isLying_X4_isOwnHour : GoodIn wsX4_isLying wsX4_isOwnHour := goodIn_r _ [24, 25, 20, 5, 6, 7, 8, 9, 10, 52, 53, 54, 55, 56, 57, 58, 59, 60, 61, 62, 63] (by decide +kernel) (by decide +kernel)
set_option maxRecDepth 20000 in
theorem gX4_isLying_X4_isOwnHour : GoodIn wsX4_isLying (wsV RX4 76 RX4 yX4_isOwnHour wsX4_isOwnHour) := goodIn_app (goodIn_of _ (by decide +kernel)) ggX4_isLying_X4_isOwnHour
theorem dX4_isLying_0 : decode cX4_isLying 0 = .ok (.aload_n 0, 1) := by decide +kernel
theorem dX4_isLying_1 : decode cX4_isLying 1 = .ok (.iload_n 1, 1) := by decide +kernel
theorem dX4_isLying_2 : decode cX4_isLying 2 = .ok (.invokevirtual 59, 3) := by decide +kernel
theorem dX4_isLying_5 : decode cX4_isLying 5 = .ok (.ifCond .eq 11, 3) := by decide +kernel
theorem dX4_isLying_8 : decode cX4_isLying 8 = .ok (.aload_n 0, 1) := by decide +kernel
theorem dX4_isLying_9 : decode cX4_isLying 9 = .ok (.iload_n 1, 1) := by decide +kernel
theorem dX4_isLying_10 : decode cX4_isLying 10 = .ok (.invokevirtual 63, 3) := by decide +kernel
theorem dX4_isLying_13 : decode cX4_isLying 13 = .ok (.ifCond .eq 5, 3) := by decide +kernel
theorem dX4_isLying_16 : decode cX4_isLying 16 = .ok (.iconst 0, 1) := by decide +kernel
theorem dX4_isLying_17 : decode cX4_isLying 17 = .ok (.ireturn, 1) := by decide +kernel
theorem dX4_isLying_18 : decode cX4_isLying 18 = .ok (.aload_n 0, 1) := by decide +kernel
theorem dX4_isLying_19 : decode cX4_isLying 19 = .ok (.getfield 9, 3) := by decide +kernel
theorem dX4_isLying_22 : decode cX4_isLying 22 = .ok (.iload_n 1, 1) := by decide +kernel
theorem dX4_isLying_23 : decode cX4_isLying 23 = .ok (.iaload, 1) := by decide +kernel
theorem dX4_isLying_24 : decode cX4_isLying 24 = .ok (.tableswitch 111 1 5 #[36, 111, 63, 103, 109], 36) := by decide +kernel
theorem dX4_isLying_60 : decode cX4_isLying 60 = .ok (.aload_n 0, 1) := by decide +kernel
theorem dX4_isLying_61 : decode cX4_isLying 61 = .ok (.iload_n 1, 1) := by decide +kernel
theorem dX4_isLying_62 : decode cX4_isLying 62 = .ok (.invokevirtual 79, 3) := by decide +kernel
theorem dX4_isLying_65 : decode cX4_isLying 65 = .ok (.ifCond .eq 20, 3) := by decide +kernel
theorem dX4_isLying_68 : decode cX4_isLying 68 = .ok (.aload_n 0, 1) := by decide +kernel
theorem dX4_isLying_69 : decode cX4_isLying 69 = .ok (.getfield 46, 3) := by decide +kernel
theorem dX4_isLying_72 : decode cX4_isLying 72 = .ok (.iconst 0, 1) := by decide +kernel
theorem dX4_isLying_73 : decode cX4_isLying 73 = .ok (.aload_n 0, 1) := by decide +kernel
theorem dX4_isLying_74 : decode cX4_isLying 74 = .ok (.iload_n 1, 1) := by decide +kernel
theorem dX4_isLying_75 : decode cX4_isLying 75 = .ok (.invokevirtual 82, 3) := by decide +kernel
theorem dX4_isLying_78 : decode cX4_isLying 78 = .ok (.ifCond .eq 7, 3) := by decide +kernel
theorem dX4_isLying_81 : decode cX4_isLying 81 = .ok (.iconst 1, 1) := by decide +kernel
theorem dX4_isLying_82 : decode cX4_isLying 82 = .ok (.goto 4, 3) := by decide +kernel
theorem dX4_isLying_85 : decode cX4_isLying 85 = .ok (.iconst 0, 1) := by decide +kernel
theorem dX4_isLying_86 : decode cX4_isLying 86 = .ok (.ireturn, 1) := by decide +kernel
theorem dX4_isLying_87 : decode cX4_isLying 87 = .ok (.aload_n 0, 1) := by decide +kernel
theorem dX4_isLying_88 : decode cX4_isLying 88 = .ok (.getfield 40, 3) := by decide +kernel
theorem dX4_isLying_91 : decode cX4_isLying 91 = .ok (.aload_n 0, 1) := by decide +kernel
theorem dX4_isLying_92 : decode cX4_isLying 92 = .ok (.getfield 15, 3) := by decide +kernel
theorem dX4_isLying_95 : decode cX4_isLying 95 = .ok (.iload_n 1, 1) := by decide +kernel
theorem dX4_isLying_96 : decode cX4_isLying 96 = .ok (.iaload, 1) := by decide +kernel
theorem dX4_isLying_97 : decode cX4_isLying 97 = .ok (.if_icmp .le 28, 3) := by decide +kernel
theorem dX4_isLying_100 : decode cX4_isLying 100 = .ok (.aload_n 0, 1) := by decide +kernel
theorem dX4_isLying_101 : decode cX4_isLying 101 = .ok (.iload_n 1, 1) := by decide +kernel
theorem dX4_isLying_102 : decode cX4_isLying 102 = .ok (.invokevirtual 79, 3) := by decide +kernel
theorem dX4_isLying_105 : decode cX4_isLying 105 = .ok (.ifCond .eq 20, 3) := by decide +kernel
theorem dX4_isLying_108 : decode cX4_isLying 108 = .ok (.aload_n 0, 1) := by decide +kernel
theorem dX4_isLying_109 : decode cX4_isLying 109 = .ok (.getfield 46, 3) := by decide +kernel
theorem dX4_isLying_112 : decode cX4_isLying 112 = .ok (.iconst 0, 1) := by decide +kernel
theorem dX4_isLying_113 : decode cX4_isLying 113 = .ok (.aload_n 0, 1) := by decide +kernel
theorem dX4_isLying_114 : decode cX4_isLying 114 = .ok (.iload_n 1, 1) := by decide +kernel
theorem dX4_isLying_115 : decode cX4_isLying 115 = .ok (.invokevirtual 82, 3) := by decide +kernel
theorem dX4_isLying_118 : decode cX4_isLying 118 = .ok (.ifCond .eq 7, 3) := by decide +kernel
theorem dX4_isLying_121 : decode cX4_isLying 121 = .ok (.iconst 1, 1) := by decide +kernel
theorem dX4_isLying_122 : decode cX4_isLying 122 = .ok (.goto 4, 3) := by decide +kernel
theorem dX4_isLying_125 : decode cX4_isLying 125 = .ok (.iconst 0, 1) := by decide +kernel
theorem dX4_isLying_126 : decode cX4_isLying 126 = .ok (.ireturn, 1) := by decide +kernel
theorem dX4_isLying_127 : decode cX4_isLying 127 = .ok (.aload_n 0, 1) := by decide +kernel
theorem dX4_isLying_128 : decode cX4_isLying 128 = .ok (.iload_n 1, 1) := by decide +kernel
theorem dX4_isLying_129 : decode cX4_isLying 129 = .ok (.invokevirtual 76, 3) := by decide +kernel
theorem dX4_isLying_132 : decode cX4_isLying 132 = .ok (.ireturn, 1) := by decide +kernel
theorem dX4_isLying_133 : decode cX4_isLying 133 = .ok (.iconst 1, 1) := by decide +kernel
theorem dX4_isLying_134 : decode cX4_isLying 134 = .ok (.ireturn, 1) := by decide +kernel
theorem dX4_isLying_135 : decode cX4_isLying 135 = .ok (.aload_n 0, 1) := by decide +kernel
theorem dX4_isLying_136 : decode cX4_isLying 136 = .ok (.iload_n 1, 1) := by decide +kernel
theorem dX4_isLying_137 : decode cX4_isLying 137 = .ok (.invokevirtual 76, 3) := by decide +kernel
theorem dX4_isLying_140 : decode cX4_isLying 140 = .ok (.ifCond .eq 20, 3) := by decide +kernel
theorem dX4_isLying_143 : decode cX4_isLying 143 = .ok (.aload_n 0, 1) := by decide +kernel
theorem dX4_isLying_144 : decode cX4_isLying 144 = .ok (.getfield 46, 3) := by decide +kernel
theorem dX4_isLying_147 : decode cX4_isLying 147 = .ok (.iconst 0, 1) := by decide +kernel
theorem dX4_isLying_148 : decode cX4_isLying 148 = .ok (.aload_n 0, 1) := by decide +kernel
theorem dX4_isLying_149 : decode cX4_isLying 149 = .ok (.iload_n 1, 1) := by decide +kernel
theorem dX4_isLying_150 : decode cX4_isLying 150 = .ok (.invokevirtual 82, 3) := by decide +kernel
theorem dX4_isLying_153 : decode cX4_isLying 153 = .ok (.ifCond .eq 7, 3) := by decide +kernel
theorem dX4_isLying_156 : decode cX4_isLying 156 = .ok (.iconst 1, 1) := by decide +kernel
theorem dX4_isLying_157 : decode cX4_isLying 157 = .ok (.goto 4, 3) := by decide +kernel
theorem dX4_isLying_160 : decode cX4_isLying 160 = .ok (.iconst 0, 1) := by decide +kernel
theorem dX4_isLying_161 : decode cX4_isLying 161 = .ok (.ireturn, 1) := by decide +kernel
set_option maxRecDepth 20000 in
theorem ggX4_costOf_X4_has : GoodIn wsX4_costOf wsX4_has := goodIn_r _ [8, 9, 38, 39, 40, 41, 42, 43, 44, 45, 46, 47, 48, 49] (by decide +kernel) (by decide +kernel)
set_option maxRecDepth 20000 in
theorem gX4_costOf_X4_has : GoodIn wsX4_costOf (wsV RX4 59 RX4 yX4_has wsX4_has) := goodIn_app (goodIn_of _ (by decide +kernel)) ggX4_costOf_X4_has
set_option maxRecDepth 20000 in
theorem ggX4_costOf_X3_says : GoodIn wsX4_costOf wsX3_says := goodIn_r _ [14, 15, 16, 17, 18, 19, 20, 21, 22, 23, 24, 25, 5, 6, 7, 8, 9, 26, 27, 28, 29, 30, 31, 32, 33, 3, 34, 4, 35, 36, 13, 37, 50, 51, 52, 53, 38, 39, 40, 41, 42, 43, 44, 45, 46, 47, 48, 49] (by decide +kernel) (by decide +kernel)
set_option maxRecDepth 20000 in
theorem gX4_costOf_X3_says : GoodIn wsX4_costOf (wsV RX4 82 RX3 yX3_says wsX3_says) := goodIn_app (goodIn_of _ (by decide +kernel)) ggX4_costOf_X3_says
theorem dX4_costOf_0 : decode cX4_costOf 0 = .ok (.aload_n 0, 1) := by decide +kernel
theorem dX4_costOf_1 : decode cX4_costOf 1 = .ok (.iload_n 1, 1) := by decide +kernel
theorem dX4_costOf_2 : decode cX4_costOf 2 = .ok (.invokevirtual 59, 3) := by decide +kernel
theorem dX4_costOf_5 : decode cX4_costOf 5 = .ok (.ifCond .ne 5, 3) := by decide +kernel
theorem dX4_costOf_8 : decode cX4_costOf 8 = .ok (.iconst 0, 1) := by decide +kernel
theorem dX4_costOf_9 : decode cX4_costOf 9 = .ok (.ireturn, 1) := by decide +kernel
theorem dX4_costOf_10 : decode cX4_costOf 10 = .ok (.aload_n 0, 1) := by decide +kernel
theorem dX4_costOf_11 : decode cX4_costOf 11 = .ok (.getfield 9, 3) := by decide +kernel
theorem dX4_costOf_14 : decode cX4_costOf 14 = .ok (.iload_n 1, 1) := by decide +kernel
theorem dX4_costOf_15 : decode cX4_costOf 15 = .ok (.iaload, 1) := by decide +kernel
theorem dX4_costOf_16 : decode cX4_costOf 16 = .ok (.tableswitch 68 1 4 #[32, 45, 32, 45], 32) := by decide +kernel
theorem dX4_costOf_48 : decode cX4_costOf 48 = .ok (.aload_n 0, 1) := by decide +kernel
theorem dX4_costOf_49 : decode cX4_costOf 49 = .ok (.getfield 46, 3) := by decide +kernel
theorem dX4_costOf_52 : decode cX4_costOf 52 = .ok (.iconst 1, 1) := by decide +kernel
theorem dX4_costOf_53 : decode cX4_costOf 53 = .ok (.aload_n 0, 1) := by decide +kernel
theorem dX4_costOf_54 : decode cX4_costOf 54 = .ok (.iload_n 1, 1) := by decide +kernel
theorem dX4_costOf_55 : decode cX4_costOf 55 = .ok (.invokevirtual 82, 3) := by decide +kernel
theorem dX4_costOf_58 : decode cX4_costOf 58 = .ok (.iconst 2, 1) := by decide +kernel
theorem dX4_costOf_59 : decode cX4_costOf 59 = .ok (.idiv, 1) := by decide +kernel
theorem dX4_costOf_60 : decode cX4_costOf 60 = .ok (.ireturn, 1) := by decide +kernel
theorem dX4_costOf_61 : decode cX4_costOf 61 = .ok (.aload_n 0, 1) := by decide +kernel
theorem dX4_costOf_62 : decode cX4_costOf 62 = .ok (.getfield 40, 3) := by decide +kernel
theorem dX4_costOf_65 : decode cX4_costOf 65 = .ok (.iconst 5, 1) := by decide +kernel
theorem dX4_costOf_66 : decode cX4_costOf 66 = .ok (.if_icmp .lt 7, 3) := by decide +kernel
theorem dX4_costOf_69 : decode cX4_costOf 69 = .ok (.iconst 0, 1) := by decide +kernel
theorem dX4_costOf_70 : decode cX4_costOf 70 = .ok (.goto 13, 3) := by decide +kernel
theorem dX4_costOf_73 : decode cX4_costOf 73 = .ok (.aload_n 0, 1) := by decide +kernel
theorem dX4_costOf_74 : decode cX4_costOf 74 = .ok (.getfield 46, 3) := by decide +kernel
theorem dX4_costOf_77 : decode cX4_costOf 77 = .ok (.iconst 1, 1) := by decide +kernel
theorem dX4_costOf_78 : decode cX4_costOf 78 = .ok (.aload_n 0, 1) := by decide +kernel
theorem dX4_costOf_79 : decode cX4_costOf 79 = .ok (.iload_n 1, 1) := by decide +kernel
theorem dX4_costOf_80 : decode cX4_costOf 80 = .ok (.invokevirtual 82, 3) := by decide +kernel
theorem dX4_costOf_83 : decode cX4_costOf 83 = .ok (.ireturn, 1) := by decide +kernel
theorem dX4_costOf_84 : decode cX4_costOf 84 = .ok (.aload_n 0, 1) := by decide +kernel
theorem dX4_costOf_85 : decode cX4_costOf 85 = .ok (.getfield 46, 3) := by decide +kernel
theorem dX4_costOf_88 : decode cX4_costOf 88 = .ok (.iconst 1, 1) := by decide +kernel
theorem dX4_costOf_89 : decode cX4_costOf 89 = .ok (.aload_n 0, 1) := by decide +kernel
theorem dX4_costOf_90 : decode cX4_costOf 90 = .ok (.iload_n 1, 1) := by decide +kernel
theorem dX4_costOf_91 : decode cX4_costOf 91 = .ok (.invokevirtual 82, 3) := by decide +kernel
theorem dX4_costOf_94 : decode cX4_costOf 94 = .ok (.ireturn, 1) := by decide +kernel
set_option maxRecDepth 20000 in
theorem ggX4_strokesOf_X4_has : GoodIn wsX4_strokesOf wsX4_has := goodIn_r _ [9, 10, 38, 39, 40, 41, 42, 43, 44, 45, 46, 47, 48, 49] (by decide +kernel) (by decide +kernel)
set_option maxRecDepth 20000 in
theorem gX4_strokesOf_X4_has : GoodIn wsX4_strokesOf (wsV RX4 59 RX4 yX4_has wsX4_has) := goodIn_app (goodIn_of _ (by decide +kernel)) ggX4_strokesOf_X4_has
set_option maxRecDepth 20000 in
theorem ggX4_strokesOf_X3_says : GoodIn wsX4_strokesOf wsX3_says := goodIn_r _ [15, 16, 17, 18, 19, 20, 21, 22, 23, 24, 25, 26, 6, 7, 8, 9, 10, 27, 28, 29, 30, 31, 32, 33, 4, 34, 3, 5, 35, 36, 14, 37, 50, 51, 52, 53, 38, 39, 40, 41, 42, 43, 44, 45, 46, 47, 48, 49] (by decide +kernel) (by decide +kernel)
set_option maxRecDepth 20000 in
theorem gX4_strokesOf_X3_says : GoodIn wsX4_strokesOf (wsV RX4 82 RX3 yX3_says wsX3_says) := goodIn_app (goodIn_of _ (by decide +kernel)) ggX4_strokesOf_X3_says
theorem dX4_strokesOf_0 : decode cX4_strokesOf 0 = .ok (.aload_n 0, 1) := by decide +kernel
theorem dX4_strokesOf_1 : decode cX4_strokesOf 1 = .ok (.iload_n 1, 1) := by decide +kernel
theorem dX4_strokesOf_2 : decode cX4_strokesOf 2 = .ok (.invokevirtual 59, 3) := by decide +kernel
theorem dX4_strokesOf_5 : decode cX4_strokesOf 5 = .ok (.ifCond .ne 5, 3) := by decide +kernel
theorem dX4_strokesOf_8 : decode cX4_strokesOf 8 = .ok (.iconst 0, 1) := by decide +kernel
theorem dX4_strokesOf_9 : decode cX4_strokesOf 9 = .ok (.ireturn, 1) := by decide +kernel
theorem dX4_strokesOf_10 : decode cX4_strokesOf 10 = .ok (.aload_n 0, 1) := by decide +kernel
theorem dX4_strokesOf_11 : decode cX4_strokesOf 11 = .ok (.getfield 9, 3) := by decide +kernel
theorem dX4_strokesOf_14 : decode cX4_strokesOf 14 = .ok (.iload_n 1, 1) := by decide +kernel
theorem dX4_strokesOf_15 : decode cX4_strokesOf 15 = .ok (.iaload, 1) := by decide +kernel
theorem dX4_strokesOf_16 : decode cX4_strokesOf 16 = .ok (.tableswitch 99 2 5 #[32, 50, 63, 97], 32) := by decide +kernel
theorem dX4_strokesOf_48 : decode cX4_strokesOf 48 = .ok (.aload_n 0, 1) := by decide +kernel
theorem dX4_strokesOf_49 : decode cX4_strokesOf 49 = .ok (.getfield 46, 3) := by decide +kernel
theorem dX4_strokesOf_52 : decode cX4_strokesOf 52 = .ok (.iconst 2, 1) := by decide +kernel
theorem dX4_strokesOf_53 : decode cX4_strokesOf 53 = .ok (.aload_n 0, 1) := by decide +kernel
theorem dX4_strokesOf_54 : decode cX4_strokesOf 54 = .ok (.iload_n 1, 1) := by decide +kernel
theorem dX4_strokesOf_55 : decode cX4_strokesOf 55 = .ok (.invokevirtual 82, 3) := by decide +kernel
theorem dX4_strokesOf_58 : decode cX4_strokesOf 58 = .ok (.aload_n 0, 1) := by decide +kernel
theorem dX4_strokesOf_59 : decode cX4_strokesOf 59 = .ok (.getfield 15, 3) := by decide +kernel
theorem dX4_strokesOf_62 : decode cX4_strokesOf 62 = .ok (.iload_n 1, 1) := by decide +kernel
theorem dX4_strokesOf_63 : decode cX4_strokesOf 63 = .ok (.iaload, 1) := by decide +kernel
theorem dX4_strokesOf_64 : decode cX4_strokesOf 64 = .ok (.iadd, 1) := by decide +kernel
theorem dX4_strokesOf_65 : decode cX4_strokesOf 65 = .ok (.ireturn, 1) := by decide +kernel
theorem dX4_strokesOf_66 : decode cX4_strokesOf 66 = .ok (.iconst 2, 1) := by decide +kernel
theorem dX4_strokesOf_67 : decode cX4_strokesOf 67 = .ok (.aload_n 0, 1) := by decide +kernel
theorem dX4_strokesOf_68 : decode cX4_strokesOf 68 = .ok (.getfield 46, 3) := by decide +kernel
theorem dX4_strokesOf_71 : decode cX4_strokesOf 71 = .ok (.iconst 2, 1) := by decide +kernel
theorem dX4_strokesOf_72 : decode cX4_strokesOf 72 = .ok (.aload_n 0, 1) := by decide +kernel
theorem dX4_strokesOf_73 : decode cX4_strokesOf 73 = .ok (.iload_n 1, 1) := by decide +kernel
theorem dX4_strokesOf_74 : decode cX4_strokesOf 74 = .ok (.invokevirtual 82, 3) := by decide +kernel
theorem dX4_strokesOf_77 : decode cX4_strokesOf 77 = .ok (.imul, 1) := by decide +kernel
theorem dX4_strokesOf_78 : decode cX4_strokesOf 78 = .ok (.ireturn, 1) := by decide +kernel
theorem dX4_strokesOf_79 : decode cX4_strokesOf 79 = .ok (.aload_n 0, 1) := by decide +kernel
theorem dX4_strokesOf_80 : decode cX4_strokesOf 80 = .ok (.getfield 34, 3) := by decide +kernel
theorem dX4_strokesOf_83 : decode cX4_strokesOf 83 = .ok (.bipush 24, 2) := by decide +kernel
theorem dX4_strokesOf_85 : decode cX4_strokesOf 85 = .ok (.irem, 1) := by decide +kernel
theorem dX4_strokesOf_86 : decode cX4_strokesOf 86 = .ok (.iconst 3, 1) := by decide +kernel
theorem dX4_strokesOf_87 : decode cX4_strokesOf 87 = .ok (.irem, 1) := by decide +kernel
theorem dX4_strokesOf_88 : decode cX4_strokesOf 88 = .ok (.ifCond .ne 7, 3) := by decide +kernel
theorem dX4_strokesOf_91 : decode cX4_strokesOf 91 = .ok (.iconst 0, 1) := by decide +kernel
theorem dX4_strokesOf_92 : decode cX4_strokesOf 92 = .ok (.goto 20, 3) := by decide +kernel
theorem dX4_strokesOf_95 : decode cX4_strokesOf 95 = .ok (.aload_n 0, 1) := by decide +kernel
theorem dX4_strokesOf_96 : decode cX4_strokesOf 96 = .ok (.getfield 46, 3) := by decide +kernel
theorem dX4_strokesOf_99 : decode cX4_strokesOf 99 = .ok (.iconst 2, 1) := by decide +kernel
theorem dX4_strokesOf_100 : decode cX4_strokesOf 100 = .ok (.aload_n 0, 1) := by decide +kernel
theorem dX4_strokesOf_101 : decode cX4_strokesOf 101 = .ok (.iload_n 1, 1) := by decide +kernel
theorem dX4_strokesOf_102 : decode cX4_strokesOf 102 = .ok (.invokevirtual 82, 3) := by decide +kernel
theorem dX4_strokesOf_105 : decode cX4_strokesOf 105 = .ok (.aload_n 0, 1) := by decide +kernel
theorem dX4_strokesOf_106 : decode cX4_strokesOf 106 = .ok (.getfield 15, 3) := by decide +kernel
theorem dX4_strokesOf_109 : decode cX4_strokesOf 109 = .ok (.iload_n 1, 1) := by decide +kernel
theorem dX4_strokesOf_110 : decode cX4_strokesOf 110 = .ok (.iaload, 1) := by decide +kernel
theorem dX4_strokesOf_111 : decode cX4_strokesOf 111 = .ok (.iadd, 1) := by decide +kernel
theorem dX4_strokesOf_112 : decode cX4_strokesOf 112 = .ok (.ireturn, 1) := by decide +kernel
theorem dX4_strokesOf_113 : decode cX4_strokesOf 113 = .ok (.iconst 0, 1) := by decide +kernel
theorem dX4_strokesOf_114 : decode cX4_strokesOf 114 = .ok (.ireturn, 1) := by decide +kernel
theorem dX4_strokesOf_115 : decode cX4_strokesOf 115 = .ok (.aload_n 0, 1) := by decide +kernel
theorem dX4_strokesOf_116 : decode cX4_strokesOf 116 = .ok (.getfield 46, 3) := by decide +kernel
theorem dX4_strokesOf_119 : decode cX4_strokesOf 119 = .ok (.iconst 2, 1) := by decide +kernel
theorem dX4_strokesOf_120 : decode cX4_strokesOf 120 = .ok (.aload_n 0, 1) := by decide +kernel
theorem dX4_strokesOf_121 : decode cX4_strokesOf 121 = .ok (.iload_n 1, 1) := by decide +kernel
theorem dX4_strokesOf_122 : decode cX4_strokesOf 122 = .ok (.invokevirtual 82, 3) := by decide +kernel
theorem dX4_strokesOf_125 : decode cX4_strokesOf 125 = .ok (.ireturn, 1) := by decide +kernel
set_option maxRecDepth 20000 in
theorem ggX4_liars_X4_isLying : GoodIn wsX4_liars wsX4_isLying := goodIn_r _ [6, 7, 8, 9, 10, 11, 12, 13, 5, 14, 1, 15, 16, 17, 18, 19, 20, 21, 22, 23, 24, 25, 26, 27, 28, 29, 30, 31, 32, 33, 34, 35, 36, 37, 38, 39, 40, 41, 42, 43, 44, 45, 46, 47, 48, 49, 50, 51, 52, 53, 54, 55, 56, 57, 58, 59, 60, 61, 62, 63, 64, 65, 66, 67, 68, 69, 70, 71] (by decide +kernel) (by decide +kernel)
set_option maxRecDepth 20000 in
theorem gX4_liars_X4_isLying : GoodIn wsX4_liars (wsV RX4 88 RX4 yX4_isLying wsX4_isLying) := goodIn_app (goodIn_of _ (by decide +kernel)) ggX4_liars_X4_isLying
theorem dX4_liars_0 : decode cX4_liars 0 = .ok (.iconst 0, 1) := by decide +kernel
theorem dX4_liars_1 : decode cX4_liars 1 = .ok (.istore_n 1, 1) := by decide +kernel
theorem dX4_liars_2 : decode cX4_liars 2 = .ok (.iconst 0, 1) := by decide +kernel
theorem dX4_liars_3 : decode cX4_liars 3 = .ok (.istore_n 2, 1) := by decide +kernel
theorem dX4_liars_4 : decode cX4_liars 4 = .ok (.iload_n 2, 1) := by decide +kernel
theorem dX4_liars_5 : decode cX4_liars 5 = .ok (.aload_n 0, 1) := by decide +kernel
theorem dX4_liars_6 : decode cX4_liars 6 = .ok (.getfield 31, 3) := by decide +kernel
theorem dX4_liars_9 : decode cX4_liars 9 = .ok (.if_icmp .ge 23, 3) := by decide +kernel
theorem dX4_liars_12 : decode cX4_liars 12 = .ok (.aload_n 0, 1) := by decide +kernel
theorem dX4_liars_13 : decode cX4_liars 13 = .ok (.iload_n 2, 1) := by decide +kernel
theorem dX4_liars_14 : decode cX4_liars 14 = .ok (.invokevirtual 88, 3) := by decide +kernel
theorem dX4_liars_17 : decode cX4_liars 17 = .ok (.ifCond .eq 9, 3) := by decide +kernel
theorem dX4_liars_20 : decode cX4_liars 20 = .ok (.iload_n 1, 1) := by decide +kernel
theorem dX4_liars_21 : decode cX4_liars 21 = .ok (.iconst 1, 1) := by decide +kernel
theorem dX4_liars_22 : decode cX4_liars 22 = .ok (.iload_n 2, 1) := by decide +kernel
theorem dX4_liars_23 : decode cX4_liars 23 = .ok (.ishl, 1) := by decide +kernel
theorem dX4_liars_24 : decode cX4_liars 24 = .ok (.ior, 1) := by decide +kernel
theorem dX4_liars_25 : decode cX4_liars 25 = .ok (.istore_n 1, 1) := by decide +kernel
theorem dX4_liars_26 : decode cX4_liars 26 = .ok (.iinc 2 1, 3) := by decide +kernel
theorem dX4_liars_29 : decode cX4_liars 29 = .ok (.goto (-25), 3) := by decide +kernel
theorem dX4_liars_32 : decode cX4_liars 32 = .ok (.iload_n 1, 1) := by decide +kernel
theorem dX4_liars_33 : decode cX4_liars 33 = .ok (.ireturn, 1) := by decide +kernel
set_option maxRecDepth 20000 in
theorem ggX4_strikesOf_X4_strokesOf : GoodIn wsX4_strikesOf wsX4_strokesOf := goodIn_r _ [6, 7, 8, 9, 10, 11, 12, 13, 5, 14, 1, 15, 16, 17, 18, 19, 20, 21, 22, 23, 24, 25, 26, 27, 28, 29, 30, 31, 32, 33, 34, 35, 36, 37, 38, 39, 40, 41, 42, 43, 44, 45, 46, 47, 48, 49, 50, 51, 52, 53, 54, 55, 56, 57] (by decide +kernel) (by decide +kernel)
set_option maxRecDepth 20000 in
theorem gX4_strikesOf_X4_strokesOf : GoodIn wsX4_strikesOf (wsV RX4 91 RX4 yX4_strokesOf wsX4_strokesOf) := goodIn_app (goodIn_of _ (by decide +kernel)) ggX4_strikesOf_X4_strokesOf
theorem dX4_strikesOf_0 : decode cX4_strikesOf 0 = .ok (.iconst 0, 1) := by decide +kernel
theorem dX4_strikesOf_1 : decode cX4_strikesOf 1 = .ok (.istore_n 2, 1) := by decide +kernel
theorem dX4_strikesOf_2 : decode cX4_strikesOf 2 = .ok (.iconst 0, 1) := by decide +kernel
theorem dX4_strikesOf_3 : decode cX4_strikesOf 3 = .ok (.istore_n 3, 1) := by decide +kernel
theorem dX4_strikesOf_4 : decode cX4_strikesOf 4 = .ok (.iload_n 3, 1) := by decide +kernel
theorem dX4_strikesOf_5 : decode cX4_strikesOf 5 = .ok (.aload_n 0, 1) := by decide +kernel
theorem dX4_strikesOf_6 : decode cX4_strikesOf 6 = .ok (.getfield 31, 3) := by decide +kernel
theorem dX4_strikesOf_9 : decode cX4_strikesOf 9 = .ok (.if_icmp .ge 26, 3) := by decide +kernel
theorem dX4_strikesOf_12 : decode cX4_strikesOf 12 = .ok (.iload_n 1, 1) := by decide +kernel
theorem dX4_strikesOf_13 : decode cX4_strikesOf 13 = .ok (.iload_n 3, 1) := by decide +kernel
theorem dX4_strikesOf_14 : decode cX4_strikesOf 14 = .ok (.ishr, 1) := by decide +kernel
theorem dX4_strikesOf_15 : decode cX4_strikesOf 15 = .ok (.iconst 1, 1) := by decide +kernel
theorem dX4_strikesOf_16 : decode cX4_strikesOf 16 = .ok (.iand, 1) := by decide +kernel
theorem dX4_strikesOf_17 : decode cX4_strikesOf 17 = .ok (.iconst 1, 1) := by decide +kernel
theorem dX4_strikesOf_18 : decode cX4_strikesOf 18 = .ok (.if_icmp .ne 11, 3) := by decide +kernel
theorem dX4_strikesOf_21 : decode cX4_strikesOf 21 = .ok (.iload_n 2, 1) := by decide +kernel
theorem dX4_strikesOf_22 : decode cX4_strikesOf 22 = .ok (.aload_n 0, 1) := by decide +kernel
theorem dX4_strikesOf_23 : decode cX4_strikesOf 23 = .ok (.iload_n 3, 1) := by decide +kernel
theorem dX4_strikesOf_24 : decode cX4_strikesOf 24 = .ok (.invokevirtual 91, 3) := by decide +kernel
theorem dX4_strikesOf_27 : decode cX4_strikesOf 27 = .ok (.iadd, 1) := by decide +kernel
theorem dX4_strikesOf_28 : decode cX4_strikesOf 28 = .ok (.istore_n 2, 1) := by decide +kernel
theorem dX4_strikesOf_29 : decode cX4_strikesOf 29 = .ok (.iinc 3 1, 3) := by decide +kernel
theorem dX4_strikesOf_32 : decode cX4_strikesOf 32 = .ok (.goto (-28), 3) := by decide +kernel
theorem dX4_strikesOf_35 : decode cX4_strikesOf 35 = .ok (.iload_n 2, 1) := by decide +kernel
theorem dX4_strikesOf_36 : decode cX4_strikesOf 36 = .ok (.ireturn, 1) := by decide +kernel
set_option maxRecDepth 20000 in
theorem ggX4_passHour_X4_strikesOf : GoodIn wsX4_passHour wsX4_strikesOf := goodIn_r _ [19, 1, 20, 21, 22, 18, 23, 24, 25, 26, 14, 27, 28, 29, 30, 31, 32, 33, 34, 35, 36, 37, 38, 39, 4, 5, 6, 40, 8, 9, 41, 42, 43, 44, 45, 2, 10, 3, 11, 46, 47, 48, 53, 54, 55, 56, 57, 58, 59, 60, 61, 62, 63, 64, 65, 66, 67, 68] (by decide +kernel) (by decide +kernel)
set_option maxRecDepth 20000 in
theorem gX4_passHour_X4_strikesOf : GoodIn wsX4_passHour (wsV RX4 95 RX4 yX4_strikesOf wsX4_strikesOf) := goodIn_app (goodIn_of _ (by decide +kernel)) ggX4_passHour_X4_strikesOf
set_option maxRecDepth 20000 in
theorem ggX4_passHour_X4_costOf : GoodIn wsX4_passHour wsX4_costOf := goodIn_r _ [52, 24, 25, 11, 27, 28, 29, 18, 30, 1, 31, 32, 33, 34, 35, 36, 37, 38, 39, 4, 5, 6, 40, 8, 9, 41, 42, 43, 44, 45, 2, 10, 3, 14, 26, 46, 47, 48, 53, 54, 55, 56, 57, 58, 59, 60, 61, 62, 63, 64, 65, 66, 67, 68] (by decide +kernel) (by decide +kernel)
set_option maxRecDepth 20000 in
theorem gX4_passHour_X4_costOf : GoodIn wsX4_passHour (wsV RX4 98 RX4 yX4_costOf wsX4_costOf) := goodIn_app (goodIn_of _ (by decide +kernel)) ggX4_passHour_X4_costOf
theorem dX4_passHour_0 : decode cX4_passHour 0 = .ok (.aload_n 0, 1) := by decide +kernel
theorem dX4_passHour_1 : decode cX4_passHour 1 = .ok (.iload_n 1, 1) := by decide +kernel
theorem dX4_passHour_2 : decode cX4_passHour 2 = .ok (.invokevirtual 95, 3) := by decide +kernel
theorem dX4_passHour_5 : decode cX4_passHour 5 = .ok (.istore_n 2, 1) := by decide +kernel
theorem dX4_passHour_6 : decode cX4_passHour 6 = .ok (.iconst 0, 1) := by decide +kernel
theorem dX4_passHour_7 : decode cX4_passHour 7 = .ok (.istore_n 3, 1) := by decide +kernel
theorem dX4_passHour_8 : decode cX4_passHour 8 = .ok (.iload_n 3, 1) := by decide +kernel
theorem dX4_passHour_9 : decode cX4_passHour 9 = .ok (.aload_n 0, 1) := by decide +kernel
theorem dX4_passHour_10 : decode cX4_passHour 10 = .ok (.getfield 31, 3) := by decide +kernel
theorem dX4_passHour_13 : decode cX4_passHour 13 = .ok (.if_icmp .ge 71, 3) := by decide +kernel
theorem dX4_passHour_16 : decode cX4_passHour 16 = .ok (.iload_n 3, 1) := by decide +kernel
theorem dX4_passHour_17 : decode cX4_passHour 17 = .ok (.bipush 6, 2) := by decide +kernel
theorem dX4_passHour_19 : decode cX4_passHour 19 = .ok (.if_icmp .ge 65, 3) := by decide +kernel
theorem dX4_passHour_22 : decode cX4_passHour 22 = .ok (.iload_n 1, 1) := by decide +kernel
theorem dX4_passHour_23 : decode cX4_passHour 23 = .ok (.iload_n 3, 1) := by decide +kernel
theorem dX4_passHour_24 : decode cX4_passHour 24 = .ok (.ishr, 1) := by decide +kernel
theorem dX4_passHour_25 : decode cX4_passHour 25 = .ok (.iconst 1, 1) := by decide +kernel
theorem dX4_passHour_26 : decode cX4_passHour 26 = .ok (.iand, 1) := by decide +kernel
theorem dX4_passHour_27 : decode cX4_passHour 27 = .ok (.iconst 1, 1) := by decide +kernel
theorem dX4_passHour_28 : decode cX4_passHour 28 = .ok (.if_icmp .ne 50, 3) := by decide +kernel
theorem dX4_passHour_31 : decode cX4_passHour 31 = .ok (.aload_n 0, 1) := by decide +kernel
theorem dX4_passHour_32 : decode cX4_passHour 32 = .ok (.getfield 18, 3) := by decide +kernel
theorem dX4_passHour_35 : decode cX4_passHour 35 = .ok (.iload_n 3, 1) := by decide +kernel
theorem dX4_passHour_36 : decode cX4_passHour 36 = .ok (.iconst 0, 1) := by decide +kernel
theorem dX4_passHour_37 : decode cX4_passHour 37 = .ok (.bipush 99, 2) := by decide +kernel
theorem dX4_passHour_39 : decode cX4_passHour 39 = .ok (.aload_n 0, 1) := by decide +kernel
theorem dX4_passHour_40 : decode cX4_passHour 40 = .ok (.getfield 18, 3) := by decide +kernel
theorem dX4_passHour_43 : decode cX4_passHour 43 = .ok (.iload_n 3, 1) := by decide +kernel
theorem dX4_passHour_44 : decode cX4_passHour 44 = .ok (.iaload, 1) := by decide +kernel
theorem dX4_passHour_45 : decode cX4_passHour 45 = .ok (.aload_n 0, 1) := by decide +kernel
theorem dX4_passHour_46 : decode cX4_passHour 46 = .ok (.iload_n 3, 1) := by decide +kernel
theorem dX4_passHour_47 : decode cX4_passHour 47 = .ok (.invokevirtual 98, 3) := by decide +kernel
theorem dX4_passHour_50 : decode cX4_passHour 50 = .ok (.isub, 1) := by decide +kernel
theorem dX4_passHour_51 : decode cX4_passHour 51 = .ok (.invokestatic 70, 3) := by decide +kernel
theorem dX4_passHour_54 : decode cX4_passHour 54 = .ok (.invokestatic 101, 3) := by decide +kernel
theorem dX4_passHour_57 : decode cX4_passHour 57 = .ok (.iastore, 1) := by decide +kernel
theorem dX4_passHour_58 : decode cX4_passHour 58 = .ok (.aload_n 0, 1) := by decide +kernel
theorem dX4_passHour_59 : decode cX4_passHour 59 = .ok (.getfield 21, 3) := by decide +kernel
theorem dX4_passHour_62 : decode cX4_passHour 62 = .ok (.iload_n 3, 1) := by decide +kernel
theorem dX4_passHour_63 : decode cX4_passHour 63 = .ok (.sipush 9999, 3) := by decide +kernel
theorem dX4_passHour_66 : decode cX4_passHour 66 = .ok (.aload_n 0, 1) := by decide +kernel
theorem dX4_passHour_67 : decode cX4_passHour 67 = .ok (.getfield 21, 3) := by decide +kernel
theorem dX4_passHour_70 : decode cX4_passHour 70 = .ok (.iload_n 3, 1) := by decide +kernel
theorem dX4_passHour_71 : decode cX4_passHour 71 = .ok (.iaload, 1) := by decide +kernel
theorem dX4_passHour_72 : decode cX4_passHour 72 = .ok (.iconst 1, 1) := by decide +kernel
theorem dX4_passHour_73 : decode cX4_passHour 73 = .ok (.iadd, 1) := by decide +kernel
theorem dX4_passHour_74 : decode cX4_passHour 74 = .ok (.invokestatic 70, 3) := by decide +kernel
theorem dX4_passHour_77 : decode cX4_passHour 77 = .ok (.iastore, 1) := by decide +kernel
theorem dX4_passHour_78 : decode cX4_passHour 78 = .ok (.iinc 3 1, 3) := by decide +kernel
theorem dX4_passHour_81 : decode cX4_passHour 81 = .ok (.goto (-73), 3) := by decide +kernel
theorem dX4_passHour_84 : decode cX4_passHour 84 = .ok (.aload_n 0, 1) := by decide +kernel
theorem dX4_passHour_85 : decode cX4_passHour 85 = .ok (.bipush 99, 2) := by decide +kernel
theorem dX4_passHour_87 : decode cX4_passHour 87 = .ok (.iload_n 2, 1) := by decide +kernel
theorem dX4_passHour_88 : decode cX4_passHour 88 = .ok (.invokestatic 70, 3) := by decide +kernel
theorem dX4_passHour_91 : decode cX4_passHour 91 = .ok (.putfield 40, 3) := by decide +kernel
theorem dX4_passHour_94 : decode cX4_passHour 94 = .ok (.aload_n 0, 1) := by decide +kernel
theorem dX4_passHour_95 : decode cX4_passHour 95 = .ok (.ldc 104, 2) := by decide +kernel
theorem dX4_passHour_97 : decode cX4_passHour 97 = .ok (.aload_n 0, 1) := by decide +kernel
theorem dX4_passHour_98 : decode cX4_passHour 98 = .ok (.getfield 37, 3) := by decide +kernel
theorem dX4_passHour_101 : decode cX4_passHour 101 = .ok (.iload_n 2, 1) := by decide +kernel
theorem dX4_passHour_102 : decode cX4_passHour 102 = .ok (.iadd, 1) := by decide +kernel
theorem dX4_passHour_103 : decode cX4_passHour 103 = .ok (.invokestatic 70, 3) := by decide +kernel
theorem dX4_passHour_106 : decode cX4_passHour 106 = .ok (.putfield 37, 3) := by decide +kernel
theorem dX4_passHour_109 : decode cX4_passHour 109 = .ok (.aload_n 0, 1) := by decide +kernel
theorem dX4_passHour_110 : decode cX4_passHour 110 = .ok (.dup, 1) := by decide +kernel
theorem dX4_passHour_111 : decode cX4_passHour 111 = .ok (.getfield 34, 3) := by decide +kernel
theorem dX4_passHour_114 : decode cX4_passHour 114 = .ok (.iconst 1, 1) := by decide +kernel
theorem dX4_passHour_115 : decode cX4_passHour 115 = .ok (.iadd, 1) := by decide +kernel
theorem dX4_passHour_116 : decode cX4_passHour 116 = .ok (.putfield 34, 3) := by decide +kernel
theorem dX4_passHour_119 : decode cX4_passHour 119 = .ok (.iload_n 2, 1) := by decide +kernel
theorem dX4_passHour_120 : decode cX4_passHour 120 = .ok (.ireturn, 1) := by decide +kernel
set_option maxRecDepth 20000 in
theorem ggX4_passHours_X4_liars : GoodIn wsX4_passHours wsX4_liars := goodIn_r _ [5, 6, 7, 8, 9, 4, 10, 11, 12, 13, 14, 15, 16, 17, 18, 19, 20, 21, 22, 23, 24, 25, 26, 27, 28, 29, 30, 31, 32, 33, 34, 35, 36, 37, 38, 39, 40, 41, 42, 43, 44, 45, 46, 47, 48, 49, 50, 51, 52, 53, 54, 55, 56, 57, 58, 59, 79, 80, 81, 82, 83, 84, 85, 86, 87, 88, 89, 90, 91, 92, 93, 94] (by decide +kernel) (by decide +kernel)
set_option maxRecDepth 20000 in
theorem gX4_passHours_X4_liars : GoodIn wsX4_passHours (wsV RX4 105 RX4 yX4_liars wsX4_liars) := goodIn_app (goodIn_of _ (by decide +kernel)) ggX4_passHours_X4_liars
set_option maxRecDepth 20000 in
theorem ggX4_passHours_X4_passHour : GoodIn wsX4_passHours wsX4_passHour := goodIn_r _ [63, 6, 54, 56, 43, 44, 45, 64, 47, 48, 55, 13, 65, 66, 28, 67, 68, 69, 4, 70, 71, 72, 73, 74, 11, 12, 14, 15, 16, 17, 18, 34, 35, 36, 37, 38, 39, 40, 41, 42, 46, 49, 50, 51, 52, 53, 57, 58, 59, 75, 76, 77, 78, 79, 80, 81, 82, 83, 84, 85, 86, 87, 88, 89, 90, 91, 92, 93, 94] (by decide +kernel) (by decide +kernel)
set_option maxRecDepth 20000 in
theorem gX4_passHours_X4_passHour : GoodIn wsX4_passHours (wsV RX4 109 RX4 yX4_passHour wsX4_passHour) := goodIn_app (goodIn_of _ (by decide +kernel)) ggX4_passHours_X4_passHour
theorem dX4_passHours_0 : decode cX4_passHours 0 = .ok (.iconst 0, 1) := by decide +kernel
theorem dX4_passHours_1 : decode cX4_passHours 1 = .ok (.istore_n 2, 1) := by decide +kernel
theorem dX4_passHours_2 : decode cX4_passHours 2 = .ok (.iconst 0, 1) := by decide +kernel
theorem dX4_passHours_3 : decode cX4_passHours 3 = .ok (.istore_n 3, 1) := by decide +kernel
theorem dX4_passHours_4 : decode cX4_passHours 4 = .ok (.iload_n 3, 1) := by decide +kernel
theorem dX4_passHours_5 : decode cX4_passHours 5 = .ok (.iload_n 1, 1) := by decide +kernel
theorem dX4_passHours_6 : decode cX4_passHours 6 = .ok (.if_icmp .ge 20, 3) := by decide +kernel
theorem dX4_passHours_9 : decode cX4_passHours 9 = .ok (.iload_n 2, 1) := by decide +kernel
theorem dX4_passHours_10 : decode cX4_passHours 10 = .ok (.aload_n 0, 1) := by decide +kernel
theorem dX4_passHours_11 : decode cX4_passHours 11 = .ok (.aload_n 0, 1) := by decide +kernel
theorem dX4_passHours_12 : decode cX4_passHours 12 = .ok (.invokevirtual 105, 3) := by decide +kernel
theorem dX4_passHours_15 : decode cX4_passHours 15 = .ok (.invokevirtual 109, 3) := by decide +kernel
theorem dX4_passHours_18 : decode cX4_passHours 18 = .ok (.iadd, 1) := by decide +kernel
theorem dX4_passHours_19 : decode cX4_passHours 19 = .ok (.istore_n 2, 1) := by decide +kernel
theorem dX4_passHours_20 : decode cX4_passHours 20 = .ok (.iinc 3 1, 3) := by decide +kernel
theorem dX4_passHours_23 : decode cX4_passHours 23 = .ok (.goto (-19), 3) := by decide +kernel
theorem dX4_passHours_26 : decode cX4_passHours 26 = .ok (.iload_n 2, 1) := by decide +kernel
theorem dX4_passHours_27 : decode cX4_passHours 27 = .ok (.ireturn, 1) := by decide +kernel
set_option maxRecDepth 20000 in
theorem ggX5_init_X2_init : GoodIn wsX5_init wsX2_init := goodIn_r _ [29, 30, 2, 3, 31, 32, 33, 93, 94, 95, 96, 97, 98, 99] (by decide +kernel) (by decide +kernel)
set_option maxRecDepth 20000 in
theorem gX5_init_X2_init_n23 : GoodIn wsX5_init (wsX2_init) := ggX5_init_X2_init
set_option maxRecDepth 20000 in
theorem ggX5_init_X0_init : GoodIn wsX5_init wsX0_init := goodIn_r _ [35, 36, 2, 3, 31, 37, 38, 100, 101] (by decide +kernel) (by decide +kernel)
set_option maxRecDepth 20000 in
theorem gX5_init_X0_init_n30 : GoodIn wsX5_init (wsX0_init) := ggX5_init_X0_init
set_option maxRecDepth 20000 in
theorem ggX5_init_X3_init : GoodIn wsX5_init wsX3_init := goodIn_r _ [40, 41, 2, 3, 31, 42, 43, 44, 45, 102, 103, 104, 105] (by decide +kernel) (by decide +kernel)
set_option maxRecDepth 20000 in
theorem gX5_init_X3_init_n43 : GoodIn wsX5_init (wsX3_init) := ggX5_init_X3_init
set_option maxRecDepth 20000 in
theorem ggX5_init_X3_becomeFirstLaw : GoodIn wsX5_init wsX3_becomeFirstLaw := goodIn_r _ [49, 50, 51, 52, 19, 53, 45, 54, 55, 56, 57, 42, 58, 59, 60, 61, 44, 102, 103, 104, 105] (by decide +kernel) (by decide +kernel)
set_option maxRecDepth 20000 in
theorem gX5_init_X3_becomeFirstLaw : GoodIn wsX5_init (wsV RX5 44 RX3 yX3_becomeFirstLaw wsX3_becomeFirstLaw) := goodIn_app (goodIn_of _ (by decide +kernel)) ggX5_init_X3_becomeFirstLaw
set_option maxRecDepth 20000 in
theorem ggX5_init_X1_init : GoodIn wsX5_init wsX1_init := goodIn_r _ [63, 64, 2, 3, 31, 65, 66, 67, 106, 107, 108] (by decide +kernel) (by decide +kernel)
set_option maxRecDepth 20000 in
theorem gX5_init_X1_init_n47 : GoodIn wsX5_init (wsX1_init) := ggX5_init_X1_init
set_option maxRecDepth 20000 in
theorem ggX5_init_X4_init : GoodIn wsX5_init wsX4_init := goodIn_r _ [70, 71, 2, 3, 31, 72, 73, 74, 75, 76, 77, 78, 79, 80, 81, 82, 83, 109, 110, 111, 112, 113, 114, 115, 116, 117, 118, 119, 120] (by decide +kernel) (by decide +kernel)
set_option maxRecDepth 20000 in
theorem gX5_init_X4_init : GoodIn wsX5_init (wsX4_init) := ggX5_init_X4_init
theorem dX5_init_0 : decode cX5_init 0 = .ok (.aload_n 0, 1) := by decide +kernel
theorem dX5_init_1 : decode cX5_init 1 = .ok (.invokespecial 1, 3) := by decide +kernel
theorem dX5_init_4 : decode cX5_init 4 = .ok (.aload_n 0, 1) := by decide +kernel
theorem dX5_init_5 : decode cX5_init 5 = .ok (.bipush 6, 2) := by decide +kernel
theorem dX5_init_7 : decode cX5_init 7 = .ok (.anewarray 9, 3) := by decide +kernel
theorem dX5_init_10 : decode cX5_init 10 = .ok (.putfield 11, 3) := by decide +kernel
theorem dX5_init_13 : decode cX5_init 13 = .ok (.aload_n 0, 1) := by decide +kernel
theorem dX5_init_14 : decode cX5_init 14 = .ok (.iconst 4, 1) := by decide +kernel
theorem dX5_init_15 : decode cX5_init 15 = .ok (.anewarray 15, 3) := by decide +kernel
theorem dX5_init_18 : decode cX5_init 18 = .ok (.putfield 17, 3) := by decide +kernel
theorem dX5_init_21 : decode cX5_init 21 = .ok (.aload_n 0, 1) := by decide +kernel
theorem dX5_init_22 : decode cX5_init 22 = .ok (.new 21, 3) := by decide +kernel
theorem dX5_init_25 : decode cX5_init 25 = .ok (.dup, 1) := by decide +kernel
theorem dX5_init_26 : decode cX5_init 26 = .ok (.invokespecial 23, 3) := by decide +kernel
theorem dX5_init_29 : decode cX5_init 29 = .ok (.putfield 24, 3) := by decide +kernel
theorem dX5_init_32 : decode cX5_init 32 = .ok (.aload_n 0, 1) := by decide +kernel
theorem dX5_init_33 : decode cX5_init 33 = .ok (.new 28, 3) := by decide +kernel
theorem dX5_init_36 : decode cX5_init 36 = .ok (.dup, 1) := by decide +kernel
theorem dX5_init_37 : decode cX5_init 37 = .ok (.invokespecial 30, 3) := by decide +kernel
theorem dX5_init_40 : decode cX5_init 40 = .ok (.putfield 31, 3) := by decide +kernel
theorem dX5_init_43 : decode cX5_init 43 = .ok (.aload_n 0, 1) := by decide +kernel
theorem dX5_init_44 : decode cX5_init 44 = .ok (.iconst 1, 1) := by decide +kernel
theorem dX5_init_45 : decode cX5_init 45 = .ok (.putfield 35, 3) := by decide +kernel
theorem dX5_init_48 : decode cX5_init 48 = .ok (.aload_n 0, 1) := by decide +kernel
theorem dX5_init_49 : decode cX5_init 49 = .ok (.iconst 0, 1) := by decide +kernel
theorem dX5_init_50 : decode cX5_init 50 = .ok (.putfield 39, 3) := by decide +kernel
theorem dX5_init_53 : decode cX5_init 53 = .ok (.new 9, 3) := by decide +kernel
theorem dX5_init_56 : decode cX5_init 56 = .ok (.dup, 1) := by decide +kernel
theorem dX5_init_57 : decode cX5_init 57 = .ok (.invokespecial 43, 3) := by decide +kernel
theorem dX5_init_60 : decode cX5_init 60 = .ok (.astore_n 1, 1) := by decide +kernel
theorem dX5_init_61 : decode cX5_init 61 = .ok (.aload_n 1, 1) := by decide +kernel
theorem dX5_init_62 : decode cX5_init 62 = .ok (.invokevirtual 44, 3) := by decide +kernel
theorem dX5_init_65 : decode cX5_init 65 = .ok (.aload_n 0, 1) := by decide +kernel
theorem dX5_init_66 : decode cX5_init 66 = .ok (.getfield 11, 3) := by decide +kernel
theorem dX5_init_69 : decode cX5_init 69 = .ok (.iconst 0, 1) := by decide +kernel
theorem dX5_init_70 : decode cX5_init 70 = .ok (.aload_n 1, 1) := by decide +kernel
theorem dX5_init_71 : decode cX5_init 71 = .ok (.aastore, 1) := by decide +kernel
theorem dX5_init_72 : decode cX5_init 72 = .ok (.iconst 1, 1) := by decide +kernel
theorem dX5_init_73 : decode cX5_init 73 = .ok (.istore_n 2, 1) := by decide +kernel
theorem dX5_init_74 : decode cX5_init 74 = .ok (.iload_n 2, 1) := by decide +kernel
theorem dX5_init_75 : decode cX5_init 75 = .ok (.bipush 6, 2) := by decide +kernel
theorem dX5_init_77 : decode cX5_init 77 = .ok (.if_icmp .ge 22, 3) := by decide +kernel
theorem dX5_init_80 : decode cX5_init 80 = .ok (.aload_n 0, 1) := by decide +kernel
theorem dX5_init_81 : decode cX5_init 81 = .ok (.getfield 11, 3) := by decide +kernel
theorem dX5_init_84 : decode cX5_init 84 = .ok (.iload_n 2, 1) := by decide +kernel
theorem dX5_init_85 : decode cX5_init 85 = .ok (.new 9, 3) := by decide +kernel
theorem dX5_init_88 : decode cX5_init 88 = .ok (.dup, 1) := by decide +kernel
theorem dX5_init_89 : decode cX5_init 89 = .ok (.invokespecial 43, 3) := by decide +kernel
theorem dX5_init_92 : decode cX5_init 92 = .ok (.aastore, 1) := by decide +kernel
theorem dX5_init_93 : decode cX5_init 93 = .ok (.iinc 2 1, 3) := by decide +kernel
theorem dX5_init_96 : decode cX5_init 96 = .ok (.goto (-22), 3) := by decide +kernel
theorem dX5_init_99 : decode cX5_init 99 = .ok (.iconst 0, 1) := by decide +kernel
theorem dX5_init_100 : decode cX5_init 100 = .ok (.istore_n 2, 1) := by decide +kernel
theorem dX5_init_101 : decode cX5_init 101 = .ok (.iload_n 2, 1) := by decide +kernel
theorem dX5_init_102 : decode cX5_init 102 = .ok (.iconst 4, 1) := by decide +kernel
theorem dX5_init_103 : decode cX5_init 103 = .ok (.if_icmp .ge 22, 3) := by decide +kernel
theorem dX5_init_106 : decode cX5_init 106 = .ok (.aload_n 0, 1) := by decide +kernel
theorem dX5_init_107 : decode cX5_init 107 = .ok (.getfield 17, 3) := by decide +kernel
theorem dX5_init_110 : decode cX5_init 110 = .ok (.iload_n 2, 1) := by decide +kernel
theorem dX5_init_111 : decode cX5_init 111 = .ok (.new 15, 3) := by decide +kernel
theorem dX5_init_114 : decode cX5_init 114 = .ok (.dup, 1) := by decide +kernel
theorem dX5_init_115 : decode cX5_init 115 = .ok (.invokespecial 47, 3) := by decide +kernel
theorem dX5_init_118 : decode cX5_init 118 = .ok (.aastore, 1) := by decide +kernel
theorem dX5_init_119 : decode cX5_init 119 = .ok (.iinc 2 1, 3) := by decide +kernel
theorem dX5_init_122 : decode cX5_init 122 = .ok (.goto (-21), 3) := by decide +kernel
theorem dX5_init_125 : decode cX5_init 125 = .ok (.aload_n 0, 1) := by decide +kernel
theorem dX5_init_126 : decode cX5_init 126 = .ok (.new 48, 3) := by decide +kernel
theorem dX5_init_129 : decode cX5_init 129 = .ok (.dup, 1) := by decide +kernel
theorem dX5_init_130 : decode cX5_init 130 = .ok (.aload_n 1, 1) := by decide +kernel
theorem dX5_init_131 : decode cX5_init 131 = .ok (.invokespecial 50, 3) := by decide +kernel
theorem dX5_init_134 : decode cX5_init 134 = .ok (.putfield 53, 3) := by decide +kernel
theorem dX5_init_137 : decode cX5_init 137 = .ok (.aload_n 0, 1) := by decide +kernel
theorem dX5_init_138 : decode cX5_init 138 = .ok (.new 48, 3) := by decide +kernel
theorem dX5_init_141 : decode cX5_init 141 = .ok (.dup, 1) := by decide +kernel
theorem dX5_init_142 : decode cX5_init 142 = .ok (.aload_n 1, 1) := by decide +kernel
theorem dX5_init_143 : decode cX5_init 143 = .ok (.invokespecial 50, 3) := by decide +kernel
theorem dX5_init_146 : decode cX5_init 146 = .ok (.putfield 57, 3) := by decide +kernel
theorem dX5_init_149 : decode cX5_init 149 = .ok (.aload_n 0, 1) := by decide +kernel
theorem dX5_init_150 : decode cX5_init 150 = .ok (.new 48, 3) := by decide +kernel
theorem dX5_init_153 : decode cX5_init 153 = .ok (.dup, 1) := by decide +kernel
theorem dX5_init_154 : decode cX5_init 154 = .ok (.aload_n 1, 1) := by decide +kernel
theorem dX5_init_155 : decode cX5_init 155 = .ok (.invokespecial 50, 3) := by decide +kernel
theorem dX5_init_158 : decode cX5_init 158 = .ok (.putfield 60, 3) := by decide +kernel
theorem dX5_init_161 : decode cX5_init 161 = .ok (.return_, 1) := by decide +kernel
theorem dX5_count_0 : decode cX5_count 0 = .ok (.iload_n 1, 1) := by decide +kernel
theorem dX5_count_1 : decode cX5_count 1 = .ok (.tableswitch 96 0 6 #[43, 51, 59, 67, 72, 80, 88], 43) := by decide +kernel
theorem dX5_count_44 : decode cX5_count 44 = .ok (.aload_n 0, 1) := by decide +kernel
theorem dX5_count_45 : decode cX5_count 45 = .ok (.getfield 53, 3) := by decide +kernel
theorem dX5_count_48 : decode cX5_count 48 = .ok (.getfield 63, 3) := by decide +kernel
theorem dX5_count_51 : decode cX5_count 51 = .ok (.ireturn, 1) := by decide +kernel
theorem dX5_count_52 : decode cX5_count 52 = .ok (.aload_n 0, 1) := by decide +kernel
theorem dX5_count_53 : decode cX5_count 53 = .ok (.getfield 53, 3) := by decide +kernel
theorem dX5_count_56 : decode cX5_count 56 = .ok (.getfield 66, 3) := by decide +kernel
theorem dX5_count_59 : decode cX5_count 59 = .ok (.ireturn, 1) := by decide +kernel
theorem dX5_count_60 : decode cX5_count 60 = .ok (.aload_n 0, 1) := by decide +kernel
theorem dX5_count_61 : decode cX5_count 61 = .ok (.getfield 53, 3) := by decide +kernel
theorem dX5_count_64 : decode cX5_count 64 = .ok (.getfield 69, 3) := by decide +kernel
theorem dX5_count_67 : decode cX5_count 67 = .ok (.ireturn, 1) := by decide +kernel
theorem dX5_count_68 : decode cX5_count 68 = .ok (.aload_n 0, 1) := by decide +kernel
theorem dX5_count_69 : decode cX5_count 69 = .ok (.getfield 35, 3) := by decide +kernel
theorem dX5_count_72 : decode cX5_count 72 = .ok (.ireturn, 1) := by decide +kernel
theorem dX5_count_73 : decode cX5_count 73 = .ok (.aload_n 0, 1) := by decide +kernel
theorem dX5_count_74 : decode cX5_count 74 = .ok (.getfield 53, 3) := by decide +kernel
theorem dX5_count_77 : decode cX5_count 77 = .ok (.getfield 72, 3) := by decide +kernel
theorem dX5_count_80 : decode cX5_count 80 = .ok (.ireturn, 1) := by decide +kernel
theorem dX5_count_81 : decode cX5_count 81 = .ok (.aload_n 0, 1) := by decide +kernel
theorem dX5_count_82 : decode cX5_count 82 = .ok (.getfield 24, 3) := by decide +kernel
theorem dX5_count_85 : decode cX5_count 85 = .ok (.getfield 75, 3) := by decide +kernel
theorem dX5_count_88 : decode cX5_count 88 = .ok (.ireturn, 1) := by decide +kernel
theorem dX5_count_89 : decode cX5_count 89 = .ok (.aload_n 0, 1) := by decide +kernel
theorem dX5_count_90 : decode cX5_count 90 = .ok (.getfield 53, 3) := by decide +kernel
theorem dX5_count_93 : decode cX5_count 93 = .ok (.getfield 78, 3) := by decide +kernel
theorem dX5_count_96 : decode cX5_count 96 = .ok (.ireturn, 1) := by decide +kernel
theorem dX5_count_97 : decode cX5_count 97 = .ok (.bipush (-2), 2) := by decide +kernel
theorem dX5_count_99 : decode cX5_count 99 = .ok (.ireturn, 1) := by decide +kernel
set_option maxRecDepth 20000 in
theorem ggX5_clock_X5_isWithin : GoodIn wsX5_clock wsX5_isWithin := goodIn_r _ [6] (by decide +kernel) (by decide +kernel)
set_option maxRecDepth 20000 in
theorem gX5_clock_X5_isWithin : GoodIn wsX5_clock (va_wsS RX5 81 yX5_isWithin wsX5_isWithin) := goodIn_app (goodIn_of _ (by decide +kernel)) ggX5_clock_X5_isWithin
theorem dX5_clock_0 : decode cX5_clock 0 = .ok (.iload_n 1, 1) := by decide +kernel
theorem dX5_clock_1 : decode cX5_clock 1 = .ok (.iconst 0, 1) := by decide +kernel
theorem dX5_clock_2 : decode cX5_clock 2 = .ok (.sipush 9999, 3) := by decide +kernel
theorem dX5_clock_5 : decode cX5_clock 5 = .ok (.invokestatic 81, 3) := by decide +kernel
theorem dX5_clock_8 : decode cX5_clock 8 = .ok (.ifCond .ne 6, 3) := by decide +kernel
theorem dX5_clock_11 : decode cX5_clock 11 = .ok (.bipush (-2), 2) := by decide +kernel
theorem dX5_clock_13 : decode cX5_clock 13 = .ok (.ireturn, 1) := by decide +kernel
theorem dX5_clock_14 : decode cX5_clock 14 = .ok (.aload_n 0, 1) := by decide +kernel
theorem dX5_clock_15 : decode cX5_clock 15 = .ok (.getfield 53, 3) := by decide +kernel
theorem dX5_clock_18 : decode cX5_clock 18 = .ok (.getfield 66, 3) := by decide +kernel
theorem dX5_clock_21 : decode cX5_clock 21 = .ok (.istore_n 2, 1) := by decide +kernel
theorem dX5_clock_22 : decode cX5_clock 22 = .ok (.aload_n 0, 1) := by decide +kernel
theorem dX5_clock_23 : decode cX5_clock 23 = .ok (.getfield 53, 3) := by decide +kernel
theorem dX5_clock_26 : decode cX5_clock 26 = .ok (.iload_n 1, 1) := by decide +kernel
theorem dX5_clock_27 : decode cX5_clock 27 = .ok (.putfield 66, 3) := by decide +kernel
theorem dX5_clock_30 : decode cX5_clock 30 = .ok (.iload_n 2, 1) := by decide +kernel
theorem dX5_clock_31 : decode cX5_clock 31 = .ok (.ireturn, 1) := by decide +kernel
set_option maxRecDepth 20000 in
theorem ggX5_feed_X5_isWithin : GoodIn wsX5_feed wsX5_isWithin := goodIn_r _ [6] (by decide +kernel) (by decide +kernel)
set_option maxRecDepth 20000 in
theorem gX5_feed_X5_isWithin : GoodIn wsX5_feed (va_wsS RX5 81 yX5_isWithin wsX5_isWithin) := goodIn_app (goodIn_of _ (by decide +kernel)) ggX5_feed_X5_isWithin
set_option maxRecDepth 20000 in
theorem ggX5_feed_X5_isByte : GoodIn wsX5_feed wsX5_isByte := goodIn_r _ [9, 3, 4, 5, 6] (by decide +kernel) (by decide +kernel)
set_option maxRecDepth 20000 in
theorem gX5_feed_X5_isByte : GoodIn wsX5_feed (va_wsS RX5 85 yX5_isByte wsX5_isByte) := goodIn_app (goodIn_of _ (by decide +kernel)) ggX5_feed_X5_isByte
set_option maxRecDepth 20000 in
theorem ggX5_feed_X2_add : GoodIn wsX5_feed wsX2_add := goodIn_r _ [14, 15, 16, 26, 27, 28, 29, 30, 31, 32] (by decide +kernel) (by decide +kernel)
set_option maxRecDepth 20000 in
theorem gX5_feed_X2_add : GoodIn wsX5_feed (wsV RX5 89 RX2 yX2_add wsX2_add) := goodIn_app (goodIn_of _ (by decide +kernel)) ggX5_feed_X2_add
theorem dX5_feed_0 : decode cX5_feed 0 = .ok (.iload_n 1, 1) := by decide +kernel
theorem dX5_feed_1 : decode cX5_feed 1 = .ok (.iconst 1, 1) := by decide +kernel
theorem dX5_feed_2 : decode cX5_feed 2 = .ok (.iconst 5, 1) := by decide +kernel
theorem dX5_feed_3 : decode cX5_feed 3 = .ok (.invokestatic 81, 3) := by decide +kernel
theorem dX5_feed_6 : decode cX5_feed 6 = .ok (.ifCond .eq 41, 3) := by decide +kernel
theorem dX5_feed_9 : decode cX5_feed 9 = .ok (.iload_n 2, 1) := by decide +kernel
theorem dX5_feed_10 : decode cX5_feed 10 = .ok (.invokestatic 85, 3) := by decide +kernel
theorem dX5_feed_13 : decode cX5_feed 13 = .ok (.ifCond .eq 34, 3) := by decide +kernel
theorem dX5_feed_16 : decode cX5_feed 16 = .ok (.iload_n 3, 1) := by decide +kernel
theorem dX5_feed_17 : decode cX5_feed 17 = .ok (.invokestatic 85, 3) := by decide +kernel
theorem dX5_feed_20 : decode cX5_feed 20 = .ok (.ifCond .eq 27, 3) := by decide +kernel
theorem dX5_feed_23 : decode cX5_feed 23 = .ok (.iload 4, 2) := by decide +kernel
theorem dX5_feed_25 : decode cX5_feed 25 = .ok (.invokestatic 85, 3) := by decide +kernel
theorem dX5_feed_28 : decode cX5_feed 28 = .ok (.ifCond .eq 19, 3) := by decide +kernel
theorem dX5_feed_31 : decode cX5_feed 31 = .ok (.iload 5, 2) := by decide +kernel
theorem dX5_feed_33 : decode cX5_feed 33 = .ok (.invokestatic 85, 3) := by decide +kernel
theorem dX5_feed_36 : decode cX5_feed 36 = .ok (.ifCond .eq 11, 3) := by decide +kernel
theorem dX5_feed_39 : decode cX5_feed 39 = .ok (.iload 6, 2) := by decide +kernel
theorem dX5_feed_41 : decode cX5_feed 41 = .ok (.invokestatic 85, 3) := by decide +kernel
theorem dX5_feed_44 : decode cX5_feed 44 = .ok (.ifCond .ne 6, 3) := by decide +kernel
theorem dX5_feed_47 : decode cX5_feed 47 = .ok (.bipush (-2), 2) := by decide +kernel
theorem dX5_feed_49 : decode cX5_feed 49 = .ok (.ireturn, 1) := by decide +kernel
theorem dX5_feed_50 : decode cX5_feed 50 = .ok (.aload_n 0, 1) := by decide +kernel
theorem dX5_feed_51 : decode cX5_feed 51 = .ok (.getfield 24, 3) := by decide +kernel
theorem dX5_feed_54 : decode cX5_feed 54 = .ok (.getfield 75, 3) := by decide +kernel
theorem dX5_feed_57 : decode cX5_feed 57 = .ok (.iload_n 1, 1) := by decide +kernel
theorem dX5_feed_58 : decode cX5_feed 58 = .ok (.iadd, 1) := by decide +kernel
theorem dX5_feed_59 : decode cX5_feed 59 = .ok (.sipush 160, 3) := by decide +kernel
theorem dX5_feed_62 : decode cX5_feed 62 = .ok (.if_icmp .le 6, 3) := by decide +kernel
theorem dX5_feed_65 : decode cX5_feed 65 = .ok (.bipush (-4), 2) := by decide +kernel
theorem dX5_feed_67 : decode cX5_feed 67 = .ok (.ireturn, 1) := by decide +kernel
theorem dX5_feed_68 : decode cX5_feed 68 = .ok (.iconst 0, 1) := by decide +kernel
theorem dX5_feed_69 : decode cX5_feed 69 = .ok (.istore 7, 2) := by decide +kernel
theorem dX5_feed_71 : decode cX5_feed 71 = .ok (.iload 7, 2) := by decide +kernel
theorem dX5_feed_73 : decode cX5_feed 73 = .ok (.iload_n 1, 1) := by decide +kernel
theorem dX5_feed_74 : decode cX5_feed 74 = .ok (.if_icmp .ge 59, 3) := by decide +kernel
theorem dX5_feed_77 : decode cX5_feed 77 = .ok (.aload_n 0, 1) := by decide +kernel
theorem dX5_feed_78 : decode cX5_feed 78 = .ok (.getfield 24, 3) := by decide +kernel
theorem dX5_feed_81 : decode cX5_feed 81 = .ok (.iload 7, 2) := by decide +kernel
theorem dX5_feed_83 : decode cX5_feed 83 = .ok (.ifCond .ne 7, 3) := by decide +kernel
theorem dX5_feed_86 : decode cX5_feed 86 = .ok (.iload_n 2, 1) := by decide +kernel
theorem dX5_feed_87 : decode cX5_feed 87 = .ok (.goto 37, 3) := by decide +kernel
theorem dX5_feed_90 : decode cX5_feed 90 = .ok (.iload 7, 2) := by decide +kernel
theorem dX5_feed_92 : decode cX5_feed 92 = .ok (.iconst 1, 1) := by decide +kernel
theorem dX5_feed_93 : decode cX5_feed 93 = .ok (.if_icmp .ne 7, 3) := by decide +kernel
theorem dX5_feed_96 : decode cX5_feed 96 = .ok (.iload_n 3, 1) := by decide +kernel
theorem dX5_feed_97 : decode cX5_feed 97 = .ok (.goto 27, 3) := by decide +kernel
theorem dX5_feed_100 : decode cX5_feed 100 = .ok (.iload 7, 2) := by decide +kernel
theorem dX5_feed_102 : decode cX5_feed 102 = .ok (.iconst 2, 1) := by decide +kernel
theorem dX5_feed_103 : decode cX5_feed 103 = .ok (.if_icmp .ne 8, 3) := by decide +kernel
theorem dX5_feed_106 : decode cX5_feed 106 = .ok (.iload 4, 2) := by decide +kernel
theorem dX5_feed_108 : decode cX5_feed 108 = .ok (.goto 16, 3) := by decide +kernel
theorem dX5_feed_111 : decode cX5_feed 111 = .ok (.iload 7, 2) := by decide +kernel
theorem dX5_feed_113 : decode cX5_feed 113 = .ok (.iconst 3, 1) := by decide +kernel
theorem dX5_feed_114 : decode cX5_feed 114 = .ok (.if_icmp .ne 8, 3) := by decide +kernel
theorem dX5_feed_117 : decode cX5_feed 117 = .ok (.iload 5, 2) := by decide +kernel
theorem dX5_feed_119 : decode cX5_feed 119 = .ok (.goto 5, 3) := by decide +kernel
theorem dX5_feed_122 : decode cX5_feed 122 = .ok (.iload 6, 2) := by decide +kernel
theorem dX5_feed_124 : decode cX5_feed 124 = .ok (.invokevirtual 89, 3) := by decide +kernel
theorem dX5_feed_127 : decode cX5_feed 127 = .ok (.iinc 7 1, 3) := by decide +kernel
theorem dX5_feed_130 : decode cX5_feed 130 = .ok (.goto (-59), 3) := by decide +kernel
theorem dX5_feed_133 : decode cX5_feed 133 = .ok (.aload_n 0, 1) := by decide +kernel
theorem dX5_feed_134 : decode cX5_feed 134 = .ok (.getfield 24, 3) := by decide +kernel
theorem dX5_feed_137 : decode cX5_feed 137 = .ok (.getfield 75, 3) := by decide +kernel
theorem dX5_feed_140 : decode cX5_feed 140 = .ok (.ireturn, 1) := by decide +kernel
set_option maxRecDepth 20000 in
theorem ggX5_text_X2_readInto : GoodIn wsX5_text wsX2_readInto := goodIn_r _ [8, 9, 10, 11, 12, 13, 14, 15, 16, 17, 18, 19, 20, 21, 7, 22, 23, 24, 25, 26, 27, 28, 29, 30, 31, 32, 33, 34, 35, 36, 37, 38, 39, 40, 41, 42, 43, 44, 45, 46, 47, 48, 49, 50, 51, 52, 53, 54, 55, 56, 57, 58, 59, 60, 61, 62, 63, 64, 65, 66, 67, 68, 69, 70, 71, 72, 73, 74, 75, 76, 77, 78, 79, 80, 81, 82, 83, 84, 85, 86, 87, 88, 89, 90, 91, 92, 93, 94, 95, 96, 97, 98, 99, 100, 101, 102, 103, 104, 105, 106, 107, 108, 109, 110, 111, 112, 113, 114, 115, 116, 117, 118, 119, 120, 121, 122, 123, 124, 125, 126, 127, 128, 129, 130, 131, 132, 133, 134, 135, 136, 137, 138, 139, 140, 141, 142, 143, 144, 145, 146, 147, 148, 158, 159, 160, 161, 162, 163, 164, 165, 166, 167, 168] (by decide +kernel) (by decide +kernel)
set_option maxRecDepth 20000 in
theorem gX5_text_X2_readInto : GoodIn wsX5_text (wsV RX5 93 RX2 yX2_readInto wsX2_readInto) := goodIn_app (goodIn_of _ (by decide +kernel)) ggX5_text_X2_readInto
theorem dX5_text_0 : decode cX5_text 0 = .ok (.aload_n 0, 1) := by decide +kernel
theorem dX5_text_1 : decode cX5_text 1 = .ok (.getfield 35, 3) := by decide +kernel
theorem dX5_text_4 : decode cX5_text 4 = .ok (.ifCond .lt 12, 3) := by decide +kernel
theorem dX5_text_7 : decode cX5_text 7 = .ok (.aload_n 0, 1) := by decide +kernel
theorem dX5_text_8 : decode cX5_text 8 = .ok (.getfield 35, 3) := by decide +kernel
theorem dX5_text_11 : decode cX5_text 11 = .ok (.bipush 6, 2) := by decide +kernel
theorem dX5_text_13 : decode cX5_text 13 = .ok (.if_icmp .lt 6, 3) := by decide +kernel
theorem dX5_text_16 : decode cX5_text 16 = .ok (.bipush (-4), 2) := by decide +kernel
theorem dX5_text_18 : decode cX5_text 18 = .ok (.ireturn, 1) := by decide +kernel
theorem dX5_text_19 : decode cX5_text 19 = .ok (.aload_n 0, 1) := by decide +kernel
theorem dX5_text_20 : decode cX5_text 20 = .ok (.getfield 24, 3) := by decide +kernel
theorem dX5_text_23 : decode cX5_text 23 = .ok (.aload_n 0, 1) := by decide +kernel
theorem dX5_text_24 : decode cX5_text 24 = .ok (.getfield 11, 3) := by decide +kernel
theorem dX5_text_27 : decode cX5_text 27 = .ok (.aload_n 0, 1) := by decide +kernel
theorem dX5_text_28 : decode cX5_text 28 = .ok (.getfield 35, 3) := by decide +kernel
theorem dX5_text_31 : decode cX5_text 31 = .ok (.aaload, 1) := by decide +kernel
theorem dX5_text_32 : decode cX5_text 32 = .ok (.invokevirtual 93, 3) := by decide +kernel
theorem dX5_text_35 : decode cX5_text 35 = .ok (.istore_n 1, 1) := by decide +kernel
theorem dX5_text_36 : decode cX5_text 36 = .ok (.iload_n 1, 1) := by decide +kernel
theorem dX5_text_37 : decode cX5_text 37 = .ok (.ifCond .lt 8, 3) := by decide +kernel
theorem dX5_text_40 : decode cX5_text 40 = .ok (.bipush (-100), 2) := by decide +kernel
theorem dX5_text_42 : decode cX5_text 42 = .ok (.iload_n 1, 1) := by decide +kernel
theorem dX5_text_43 : decode cX5_text 43 = .ok (.isub, 1) := by decide +kernel
theorem dX5_text_44 : decode cX5_text 44 = .ok (.ireturn, 1) := by decide +kernel
theorem dX5_text_45 : decode cX5_text 45 = .ok (.aload_n 0, 1) := by decide +kernel
theorem dX5_text_46 : decode cX5_text 46 = .ok (.dup, 1) := by decide +kernel
theorem dX5_text_47 : decode cX5_text 47 = .ok (.getfield 35, 3) := by decide +kernel
theorem dX5_text_50 : decode cX5_text 50 = .ok (.iconst 1, 1) := by decide +kernel
theorem dX5_text_51 : decode cX5_text 51 = .ok (.iadd, 1) := by decide +kernel
theorem dX5_text_52 : decode cX5_text 52 = .ok (.putfield 35, 3) := by decide +kernel
theorem dX5_text_55 : decode cX5_text 55 = .ok (.aload_n 0, 1) := by decide +kernel
theorem dX5_text_56 : decode cX5_text 56 = .ok (.getfield 35, 3) := by decide +kernel
theorem dX5_text_59 : decode cX5_text 59 = .ok (.iconst 1, 1) := by decide +kernel
theorem dX5_text_60 : decode cX5_text 60 = .ok (.isub, 1) := by decide +kernel
theorem dX5_text_61 : decode cX5_text 61 = .ok (.ireturn, 1) := by decide +kernel
set_option maxRecDepth 20000 in
theorem ggX5_force_X4_obey : GoodIn wsX5_force wsX4_obey := goodIn_r _ [9, 10, 11, 21, 22, 23, 24, 25, 26, 27, 28, 29, 30, 31, 32] (by decide +kernel) (by decide +kernel)
set_option maxRecDepth 20000 in
theorem gX5_force_X4_obey : GoodIn wsX5_force (wsV RX5 97 RX4 yX4_obey wsX4_obey) := goodIn_app (goodIn_of _ (by decide +kernel)) ggX5_force_X4_obey
theorem dX5_force_0 : decode cX5_force 0 = .ok (.iload_n 1, 1) := by decide +kernel
theorem dX5_force_1 : decode cX5_force 1 = .ok (.ifCond .lt 17, 3) := by decide +kernel
theorem dX5_force_4 : decode cX5_force 4 = .ok (.iload_n 1, 1) := by decide +kernel
theorem dX5_force_5 : decode cX5_force 5 = .ok (.aload_n 0, 1) := by decide +kernel
theorem dX5_force_6 : decode cX5_force 6 = .ok (.getfield 35, 3) := by decide +kernel
theorem dX5_force_9 : decode cX5_force 9 = .ok (.if_icmp .ge 9, 3) := by decide +kernel
theorem dX5_force_12 : decode cX5_force 12 = .ok (.iload_n 1, 1) := by decide +kernel
theorem dX5_force_13 : decode cX5_force 13 = .ok (.bipush 6, 2) := by decide +kernel
theorem dX5_force_15 : decode cX5_force 15 = .ok (.if_icmp .lt 6, 3) := by decide +kernel
theorem dX5_force_18 : decode cX5_force 18 = .ok (.bipush (-2), 2) := by decide +kernel
theorem dX5_force_20 : decode cX5_force 20 = .ok (.ireturn, 1) := by decide +kernel
theorem dX5_force_21 : decode cX5_force 21 = .ok (.aload_n 0, 1) := by decide +kernel
theorem dX5_force_22 : decode cX5_force 22 = .ok (.getfield 53, 3) := by decide +kernel
theorem dX5_force_25 : decode cX5_force 25 = .ok (.getfield 72, 3) := by decide +kernel
theorem dX5_force_28 : decode cX5_force 28 = .ok (.istore_n 2, 1) := by decide +kernel
theorem dX5_force_29 : decode cX5_force 29 = .ok (.aload_n 0, 1) := by decide +kernel
theorem dX5_force_30 : decode cX5_force 30 = .ok (.getfield 53, 3) := by decide +kernel
theorem dX5_force_33 : decode cX5_force 33 = .ok (.aload_n 0, 1) := by decide +kernel
theorem dX5_force_34 : decode cX5_force 34 = .ok (.getfield 11, 3) := by decide +kernel
theorem dX5_force_37 : decode cX5_force 37 = .ok (.iload_n 1, 1) := by decide +kernel
theorem dX5_force_38 : decode cX5_force 38 = .ok (.aaload, 1) := by decide +kernel
theorem dX5_force_39 : decode cX5_force 39 = .ok (.iload_n 1, 1) := by decide +kernel
theorem dX5_force_40 : decode cX5_force 40 = .ok (.invokevirtual 97, 3) := by decide +kernel
theorem dX5_force_43 : decode cX5_force 43 = .ok (.iload_n 2, 1) := by decide +kernel
theorem dX5_force_44 : decode cX5_force 44 = .ok (.ireturn, 1) := by decide +kernel
set_option maxRecDepth 20000 in
theorem ggX5_asks_X5_isWithin : GoodIn wsX5_asks wsX5_isWithin := goodIn_r _ [6] (by decide +kernel) (by decide +kernel)
set_option maxRecDepth 20000 in
theorem gX5_asks_X5_isWithin : GoodIn wsX5_asks (va_wsS RX5 81 yX5_isWithin wsX5_isWithin) := goodIn_app (goodIn_of _ (by decide +kernel)) ggX5_asks_X5_isWithin
set_option maxRecDepth 20000 in
theorem ggX5_asks_X4_has : GoodIn wsX5_asks wsX4_has := goodIn_r _ [11, 12, 52, 53, 54, 55, 56, 57, 58, 59, 60, 61, 62, 63] (by decide +kernel) (by decide +kernel)
set_option maxRecDepth 20000 in
theorem gX5_asks_X4_has : GoodIn wsX5_asks (wsV RX5 101 RX4 yX4_has wsX4_has) := goodIn_app (goodIn_of _ (by decide +kernel)) ggX5_asks_X4_has
set_option maxRecDepth 20000 in
theorem ggX5_asks_X3_says : GoodIn wsX5_asks wsX3_says := goodIn_r _ [17, 18, 19, 20, 21, 22, 23, 24, 25, 26, 27, 28, 8, 9, 10, 11, 12, 29, 30, 31, 32, 33, 34, 35, 36, 37, 38, 39, 40, 41, 16, 42, 64, 65, 66, 67, 52, 53, 54, 55, 56, 57, 58, 59, 60, 61, 62, 63] (by decide +kernel) (by decide +kernel)
set_option maxRecDepth 20000 in
theorem gX5_asks_X3_says : GoodIn wsX5_asks (wsV RX5 108 RX3 yX3_says wsX3_says) := goodIn_app (goodIn_of _ (by decide +kernel)) ggX5_asks_X3_says
theorem dX5_asks_0 : decode cX5_asks 0 = .ok (.iload_n 1, 1) := by decide +kernel
theorem dX5_asks_1 : decode cX5_asks 1 = .ok (.iconst 0, 1) := by decide +kernel
theorem dX5_asks_2 : decode cX5_asks 2 = .ok (.iconst 2, 1) := by decide +kernel
theorem dX5_asks_3 : decode cX5_asks 3 = .ok (.invokestatic 81, 3) := by decide +kernel
theorem dX5_asks_6 : decode cX5_asks 6 = .ok (.ifCond .eq 14, 3) := by decide +kernel
theorem dX5_asks_9 : decode cX5_asks 9 = .ok (.aload_n 0, 1) := by decide +kernel
theorem dX5_asks_10 : decode cX5_asks 10 = .ok (.getfield 53, 3) := by decide +kernel
theorem dX5_asks_13 : decode cX5_asks 13 = .ok (.iload_n 2, 1) := by decide +kernel
theorem dX5_asks_14 : decode cX5_asks 14 = .ok (.invokevirtual 101, 3) := by decide +kernel
theorem dX5_asks_17 : decode cX5_asks 17 = .ok (.ifCond .ne 7, 3) := by decide +kernel
theorem dX5_asks_20 : decode cX5_asks 20 = .ok (.sipush (-1000), 3) := by decide +kernel
theorem dX5_asks_23 : decode cX5_asks 23 = .ok (.ireturn, 1) := by decide +kernel
theorem dX5_asks_24 : decode cX5_asks 24 = .ok (.aload_n 0, 1) := by decide +kernel
theorem dX5_asks_25 : decode cX5_asks 25 = .ok (.getfield 53, 3) := by decide +kernel
theorem dX5_asks_28 : decode cX5_asks 28 = .ok (.getfield 104, 3) := by decide +kernel
theorem dX5_asks_31 : decode cX5_asks 31 = .ok (.iload_n 1, 1) := by decide +kernel
theorem dX5_asks_32 : decode cX5_asks 32 = .ok (.aload_n 0, 1) := by decide +kernel
theorem dX5_asks_33 : decode cX5_asks 33 = .ok (.getfield 53, 3) := by decide +kernel
theorem dX5_asks_36 : decode cX5_asks 36 = .ok (.iload_n 2, 1) := by decide +kernel
theorem dX5_asks_37 : decode cX5_asks 37 = .ok (.invokevirtual 108, 3) := by decide +kernel
theorem dX5_asks_40 : decode cX5_asks 40 = .ok (.ireturn, 1) := by decide +kernel
set_option maxRecDepth 20000 in
theorem ggX5_person_X4_join : GoodIn wsX5_person wsX4_join := goodIn_r _ [6, 7, 8, 9, 10, 11, 12, 13, 14, 15, 16, 17, 27, 28, 29, 30, 31, 32, 33, 34, 35, 36, 37, 38] (by decide +kernel) (by decide +kernel)
set_option maxRecDepth 20000 in
theorem gX5_person_X4_join : GoodIn wsX5_person (wsV RX5 112 RX4 yX4_join wsX4_join) := goodIn_app (goodIn_of _ (by decide +kernel)) ggX5_person_X4_join
theorem dX5_person_0 : decode cX5_person 0 = .ok (.aload_n 0, 1) := by decide +kernel
theorem dX5_person_1 : decode cX5_person 1 = .ok (.getfield 53, 3) := by decide +kernel
theorem dX5_person_4 : decode cX5_person 4 = .ok (.iload_n 1, 1) := by decide +kernel
theorem dX5_person_5 : decode cX5_person 5 = .ok (.iload_n 2, 1) := by decide +kernel
theorem dX5_person_6 : decode cX5_person 6 = .ok (.iload_n 3, 1) := by decide +kernel
theorem dX5_person_7 : decode cX5_person 7 = .ok (.invokevirtual 112, 3) := by decide +kernel
theorem dX5_person_10 : decode cX5_person 10 = .ok (.ireturn, 1) := by decide +kernel
set_option maxRecDepth 20000 in
theorem ggX5_put_X4_has : GoodIn wsX5_put wsX4_has := goodIn_r _ [6, 7, 46, 47, 48, 49, 50, 51, 52, 53, 54, 55, 56, 57] (by decide +kernel) (by decide +kernel)
set_option maxRecDepth 20000 in
theorem gX5_put_X4_has : GoodIn wsX5_put (wsV RX5 101 RX4 yX4_has wsX4_has) := goodIn_app (goodIn_of _ (by decide +kernel)) ggX5_put_X4_has
set_option maxRecDepth 20000 in
theorem ggX5_put_X5_mostOf : GoodIn wsX5_put wsX5_mostOf := goodIn_r _ [11, 12] (by decide +kernel) (by decide +kernel)
set_option maxRecDepth 20000 in
theorem gX5_put_X5_mostOf : GoodIn wsX5_put (va_wsS RX5 116 yX5_mostOf wsX5_mostOf) := goodIn_app (goodIn_of _ (by decide +kernel)) ggX5_put_X5_mostOf
set_option maxRecDepth 20000 in
theorem ggX5_put_X5_isWithin : GoodIn wsX5_put wsX5_isWithin := goodIn_r _ [15] (by decide +kernel) (by decide +kernel)
set_option maxRecDepth 20000 in
theorem gX5_put_X5_isWithin : GoodIn wsX5_put (va_wsS RX5 81 yX5_isWithin wsX5_isWithin) := goodIn_app (goodIn_of _ (by decide +kernel)) ggX5_put_X5_isWithin
set_option maxRecDepth 20000 in
theorem ggX5_put_X4_known : GoodIn wsX5_put wsX4_known := goodIn_r _ [19, 20, 21, 22, 23, 3, 4, 5, 6, 7, 24, 25, 26, 27, 28, 46, 47, 48, 49, 50, 51, 52, 53, 54, 55, 56, 57] (by decide +kernel) (by decide +kernel)
set_option maxRecDepth 20000 in
theorem gX5_put_X4_known : GoodIn wsX5_put (wsV RX5 120 RX4 yX4_known wsX4_known) := goodIn_app (goodIn_of _ (by decide +kernel)) ggX5_put_X4_known
set_option maxRecDepth 20000 in
theorem ggX5_put_X4_change : GoodIn wsX5_put wsX4_change := goodIn_r _ [32, 20, 21, 22, 23, 3, 4, 5, 6, 7, 24, 25, 26, 27, 28, 33, 34, 35, 36, 46, 47, 48, 49, 50, 51, 52, 53, 54, 55, 56, 57] (by decide +kernel) (by decide +kernel)
set_option maxRecDepth 20000 in
theorem gX5_put_X4_change : GoodIn wsX5_put (wsV RX5 124 RX4 yX4_change wsX4_change) := goodIn_app (goodIn_of _ (by decide +kernel)) ggX5_put_X4_change
theorem dX5_put_0 : decode cX5_put 0 = .ok (.aload_n 0, 1) := by decide +kernel
theorem dX5_put_1 : decode cX5_put 1 = .ok (.getfield 53, 3) := by decide +kernel
theorem dX5_put_4 : decode cX5_put 4 = .ok (.iload_n 1, 1) := by decide +kernel
theorem dX5_put_5 : decode cX5_put 5 = .ok (.invokevirtual 101, 3) := by decide +kernel
theorem dX5_put_8 : decode cX5_put 8 = .ok (.ifCond .ne 6, 3) := by decide +kernel
theorem dX5_put_11 : decode cX5_put 11 = .ok (.bipush (-5), 2) := by decide +kernel
theorem dX5_put_13 : decode cX5_put 13 = .ok (.ireturn, 1) := by decide +kernel
theorem dX5_put_14 : decode cX5_put 14 = .ok (.iload_n 2, 1) := by decide +kernel
theorem dX5_put_15 : decode cX5_put 15 = .ok (.invokestatic 116, 3) := by decide +kernel
theorem dX5_put_18 : decode cX5_put 18 = .ok (.istore 4, 2) := by decide +kernel
theorem dX5_put_20 : decode cX5_put 20 = .ok (.iload 4, 2) := by decide +kernel
theorem dX5_put_22 : decode cX5_put 22 = .ok (.ifCond .lt 13, 3) := by decide +kernel
theorem dX5_put_25 : decode cX5_put 25 = .ok (.iload_n 3, 1) := by decide +kernel
theorem dX5_put_26 : decode cX5_put 26 = .ok (.iconst 0, 1) := by decide +kernel
theorem dX5_put_27 : decode cX5_put 27 = .ok (.iload 4, 2) := by decide +kernel
theorem dX5_put_29 : decode cX5_put 29 = .ok (.invokestatic 81, 3) := by decide +kernel
theorem dX5_put_32 : decode cX5_put 32 = .ok (.ifCond .ne 6, 3) := by decide +kernel
theorem dX5_put_35 : decode cX5_put 35 = .ok (.bipush (-7), 2) := by decide +kernel
theorem dX5_put_37 : decode cX5_put 37 = .ok (.ireturn, 1) := by decide +kernel
theorem dX5_put_38 : decode cX5_put 38 = .ok (.aload_n 0, 1) := by decide +kernel
theorem dX5_put_39 : decode cX5_put 39 = .ok (.getfield 53, 3) := by decide +kernel
theorem dX5_put_42 : decode cX5_put 42 = .ok (.iload_n 1, 1) := by decide +kernel
theorem dX5_put_43 : decode cX5_put 43 = .ok (.iload_n 2, 1) := by decide +kernel
theorem dX5_put_44 : decode cX5_put 44 = .ok (.invokevirtual 120, 3) := by decide +kernel
theorem dX5_put_47 : decode cX5_put 47 = .ok (.istore 5, 2) := by decide +kernel
theorem dX5_put_49 : decode cX5_put 49 = .ok (.aload_n 0, 1) := by decide +kernel
theorem dX5_put_50 : decode cX5_put 50 = .ok (.getfield 53, 3) := by decide +kernel
theorem dX5_put_53 : decode cX5_put 53 = .ok (.iload_n 1, 1) := by decide +kernel
theorem dX5_put_54 : decode cX5_put 54 = .ok (.iload_n 2, 1) := by decide +kernel
theorem dX5_put_55 : decode cX5_put 55 = .ok (.iload_n 3, 1) := by decide +kernel
theorem dX5_put_56 : decode cX5_put 56 = .ok (.invokevirtual 124, 3) := by decide +kernel
theorem dX5_put_59 : decode cX5_put 59 = .ok (.iload 5, 2) := by decide +kernel
theorem dX5_put_61 : decode cX5_put 61 = .ok (.ireturn, 1) := by decide +kernel
set_option maxRecDepth 20000 in
theorem ggX5_tells_X4_has : GoodIn wsX5_tells wsX4_has := goodIn_r _ [8, 9, 81, 82, 83, 84, 85, 86, 87, 88, 89, 90, 91, 92] (by decide +kernel) (by decide +kernel)
set_option maxRecDepth 20000 in
theorem gX5_tells_X4_has : GoodIn wsX5_tells (wsV RX5 101 RX4 yX4_has wsX4_has) := goodIn_app (goodIn_of _ (by decide +kernel)) ggX5_tells_X4_has
set_option maxRecDepth 20000 in
theorem ggX5_tells_X4_known : GoodIn wsX5_tells wsX4_known := goodIn_r _ [13, 14, 15, 16, 17, 5, 6, 7, 8, 9, 18, 19, 20, 21, 22, 81, 82, 83, 84, 85, 86, 87, 88, 89, 90, 91, 92] (by decide +kernel) (by decide +kernel)
set_option maxRecDepth 20000 in
theorem gX5_tells_X4_known : GoodIn wsX5_tells (wsV RX5 120 RX4 yX4_known wsX4_known) := goodIn_app (goodIn_of _ (by decide +kernel)) ggX5_tells_X4_known
set_option maxRecDepth 20000 in
theorem ggX5_tells_X4_isLying : GoodIn wsX5_tells wsX4_isLying := goodIn_r _ [26, 27, 28, 29, 30, 17, 5, 6, 7, 8, 9, 18, 19, 20, 21, 22, 31, 32, 33, 34, 35, 36, 37, 38, 39, 16, 40, 41, 42, 43, 44, 45, 46, 47, 48, 49, 50, 51, 52, 53, 54, 55, 56, 57, 58, 59, 14, 15, 60, 61, 62, 63, 81, 82, 83, 84, 85, 86, 87, 88, 89, 90, 91, 92, 93, 94, 95, 96] (by decide +kernel) (by decide +kernel)
set_option maxRecDepth 20000 in
theorem gX5_tells_X4_isLying : GoodIn wsX5_tells (wsV RX5 135 RX4 yX4_isLying wsX4_isLying) := goodIn_app (goodIn_of _ (by decide +kernel)) ggX5_tells_X4_isLying
set_option maxRecDepth 20000 in
theorem ggX5_tells_X4_costOf : GoodIn wsX5_tells wsX4_costOf := goodIn_r _ [67, 27, 28, 29, 17, 5, 6, 7, 8, 9, 40, 41, 42, 43, 44, 45, 46, 47, 48, 49, 50, 51, 52, 53, 54, 55, 56, 57, 58, 59, 14, 15, 60, 35, 30, 61, 62, 63, 81, 82, 83, 84, 85, 86, 87, 88, 89, 90, 91, 92, 93, 94, 95, 96] (by decide +kernel) (by decide +kernel)
set_option maxRecDepth 20000 in
theorem gX5_tells_X4_costOf : GoodIn wsX5_tells (wsV RX5 138 RX4 yX4_costOf wsX4_costOf) := goodIn_app (goodIn_of _ (by decide +kernel)) ggX5_tells_X4_costOf
set_option maxRecDepth 20000 in
theorem ggX5_tells_X4_strokesOf : GoodIn wsX5_tells wsX4_strokesOf := goodIn_r _ [71, 27, 28, 30, 35, 17, 5, 6, 7, 8, 9, 40, 41, 42, 43, 44, 45, 46, 47, 48, 49, 50, 51, 52, 53, 54, 55, 56, 57, 58, 59, 14, 15, 60, 29, 61, 62, 63, 81, 82, 83, 84, 85, 86, 87, 88, 89, 90, 91, 92, 93, 94, 95, 96] (by decide +kernel) (by decide +kernel)
set_option maxRecDepth 20000 in
theorem gX5_tells_X4_strokesOf : GoodIn wsX5_tells (wsV RX5 141 RX4 yX4_strokesOf wsX4_strokesOf) := goodIn_app (goodIn_of _ (by decide +kernel)) ggX5_tells_X4_strokesOf
theorem dX5_tells_0 : decode cX5_tells 0 = .ok (.aload_n 0, 1) := by decide +kernel
theorem dX5_tells_1 : decode cX5_tells 1 = .ok (.getfield 53, 3) := by decide +kernel
theorem dX5_tells_4 : decode cX5_tells 4 = .ok (.iload_n 1, 1) := by decide +kernel
theorem dX5_tells_5 : decode cX5_tells 5 = .ok (.invokevirtual 101, 3) := by decide +kernel
theorem dX5_tells_8 : decode cX5_tells 8 = .ok (.ifCond .ne 6, 3) := by decide +kernel
theorem dX5_tells_11 : decode cX5_tells 11 = .ok (.bipush (-5), 2) := by decide +kernel
theorem dX5_tells_13 : decode cX5_tells 13 = .ok (.ireturn, 1) := by decide +kernel
theorem dX5_tells_14 : decode cX5_tells 14 = .ok (.iload_n 2, 1) := by decide +kernel
theorem dX5_tells_15 : decode cX5_tells 15 = .ok (.tableswitch 118 0 8 #[49, 49, 49, 49, 59, 69, 79, 96, 109], 49) := by decide +kernel
theorem dX5_tells_64 : decode cX5_tells 64 = .ok (.aload_n 0, 1) := by decide +kernel
theorem dX5_tells_65 : decode cX5_tells 65 = .ok (.getfield 53, 3) := by decide +kernel
theorem dX5_tells_68 : decode cX5_tells 68 = .ok (.iload_n 1, 1) := by decide +kernel
theorem dX5_tells_69 : decode cX5_tells 69 = .ok (.iload_n 2, 1) := by decide +kernel
theorem dX5_tells_70 : decode cX5_tells 70 = .ok (.invokevirtual 120, 3) := by decide +kernel
theorem dX5_tells_73 : decode cX5_tells 73 = .ok (.ireturn, 1) := by decide +kernel
theorem dX5_tells_74 : decode cX5_tells 74 = .ok (.aload_n 0, 1) := by decide +kernel
theorem dX5_tells_75 : decode cX5_tells 75 = .ok (.getfield 53, 3) := by decide +kernel
theorem dX5_tells_78 : decode cX5_tells 78 = .ok (.getfield 128, 3) := by decide +kernel
theorem dX5_tells_81 : decode cX5_tells 81 = .ok (.iload_n 1, 1) := by decide +kernel
theorem dX5_tells_82 : decode cX5_tells 82 = .ok (.iaload, 1) := by decide +kernel
theorem dX5_tells_83 : decode cX5_tells 83 = .ok (.ireturn, 1) := by decide +kernel
theorem dX5_tells_84 : decode cX5_tells 84 = .ok (.aload_n 0, 1) := by decide +kernel
theorem dX5_tells_85 : decode cX5_tells 85 = .ok (.getfield 53, 3) := by decide +kernel
theorem dX5_tells_88 : decode cX5_tells 88 = .ok (.getfield 132, 3) := by decide +kernel
theorem dX5_tells_91 : decode cX5_tells 91 = .ok (.iload_n 1, 1) := by decide +kernel
theorem dX5_tells_92 : decode cX5_tells 92 = .ok (.iaload, 1) := by decide +kernel
theorem dX5_tells_93 : decode cX5_tells 93 = .ok (.ireturn, 1) := by decide +kernel
theorem dX5_tells_94 : decode cX5_tells 94 = .ok (.aload_n 0, 1) := by decide +kernel
theorem dX5_tells_95 : decode cX5_tells 95 = .ok (.getfield 53, 3) := by decide +kernel
theorem dX5_tells_98 : decode cX5_tells 98 = .ok (.iload_n 1, 1) := by decide +kernel
theorem dX5_tells_99 : decode cX5_tells 99 = .ok (.invokevirtual 135, 3) := by decide +kernel
theorem dX5_tells_102 : decode cX5_tells 102 = .ok (.ifCond .eq 7, 3) := by decide +kernel
theorem dX5_tells_105 : decode cX5_tells 105 = .ok (.iconst 1, 1) := by decide +kernel
theorem dX5_tells_106 : decode cX5_tells 106 = .ok (.goto 4, 3) := by decide +kernel
theorem dX5_tells_109 : decode cX5_tells 109 = .ok (.iconst 0, 1) := by decide +kernel
theorem dX5_tells_110 : decode cX5_tells 110 = .ok (.ireturn, 1) := by decide +kernel
theorem dX5_tells_111 : decode cX5_tells 111 = .ok (.aload_n 0, 1) := by decide +kernel
theorem dX5_tells_112 : decode cX5_tells 112 = .ok (.getfield 53, 3) := by decide +kernel
theorem dX5_tells_115 : decode cX5_tells 115 = .ok (.iload_n 1, 1) := by decide +kernel
theorem dX5_tells_116 : decode cX5_tells 116 = .ok (.invokevirtual 138, 3) := by decide +kernel
theorem dX5_tells_119 : decode cX5_tells 119 = .ok (.sipush 1000, 3) := by decide +kernel
theorem dX5_tells_122 : decode cX5_tells 122 = .ok (.iadd, 1) := by decide +kernel
theorem dX5_tells_123 : decode cX5_tells 123 = .ok (.ireturn, 1) := by decide +kernel
theorem dX5_tells_124 : decode cX5_tells 124 = .ok (.aload_n 0, 1) := by decide +kernel
theorem dX5_tells_125 : decode cX5_tells 125 = .ok (.getfield 53, 3) := by decide +kernel
theorem dX5_tells_128 : decode cX5_tells 128 = .ok (.iload_n 1, 1) := by decide +kernel
theorem dX5_tells_129 : decode cX5_tells 129 = .ok (.invokevirtual 141, 3) := by decide +kernel
theorem dX5_tells_132 : decode cX5_tells 132 = .ok (.ireturn, 1) := by decide +kernel
theorem dX5_tells_133 : decode cX5_tells 133 = .ok (.bipush (-7), 2) := by decide +kernel
theorem dX5_tells_135 : decode cX5_tells 135 = .ok (.ireturn, 1) := by decide +kernel
set_option maxRecDepth 20000 in
theorem ggX5_bell_X4_liars : GoodIn wsX5_bell wsX4_liars := goodIn_r _ [8, 9, 10, 11, 12, 7, 13, 14, 15, 16, 17, 18, 19, 20, 21, 22, 23, 24, 25, 26, 27, 28, 29, 30, 31, 32, 33, 34, 35, 36, 37, 38, 39, 40, 41, 42, 43, 44, 45, 46, 47, 48, 49, 50, 51, 52, 53, 54, 55, 56, 57, 58, 59, 60, 61, 62, 80, 81, 82, 83, 84, 85, 86, 87, 88, 89, 90, 91, 92, 93, 94, 95] (by decide +kernel) (by decide +kernel)
set_option maxRecDepth 20000 in
theorem gX5_bell_X4_liars : GoodIn wsX5_bell (wsV RX5 144 RX4 yX4_liars wsX4_liars) := goodIn_app (goodIn_of _ (by decide +kernel)) ggX5_bell_X4_liars
set_option maxRecDepth 20000 in
theorem ggX5_bell_X4_strikesOf : GoodIn wsX5_bell wsX4_strikesOf := goodIn_r _ [66, 9, 67, 68, 69, 7, 70, 14, 15, 17, 31, 18, 19, 20, 21, 37, 38, 39, 40, 41, 42, 43, 44, 45, 46, 47, 48, 49, 50, 51, 52, 53, 54, 55, 56, 57, 58, 59, 16, 60, 61, 62, 80, 81, 82, 83, 84, 85, 86, 87, 88, 89, 90, 91, 92, 93, 94, 95] (by decide +kernel) (by decide +kernel)
set_option maxRecDepth 20000 in
theorem gX5_bell_X4_strikesOf : GoodIn wsX5_bell (wsV RX5 148 RX4 yX4_strikesOf wsX4_strikesOf) := goodIn_app (goodIn_of _ (by decide +kernel)) ggX5_bell_X4_strikesOf
theorem dX5_bell_0 : decode cX5_bell 0 = .ok (.iload_n 1, 1) := by decide +kernel
theorem dX5_bell_1 : decode cX5_bell 1 = .ok (.tableswitch 70 0 3 #[31, 39, 54, 62], 31) := by decide +kernel
theorem dX5_bell_32 : decode cX5_bell 32 = .ok (.aload_n 0, 1) := by decide +kernel
theorem dX5_bell_33 : decode cX5_bell 33 = .ok (.getfield 53, 3) := by decide +kernel
theorem dX5_bell_36 : decode cX5_bell 36 = .ok (.invokevirtual 144, 3) := by decide +kernel
theorem dX5_bell_39 : decode cX5_bell 39 = .ok (.ireturn, 1) := by decide +kernel
theorem dX5_bell_40 : decode cX5_bell 40 = .ok (.aload_n 0, 1) := by decide +kernel
theorem dX5_bell_41 : decode cX5_bell 41 = .ok (.getfield 53, 3) := by decide +kernel
theorem dX5_bell_44 : decode cX5_bell 44 = .ok (.aload_n 0, 1) := by decide +kernel
theorem dX5_bell_45 : decode cX5_bell 45 = .ok (.getfield 53, 3) := by decide +kernel
theorem dX5_bell_48 : decode cX5_bell 48 = .ok (.invokevirtual 144, 3) := by decide +kernel
theorem dX5_bell_51 : decode cX5_bell 51 = .ok (.invokevirtual 148, 3) := by decide +kernel
theorem dX5_bell_54 : decode cX5_bell 54 = .ok (.ireturn, 1) := by decide +kernel
theorem dX5_bell_55 : decode cX5_bell 55 = .ok (.aload_n 0, 1) := by decide +kernel
theorem dX5_bell_56 : decode cX5_bell 56 = .ok (.getfield 53, 3) := by decide +kernel
theorem dX5_bell_59 : decode cX5_bell 59 = .ok (.getfield 69, 3) := by decide +kernel
theorem dX5_bell_62 : decode cX5_bell 62 = .ok (.ireturn, 1) := by decide +kernel
theorem dX5_bell_63 : decode cX5_bell 63 = .ok (.aload_n 0, 1) := by decide +kernel
theorem dX5_bell_64 : decode cX5_bell 64 = .ok (.getfield 53, 3) := by decide +kernel
theorem dX5_bell_67 : decode cX5_bell 67 = .ok (.getfield 151, 3) := by decide +kernel
theorem dX5_bell_70 : decode cX5_bell 70 = .ok (.ireturn, 1) := by decide +kernel
theorem dX5_bell_71 : decode cX5_bell 71 = .ok (.bipush (-2), 2) := by decide +kernel
theorem dX5_bell_73 : decode cX5_bell 73 = .ok (.ireturn, 1) := by decide +kernel
set_option maxRecDepth 20000 in
theorem ggX5_strike_X4_liars : GoodIn wsX5_strike wsX4_liars := goodIn_r _ [7, 8, 9, 10, 11, 6, 12, 13, 14, 15, 16, 17, 18, 19, 20, 21, 22, 23, 24, 25, 26, 27, 28, 29, 30, 31, 32, 33, 34, 35, 36, 37, 38, 39, 40, 41, 42, 43, 44, 45, 46, 47, 48, 49, 50, 51, 52, 53, 54, 55, 56, 57, 58, 59, 60, 61, 90, 91, 92, 93, 94, 95, 96, 97, 98, 99, 100, 101, 102, 103, 104, 105] (by decide +kernel) (by decide +kernel)
set_option maxRecDepth 20000 in
theorem gX5_strike_X4_liars : GoodIn wsX5_strike (wsV RX5 144 RX4 yX4_liars wsX4_liars) := goodIn_app (goodIn_of _ (by decide +kernel)) ggX5_strike_X4_liars
set_option maxRecDepth 20000 in
theorem ggX5_strike_X4_passHour : GoodIn wsX5_strike wsX4_passHour := goodIn_r _ [65, 8, 56, 58, 45, 46, 47, 66, 49, 50, 57, 15, 67, 68, 30, 69, 70, 71, 6, 72, 73, 74, 75, 76, 13, 14, 16, 17, 18, 19, 20, 36, 37, 38, 39, 40, 41, 42, 43, 44, 48, 51, 52, 53, 54, 55, 59, 60, 61, 77, 78, 79, 80, 90, 91, 92, 93, 94, 95, 96, 97, 98, 99, 100, 101, 102, 103, 104, 105] (by decide +kernel) (by decide +kernel)
set_option maxRecDepth 20000 in
theorem gX5_strike_X4_passHour : GoodIn wsX5_strike (wsV RX5 154 RX4 yX4_passHour wsX4_passHour) := goodIn_app (goodIn_of _ (by decide +kernel)) ggX5_strike_X4_passHour
theorem dX5_strike_0 : decode cX5_strike 0 = .ok (.aload_n 0, 1) := by decide +kernel
theorem dX5_strike_1 : decode cX5_strike 1 = .ok (.getfield 53, 3) := by decide +kernel
theorem dX5_strike_4 : decode cX5_strike 4 = .ok (.getfield 66, 3) := by decide +kernel
theorem dX5_strike_7 : decode cX5_strike 7 = .ok (.sipush 9999, 3) := by decide +kernel
theorem dX5_strike_10 : decode cX5_strike 10 = .ok (.if_icmp .lt 6, 3) := by decide +kernel
theorem dX5_strike_13 : decode cX5_strike 13 = .ok (.bipush (-3), 2) := by decide +kernel
theorem dX5_strike_15 : decode cX5_strike 15 = .ok (.ireturn, 1) := by decide +kernel
theorem dX5_strike_16 : decode cX5_strike 16 = .ok (.aload_n 0, 1) := by decide +kernel
theorem dX5_strike_17 : decode cX5_strike 17 = .ok (.getfield 53, 3) := by decide +kernel
theorem dX5_strike_20 : decode cX5_strike 20 = .ok (.aload_n 0, 1) := by decide +kernel
theorem dX5_strike_21 : decode cX5_strike 21 = .ok (.getfield 53, 3) := by decide +kernel
theorem dX5_strike_24 : decode cX5_strike 24 = .ok (.invokevirtual 144, 3) := by decide +kernel
theorem dX5_strike_27 : decode cX5_strike 27 = .ok (.invokevirtual 154, 3) := by decide +kernel
theorem dX5_strike_30 : decode cX5_strike 30 = .ok (.ireturn, 1) := by decide +kernel
set_option maxRecDepth 20000 in
theorem ggX5_run_X5_isWithin : GoodIn wsX5_run wsX5_isWithin := goodIn_r _ [5] (by decide +kernel) (by decide +kernel)
set_option maxRecDepth 20000 in
theorem gX5_run_X5_isWithin : GoodIn wsX5_run (va_wsS RX5 81 yX5_isWithin wsX5_isWithin) := goodIn_app (goodIn_of _ (by decide +kernel)) ggX5_run_X5_isWithin
set_option maxRecDepth 20000 in
theorem ggX5_run_X4_has : GoodIn wsX5_run wsX4_has := goodIn_r _ [10, 11, 118, 119, 120, 121, 122, 123, 124, 125, 126, 127, 128, 129] (by decide +kernel) (by decide +kernel)
set_option maxRecDepth 20000 in
theorem gX5_run_X4_has : GoodIn wsX5_run (wsV RX5 101 RX4 yX4_has wsX4_has) := goodIn_app (goodIn_of _ (by decide +kernel)) ggX5_run_X4_has
set_option maxRecDepth 20000 in
theorem ggX5_run_X5_startThought : GoodIn wsX5_run wsX5_startThought := goodIn_r _ [15, 16, 1, 17, 18, 19, 9, 20, 21, 22, 23, 24, 25, 26, 11, 27, 28, 29, 30, 31, 32, 33, 34, 35, 109, 110, 111, 112, 113, 114, 115, 116, 117, 118, 119, 120, 121, 122, 123, 124, 125, 126, 127, 128, 129] (by decide +kernel) (by decide +kernel)
set_option maxRecDepth 20000 in
theorem gX5_run_X5_startThought : GoodIn wsX5_run (wsV RX5 157 RX5 yX5_startThought wsX5_startThought) := goodIn_app (goodIn_of _ (by decide +kernel)) ggX5_run_X5_startThought
set_option maxRecDepth 20000 in
theorem ggX5_run_X4_passHours : GoodIn wsX5_run wsX4_passHours := goodIn_r _ [39, 40, 41, 42, 9, 43, 11, 44, 45, 46, 47, 21, 30, 29, 22, 48, 7, 8, 10, 49, 50, 51, 52, 26, 53, 54, 55, 56, 27, 57, 58, 59, 60, 25, 61, 62, 63, 64, 65, 66, 67, 68, 69, 70, 71, 72, 73, 74, 75, 76, 77, 78, 79, 80, 23, 24, 81, 82, 83, 84, 85, 86, 87, 88, 89, 90, 28, 91, 92, 93, 94, 95, 96, 97, 98, 99, 100, 101, 102, 118, 119, 120, 121, 122, 123, 124, 125, 126, 127, 128, 129, 130, 131, 132, 133] (by decide +kernel) (by decide +kernel)
set_option maxRecDepth 20000 in
theorem gX5_run_X4_passHours : GoodIn wsX5_run (wsV RX5 161 RX4 yX4_passHours wsX4_passHours) := goodIn_app (goodIn_of _ (by decide +kernel)) ggX5_run_X4_passHours
set_option maxRecDepth 20000 in
theorem ggX5_run_X4_liars : GoodIn wsX5_run wsX4_liars := goodIn_r _ [43, 11, 44, 45, 46, 9, 47, 21, 30, 29, 22, 48, 7, 8, 10, 49, 50, 51, 52, 26, 53, 54, 55, 56, 27, 57, 58, 59, 60, 25, 61, 62, 63, 64, 65, 66, 67, 68, 69, 70, 71, 72, 73, 74, 75, 76, 77, 78, 79, 80, 23, 24, 81, 82, 83, 84, 118, 119, 120, 121, 122, 123, 124, 125, 126, 127, 128, 129, 130, 131, 132, 133] (by decide +kernel) (by decide +kernel)
set_option maxRecDepth 20000 in
theorem gX5_run_X4_liars : GoodIn wsX5_run (wsV RX5 144 RX4 yX4_liars wsX4_liars) := goodIn_app (goodIn_of _ (by decide +kernel)) ggX5_run_X4_liars
set_option maxRecDepth 20000 in
theorem ggX5_run_X4_strikesOf : GoodIn wsX5_run wsX4_strikesOf := goodIn_r _ [94, 11, 95, 96, 97, 9, 98, 21, 30, 22, 27, 48, 7, 8, 10, 61, 62, 63, 64, 65, 66, 67, 68, 69, 70, 71, 72, 73, 74, 75, 76, 77, 78, 79, 80, 23, 24, 81, 29, 82, 83, 84, 118, 119, 120, 121, 122, 123, 124, 125, 126, 127, 128, 129, 130, 131, 132, 133] (by decide +kernel) (by decide +kernel)
set_option maxRecDepth 20000 in
theorem gX5_run_X4_strikesOf : GoodIn wsX5_run (wsV RX5 148 RX4 yX4_strikesOf wsX4_strikesOf) := goodIn_app (goodIn_of _ (by decide +kernel)) ggX5_run_X4_strikesOf
set_option maxRecDepth 20000 in
theorem ggX5_run_X4_known : GoodIn wsX5_run wsX4_known := goodIn_r _ [108, 23, 24, 25, 48, 7, 8, 9, 10, 11, 49, 50, 51, 52, 26, 118, 119, 120, 121, 122, 123, 124, 125, 126, 127, 128, 129] (by decide +kernel) (by decide +kernel)
set_option maxRecDepth 20000 in
theorem gX5_run_X4_known : GoodIn wsX5_run (wsV RX5 120 RX4 yX4_known wsX4_known) := goodIn_app (goodIn_of _ (by decide +kernel)) ggX5_run_X4_known
theorem dX5_run_0 : decode cX5_run 0 = .ok (.iload_n 1, 1) := by decide +kernel
theorem dX5_run_1 : decode cX5_run 1 = .ok (.iconst 0, 1) := by decide +kernel
theorem dX5_run_2 : decode cX5_run 2 = .ok (.bipush 48, 2) := by decide +kernel
theorem dX5_run_4 : decode cX5_run 4 = .ok (.invokestatic 81, 3) := by decide +kernel
theorem dX5_run_7 : decode cX5_run 7 = .ok (.ifCond .ne 6, 3) := by decide +kernel
theorem dX5_run_10 : decode cX5_run 10 = .ok (.bipush (-2), 2) := by decide +kernel
theorem dX5_run_12 : decode cX5_run 12 = .ok (.ireturn, 1) := by decide +kernel
theorem dX5_run_13 : decode cX5_run 13 = .ok (.iload_n 2, 1) := by decide +kernel
theorem dX5_run_14 : decode cX5_run 14 = .ok (.bipush 10, 2) := by decide +kernel
theorem dX5_run_16 : decode cX5_run 16 = .ok (.if_icmp .lt 21, 3) := by decide +kernel
theorem dX5_run_19 : decode cX5_run 19 = .ok (.aload_n 0, 1) := by decide +kernel
theorem dX5_run_20 : decode cX5_run 20 = .ok (.getfield 53, 3) := by decide +kernel
theorem dX5_run_23 : decode cX5_run 23 = .ok (.iload_n 2, 1) := by decide +kernel
theorem dX5_run_24 : decode cX5_run 24 = .ok (.bipush 10, 2) := by decide +kernel
theorem dX5_run_26 : decode cX5_run 26 = .ok (.isub, 1) := by decide +kernel
theorem dX5_run_27 : decode cX5_run 27 = .ok (.invokevirtual 101, 3) := by decide +kernel
theorem dX5_run_30 : decode cX5_run 30 = .ok (.ifCond .eq 7, 3) := by decide +kernel
theorem dX5_run_33 : decode cX5_run 33 = .ok (.iconst 1, 1) := by decide +kernel
theorem dX5_run_34 : decode cX5_run 34 = .ok (.goto 4, 3) := by decide +kernel
theorem dX5_run_37 : decode cX5_run 37 = .ok (.iconst 0, 1) := by decide +kernel
theorem dX5_run_38 : decode cX5_run 38 = .ok (.istore_n 3, 1) := by decide +kernel
theorem dX5_run_39 : decode cX5_run 39 = .ok (.iload_n 2, 1) := by decide +kernel
theorem dX5_run_40 : decode cX5_run 40 = .ok (.bipush 20, 2) := by decide +kernel
theorem dX5_run_42 : decode cX5_run 42 = .ok (.if_icmp .lt 21, 3) := by decide +kernel
theorem dX5_run_45 : decode cX5_run 45 = .ok (.aload_n 0, 1) := by decide +kernel
theorem dX5_run_46 : decode cX5_run 46 = .ok (.getfield 53, 3) := by decide +kernel
theorem dX5_run_49 : decode cX5_run 49 = .ok (.iload_n 2, 1) := by decide +kernel
theorem dX5_run_50 : decode cX5_run 50 = .ok (.bipush 20, 2) := by decide +kernel
theorem dX5_run_52 : decode cX5_run 52 = .ok (.isub, 1) := by decide +kernel
theorem dX5_run_53 : decode cX5_run 53 = .ok (.invokevirtual 101, 3) := by decide +kernel
theorem dX5_run_56 : decode cX5_run 56 = .ok (.ifCond .eq 7, 3) := by decide +kernel
theorem dX5_run_59 : decode cX5_run 59 = .ok (.iconst 1, 1) := by decide +kernel
theorem dX5_run_60 : decode cX5_run 60 = .ok (.goto 4, 3) := by decide +kernel
theorem dX5_run_63 : decode cX5_run 63 = .ok (.iconst 0, 1) := by decide +kernel
theorem dX5_run_64 : decode cX5_run 64 = .ok (.istore 4, 2) := by decide +kernel
theorem dX5_run_66 : decode cX5_run 66 = .ok (.iload_n 2, 1) := by decide +kernel
theorem dX5_run_67 : decode cX5_run 67 = .ok (.iconst 0, 1) := by decide +kernel
theorem dX5_run_68 : decode cX5_run 68 = .ok (.iconst 2, 1) := by decide +kernel
theorem dX5_run_69 : decode cX5_run 69 = .ok (.invokestatic 81, 3) := by decide +kernel
theorem dX5_run_72 : decode cX5_run 72 = .ok (.ifCond .ne 15, 3) := by decide +kernel
theorem dX5_run_75 : decode cX5_run 75 = .ok (.iload_n 3, 1) := by decide +kernel
theorem dX5_run_76 : decode cX5_run 76 = .ok (.ifCond .ne 11, 3) := by decide +kernel
theorem dX5_run_79 : decode cX5_run 79 = .ok (.iload 4, 2) := by decide +kernel
theorem dX5_run_81 : decode cX5_run 81 = .ok (.ifCond .ne 6, 3) := by decide +kernel
theorem dX5_run_84 : decode cX5_run 84 = .ok (.bipush (-2), 2) := by decide +kernel
theorem dX5_run_86 : decode cX5_run 86 = .ok (.ireturn, 1) := by decide +kernel
theorem dX5_run_87 : decode cX5_run 87 = .ok (.aload_n 0, 1) := by decide +kernel
theorem dX5_run_88 : decode cX5_run 88 = .ok (.invokevirtual 157, 3) := by decide +kernel
theorem dX5_run_91 : decode cX5_run 91 = .ok (.astore 5, 2) := by decide +kernel
theorem dX5_run_93 : decode cX5_run 93 = .ok (.aload 5, 2) := by decide +kernel
theorem dX5_run_95 : decode cX5_run 95 = .ok (.iload_n 1, 1) := by decide +kernel
theorem dX5_run_96 : decode cX5_run 96 = .ok (.invokevirtual 161, 3) := by decide +kernel
theorem dX5_run_99 : decode cX5_run 99 = .ok (.istore 6, 2) := by decide +kernel
theorem dX5_run_101 : decode cX5_run 101 = .ok (.iload_n 2, 1) := by decide +kernel
theorem dX5_run_102 : decode cX5_run 102 = .ok (.tableswitch 46 0 2 #[26, 29, 40], 26) := by decide +kernel
theorem dX5_run_128 : decode cX5_run 128 = .ok (.iload 6, 2) := by decide +kernel
theorem dX5_run_130 : decode cX5_run 130 = .ok (.ireturn, 1) := by decide +kernel
theorem dX5_run_131 : decode cX5_run 131 = .ok (.aload 5, 2) := by decide +kernel
theorem dX5_run_133 : decode cX5_run 133 = .ok (.aload 5, 2) := by decide +kernel
theorem dX5_run_135 : decode cX5_run 135 = .ok (.invokevirtual 144, 3) := by decide +kernel
theorem dX5_run_138 : decode cX5_run 138 = .ok (.invokevirtual 148, 3) := by decide +kernel
theorem dX5_run_141 : decode cX5_run 141 = .ok (.ireturn, 1) := by decide +kernel
theorem dX5_run_142 : decode cX5_run 142 = .ok (.aload 5, 2) := by decide +kernel
theorem dX5_run_144 : decode cX5_run 144 = .ok (.invokevirtual 144, 3) := by decide +kernel
theorem dX5_run_147 : decode cX5_run 147 = .ok (.ireturn, 1) := by decide +kernel
theorem dX5_run_148 : decode cX5_run 148 = .ok (.iload 4, 2) := by decide +kernel
theorem dX5_run_150 : decode cX5_run 150 = .ok (.ifCond .eq 16, 3) := by decide +kernel
theorem dX5_run_153 : decode cX5_run 153 = .ok (.aload 5, 2) := by decide +kernel
theorem dX5_run_155 : decode cX5_run 155 = .ok (.iload_n 2, 1) := by decide +kernel
theorem dX5_run_156 : decode cX5_run 156 = .ok (.bipush 20, 2) := by decide +kernel
theorem dX5_run_158 : decode cX5_run 158 = .ok (.isub, 1) := by decide +kernel
theorem dX5_run_159 : decode cX5_run 159 = .ok (.iconst 1, 1) := by decide +kernel
theorem dX5_run_160 : decode cX5_run 160 = .ok (.invokevirtual 120, 3) := by decide +kernel
theorem dX5_run_163 : decode cX5_run 163 = .ok (.goto 13, 3) := by decide +kernel
theorem dX5_run_166 : decode cX5_run 166 = .ok (.aload 5, 2) := by decide +kernel
theorem dX5_run_168 : decode cX5_run 168 = .ok (.iload_n 2, 1) := by decide +kernel
theorem dX5_run_169 : decode cX5_run 169 = .ok (.bipush 10, 2) := by decide +kernel
theorem dX5_run_171 : decode cX5_run 171 = .ok (.isub, 1) := by decide +kernel
theorem dX5_run_172 : decode cX5_run 172 = .ok (.iconst 0, 1) := by decide +kernel
theorem dX5_run_173 : decode cX5_run 173 = .ok (.invokevirtual 120, 3) := by decide +kernel
theorem dX5_run_176 : decode cX5_run 176 = .ok (.ireturn, 1) := by decide +kernel
set_option maxRecDepth 20000 in
theorem ggX5_when_X5_isWithin : GoodIn wsX5_when wsX5_isWithin := goodIn_r _ [4] (by decide +kernel) (by decide +kernel)
set_option maxRecDepth 20000 in
theorem gX5_when_X5_isWithin : GoodIn wsX5_when (va_wsS RX5 81 yX5_isWithin wsX5_isWithin) := goodIn_app (goodIn_of _ (by decide +kernel)) ggX5_when_X5_isWithin
set_option maxRecDepth 20000 in
theorem ggX5_when_X5_startThought : GoodIn wsX5_when wsX5_startThought := goodIn_r _ [8, 9, 10, 11, 12, 13, 14, 15, 16, 17, 18, 19, 20, 21, 22, 23, 24, 25, 26, 27, 28, 29, 30, 31, 98, 99, 100, 101, 102, 103, 104, 105, 106, 107, 108, 109, 110, 111, 112, 113, 114, 115, 116, 117, 118] (by decide +kernel) (by decide +kernel)
set_option maxRecDepth 20000 in
theorem gX5_when_X5_startThought : GoodIn wsX5_when (wsV RX5 157 RX5 yX5_startThought wsX5_startThought) := goodIn_app (goodIn_of _ (by decide +kernel)) ggX5_when_X5_startThought
set_option maxRecDepth 20000 in
theorem ggX5_when_X4_liars : GoodIn wsX5_when wsX4_liars := goodIn_r _ [35, 22, 36, 37, 38, 14, 39, 16, 26, 25, 17, 40, 41, 42, 43, 44, 45, 46, 47, 21, 48, 49, 50, 51, 23, 52, 53, 54, 55, 20, 56, 57, 58, 59, 60, 61, 62, 63, 64, 65, 66, 67, 68, 69, 70, 71, 72, 73, 74, 75, 18, 19, 76, 77, 78, 79, 107, 108, 109, 110, 111, 112, 113, 114, 115, 116, 117, 118, 119, 120, 121, 122] (by decide +kernel) (by decide +kernel)
set_option maxRecDepth 20000 in
theorem gX5_when_X4_liars : GoodIn wsX5_when (wsV RX5 144 RX4 yX4_liars wsX4_liars) := goodIn_app (goodIn_of _ (by decide +kernel)) ggX5_when_X4_liars
set_option maxRecDepth 20000 in
theorem ggX5_when_X4_passHour : GoodIn wsX5_when wsX4_passHour := goodIn_r _ [83, 22, 18, 76, 65, 66, 67, 84, 69, 70, 19, 25, 85, 24, 23, 86, 87, 88, 14, 89, 90, 91, 92, 93, 16, 26, 17, 40, 41, 42, 43, 56, 57, 58, 59, 60, 61, 62, 63, 64, 68, 71, 72, 73, 74, 75, 77, 78, 79, 94, 95, 96, 97, 107, 108, 109, 110, 111, 112, 113, 114, 115, 116, 117, 118, 119, 120, 121, 122] (by decide +kernel) (by decide +kernel)
set_option maxRecDepth 20000 in
theorem gX5_when_X4_passHour : GoodIn wsX5_when (wsV RX5 154 RX4 yX4_passHour wsX4_passHour) := goodIn_app (goodIn_of _ (by decide +kernel)) ggX5_when_X4_passHour
theorem dX5_when_0 : decode cX5_when 0 = .ok (.iload_n 1, 1) := by decide +kernel
theorem dX5_when_1 : decode cX5_when 1 = .ok (.iconst 0, 1) := by decide +kernel
theorem dX5_when_2 : decode cX5_when 2 = .ok (.sipush 999, 3) := by decide +kernel
theorem dX5_when_5 : decode cX5_when 5 = .ok (.invokestatic 81, 3) := by decide +kernel
theorem dX5_when_8 : decode cX5_when 8 = .ok (.ifCond .ne 6, 3) := by decide +kernel
theorem dX5_when_11 : decode cX5_when 11 = .ok (.bipush (-2), 2) := by decide +kernel
theorem dX5_when_13 : decode cX5_when 13 = .ok (.ireturn, 1) := by decide +kernel
theorem dX5_when_14 : decode cX5_when 14 = .ok (.aload_n 0, 1) := by decide +kernel
theorem dX5_when_15 : decode cX5_when 15 = .ok (.invokevirtual 157, 3) := by decide +kernel
theorem dX5_when_18 : decode cX5_when 18 = .ok (.astore_n 2, 1) := by decide +kernel
theorem dX5_when_19 : decode cX5_when 19 = .ok (.iconst 0, 1) := by decide +kernel
theorem dX5_when_20 : decode cX5_when 20 = .ok (.istore_n 3, 1) := by decide +kernel
theorem dX5_when_21 : decode cX5_when 21 = .ok (.iload_n 3, 1) := by decide +kernel
theorem dX5_when_22 : decode cX5_when 22 = .ok (.bipush 60, 2) := by decide +kernel
theorem dX5_when_24 : decode cX5_when 24 = .ok (.if_icmp .gt 23, 3) := by decide +kernel
theorem dX5_when_27 : decode cX5_when 27 = .ok (.aload_n 2, 1) := by decide +kernel
theorem dX5_when_28 : decode cX5_when 28 = .ok (.aload_n 2, 1) := by decide +kernel
theorem dX5_when_29 : decode cX5_when 29 = .ok (.invokevirtual 144, 3) := by decide +kernel
theorem dX5_when_32 : decode cX5_when 32 = .ok (.invokevirtual 154, 3) := by decide +kernel
theorem dX5_when_35 : decode cX5_when 35 = .ok (.iload_n 1, 1) := by decide +kernel
theorem dX5_when_36 : decode cX5_when 36 = .ok (.if_icmp .ne 5, 3) := by decide +kernel
theorem dX5_when_39 : decode cX5_when 39 = .ok (.iload_n 3, 1) := by decide +kernel
theorem dX5_when_40 : decode cX5_when 40 = .ok (.ireturn, 1) := by decide +kernel
theorem dX5_when_41 : decode cX5_when 41 = .ok (.iinc 3 1, 3) := by decide +kernel
theorem dX5_when_44 : decode cX5_when 44 = .ok (.goto (-23), 3) := by decide +kernel
theorem dX5_when_47 : decode cX5_when 47 = .ok (.iconst (-1), 1) := by decide +kernel
theorem dX5_when_48 : decode cX5_when 48 = .ok (.ireturn, 1) := by decide +kernel
set_option maxRecDepth 20000 in
theorem ggX5_dial_X5_isWithin : GoodIn wsX5_dial wsX5_isWithin := goodIn_r _ [5] (by decide +kernel) (by decide +kernel)
set_option maxRecDepth 20000 in
theorem gX5_dial_X5_isWithin : GoodIn wsX5_dial (va_wsS RX5 81 yX5_isWithin wsX5_isWithin) := goodIn_app (goodIn_of _ (by decide +kernel)) ggX5_dial_X5_isWithin
set_option maxRecDepth 20000 in
theorem ggX5_dial_X5_startThought : GoodIn wsX5_dial wsX5_startThought := goodIn_r _ [9, 10, 11, 12, 13, 14, 15, 16, 17, 18, 19, 20, 21, 22, 23, 24, 25, 26, 27, 28, 29, 30, 31, 32, 128, 129, 130, 131, 132, 133, 134, 135, 136, 137, 138, 139, 140, 141, 142, 143, 144, 145, 146, 147, 148] (by decide +kernel) (by decide +kernel)
set_option maxRecDepth 20000 in
theorem gX5_dial_X5_startThought : GoodIn wsX5_dial (wsV RX5 157 RX5 yX5_startThought wsX5_startThought) := goodIn_app (goodIn_of _ (by decide +kernel)) ggX5_dial_X5_startThought
set_option maxRecDepth 20000 in
theorem ggX5_dial_X0_live : GoodIn wsX5_dial wsX0_live := goodIn_r _ [37, 38, 39, 40, 41, 42, 15, 43, 23, 44, 45, 46, 47, 17, 27, 26, 18, 48, 49, 50, 51, 52, 53, 54, 55, 22, 56, 57, 58, 59, 24, 60, 61, 62, 63, 21, 64, 65, 66, 67, 68, 69, 70, 71, 72, 73, 74, 75, 76, 77, 78, 79, 80, 81, 82, 83, 19, 20, 84, 85, 86, 87, 88, 89, 90, 91, 92, 93, 25, 94, 95, 96, 97, 98, 99, 100, 101, 102, 103, 104, 105, 149, 150, 137, 138, 139, 140, 141, 142, 143, 144, 145, 146, 147, 148, 151, 152, 153, 154] (by decide +kernel) (by decide +kernel)
set_option maxRecDepth 20000 in
theorem gX5_dial_X0_live : GoodIn wsX5_dial (wsV RX5 164 RX0 yX0_live wsX0_live) := goodIn_app (goodIn_of _ (by decide +kernel)) ggX5_dial_X0_live
set_option maxRecDepth 20000 in
theorem ggX5_dial_X0_hoursAlone : GoodIn wsX5_dial wsX0_hoursAlone := goodIn_r _ [109, 39, 110, 111, 112, 36, 113, 149, 150] (by decide +kernel) (by decide +kernel)
set_option maxRecDepth 20000 in
theorem gX5_dial_X0_hoursAlone : GoodIn wsX5_dial (wsV RX5 168 RX0 yX0_hoursAlone wsX0_hoursAlone) := goodIn_app (goodIn_of _ (by decide +kernel)) ggX5_dial_X0_hoursAlone
set_option maxRecDepth 20000 in
theorem ggX5_dial_X0_longestRow : GoodIn wsX5_dial wsX0_longestRow := goodIn_r _ [117, 39, 118, 77, 74, 78, 149, 150] (by decide +kernel) (by decide +kernel)
set_option maxRecDepth 20000 in
theorem gX5_dial_X0_longestRow : GoodIn wsX5_dial (wsV RX5 171 RX0 yX0_longestRow wsX0_longestRow) := goodIn_app (goodIn_of _ (by decide +kernel)) ggX5_dial_X0_longestRow
set_option maxRecDepth 20000 in
theorem ggX5_dial_X0_hoursOf : GoodIn wsX5_dial wsX0_hoursOf := goodIn_r _ [113, 39, 149, 150] (by decide +kernel) (by decide +kernel)
set_option maxRecDepth 20000 in
theorem gX5_dial_X0_hoursOf : GoodIn wsX5_dial (wsV RX5 174 RX0 yX0_hoursOf wsX0_hoursOf) := goodIn_app (goodIn_of _ (by decide +kernel)) ggX5_dial_X0_hoursOf
set_option maxRecDepth 20000 in
theorem ggX5_dial_X0_mostStrikes : GoodIn wsX5_dial wsX0_mostStrikes := goodIn_r _ [123, 39, 118, 77, 74, 78, 149, 150] (by decide +kernel) (by decide +kernel)
set_option maxRecDepth 20000 in
theorem gX5_dial_X0_mostStrikes : GoodIn wsX5_dial (wsV RX5 177 RX0 yX0_mostStrikes wsX0_mostStrikes) := goodIn_app (goodIn_of _ (by decide +kernel)) ggX5_dial_X0_mostStrikes
set_option maxRecDepth 20000 in
theorem ggX5_dial_X0_firstOf : GoodIn wsX5_dial wsX0_firstOf := goodIn_r _ [127, 39, 149, 150] (by decide +kernel) (by decide +kernel)
set_option maxRecDepth 20000 in
theorem gX5_dial_X0_firstOf : GoodIn wsX5_dial (wsV RX5 180 RX0 yX0_firstOf wsX0_firstOf) := goodIn_app (goodIn_of _ (by decide +kernel)) ggX5_dial_X0_firstOf
theorem dX5_dial_0 : decode cX5_dial 0 = .ok (.iload_n 1, 1) := by decide +kernel
theorem dX5_dial_1 : decode cX5_dial 1 = .ok (.iconst 0, 1) := by decide +kernel
theorem dX5_dial_2 : decode cX5_dial 2 = .ok (.iconst 4, 1) := by decide +kernel
theorem dX5_dial_3 : decode cX5_dial 3 = .ok (.invokestatic 81, 3) := by decide +kernel
theorem dX5_dial_6 : decode cX5_dial 6 = .ok (.ifCond .ne 6, 3) := by decide +kernel
theorem dX5_dial_9 : decode cX5_dial 9 = .ok (.bipush (-2), 2) := by decide +kernel
theorem dX5_dial_11 : decode cX5_dial 11 = .ok (.ireturn, 1) := by decide +kernel
theorem dX5_dial_12 : decode cX5_dial 12 = .ok (.aload_n 0, 1) := by decide +kernel
theorem dX5_dial_13 : decode cX5_dial 13 = .ok (.getfield 31, 3) := by decide +kernel
theorem dX5_dial_16 : decode cX5_dial 16 = .ok (.aload_n 0, 1) := by decide +kernel
theorem dX5_dial_17 : decode cX5_dial 17 = .ok (.invokevirtual 157, 3) := by decide +kernel
theorem dX5_dial_20 : decode cX5_dial 20 = .ok (.invokevirtual 164, 3) := by decide +kernel
theorem dX5_dial_23 : decode cX5_dial 23 = .ok (.iload_n 1, 1) := by decide +kernel
theorem dX5_dial_24 : decode cX5_dial 24 = .ok (.tableswitch 65 0 3 #[32, 40, 48, 57], 32) := by decide +kernel
theorem dX5_dial_56 : decode cX5_dial 56 = .ok (.aload_n 0, 1) := by decide +kernel
theorem dX5_dial_57 : decode cX5_dial 57 = .ok (.getfield 31, 3) := by decide +kernel
theorem dX5_dial_60 : decode cX5_dial 60 = .ok (.invokevirtual 168, 3) := by decide +kernel
theorem dX5_dial_63 : decode cX5_dial 63 = .ok (.ireturn, 1) := by decide +kernel
theorem dX5_dial_64 : decode cX5_dial 64 = .ok (.aload_n 0, 1) := by decide +kernel
theorem dX5_dial_65 : decode cX5_dial 65 = .ok (.getfield 31, 3) := by decide +kernel
theorem dX5_dial_68 : decode cX5_dial 68 = .ok (.invokevirtual 171, 3) := by decide +kernel
theorem dX5_dial_71 : decode cX5_dial 71 = .ok (.ireturn, 1) := by decide +kernel
theorem dX5_dial_72 : decode cX5_dial 72 = .ok (.aload_n 0, 1) := by decide +kernel
theorem dX5_dial_73 : decode cX5_dial 73 = .ok (.getfield 31, 3) := by decide +kernel
theorem dX5_dial_76 : decode cX5_dial 76 = .ok (.iconst 0, 1) := by decide +kernel
theorem dX5_dial_77 : decode cX5_dial 77 = .ok (.invokevirtual 174, 3) := by decide +kernel
theorem dX5_dial_80 : decode cX5_dial 80 = .ok (.ireturn, 1) := by decide +kernel
theorem dX5_dial_81 : decode cX5_dial 81 = .ok (.aload_n 0, 1) := by decide +kernel
theorem dX5_dial_82 : decode cX5_dial 82 = .ok (.getfield 31, 3) := by decide +kernel
theorem dX5_dial_85 : decode cX5_dial 85 = .ok (.invokevirtual 177, 3) := by decide +kernel
theorem dX5_dial_88 : decode cX5_dial 88 = .ok (.ireturn, 1) := by decide +kernel
theorem dX5_dial_89 : decode cX5_dial 89 = .ok (.aload_n 0, 1) := by decide +kernel
theorem dX5_dial_90 : decode cX5_dial 90 = .ok (.getfield 31, 3) := by decide +kernel
theorem dX5_dial_93 : decode cX5_dial 93 = .ok (.aload_n 0, 1) := by decide +kernel
theorem dX5_dial_94 : decode cX5_dial 94 = .ok (.getfield 31, 3) := by decide +kernel
theorem dX5_dial_97 : decode cX5_dial 97 = .ok (.invokevirtual 177, 3) := by decide +kernel
theorem dX5_dial_100 : decode cX5_dial 100 = .ok (.invokevirtual 180, 3) := by decide +kernel
theorem dX5_dial_103 : decode cX5_dial 103 = .ok (.ireturn, 1) := by decide +kernel
set_option maxRecDepth 20000 in
theorem ggX5_hush_X5_isWithin : GoodIn wsX5_hush wsX5_isWithin := goodIn_r _ [7] (by decide +kernel) (by decide +kernel)
set_option maxRecDepth 20000 in
theorem gX5_hush_X5_isWithin : GoodIn wsX5_hush (va_wsS RX5 81 yX5_isWithin wsX5_isWithin) := goodIn_app (goodIn_of _ (by decide +kernel)) ggX5_hush_X5_isWithin
set_option maxRecDepth 20000 in
theorem ggX5_hush_X5_startThought : GoodIn wsX5_hush wsX5_startThought := goodIn_r _ [11, 12, 2, 13, 14, 15, 16, 17, 18, 19, 20, 21, 22, 23, 24, 25, 26, 27, 28, 29, 30, 31, 32, 33, 119, 120, 121, 122, 123, 124, 125, 126, 127, 128, 129, 130, 131, 132, 133, 134, 135, 136, 137, 138, 139] (by decide +kernel) (by decide +kernel)
set_option maxRecDepth 20000 in
theorem gX5_hush_X5_startThought : GoodIn wsX5_hush (wsV RX5 157 RX5 yX5_startThought wsX5_startThought) := goodIn_app (goodIn_of _ (by decide +kernel)) ggX5_hush_X5_startThought
set_option maxRecDepth 20000 in
theorem ggX5_hush_X0_live : GoodIn wsX5_hush wsX0_live := goodIn_r _ [38, 39, 40, 41, 42, 43, 16, 44, 24, 45, 46, 47, 48, 18, 28, 27, 19, 49, 50, 51, 52, 53, 54, 55, 56, 23, 57, 58, 59, 60, 25, 61, 62, 63, 64, 22, 65, 66, 67, 68, 69, 70, 71, 72, 73, 74, 75, 76, 77, 78, 79, 80, 81, 82, 83, 84, 20, 21, 85, 86, 87, 88, 89, 90, 91, 92, 93, 94, 26, 95, 96, 97, 98, 99, 100, 101, 102, 103, 104, 105, 106, 140, 141, 128, 129, 130, 131, 132, 133, 134, 135, 136, 137, 138, 139, 142, 143, 144, 145] (by decide +kernel) (by decide +kernel)
set_option maxRecDepth 20000 in
theorem gX5_hush_X0_live : GoodIn wsX5_hush (wsV RX5 164 RX0 yX0_live wsX0_live) := goodIn_app (goodIn_of _ (by decide +kernel)) ggX5_hush_X0_live
set_option maxRecDepth 20000 in
theorem ggX5_hush_X0_hoursAlone : GoodIn wsX5_hush wsX0_hoursAlone := goodIn_r _ [110, 40, 111, 112, 113, 37, 114, 140, 141] (by decide +kernel) (by decide +kernel)
set_option maxRecDepth 20000 in
theorem gX5_hush_X0_hoursAlone : GoodIn wsX5_hush (wsV RX5 168 RX0 yX0_hoursAlone wsX0_hoursAlone) := goodIn_app (goodIn_of _ (by decide +kernel)) ggX5_hush_X0_hoursAlone
set_option maxRecDepth 20000 in
theorem ggX5_hush_X4_turnVow : GoodIn wsX5_hush wsX4_turnVow := goodIn_r _ [118, 23, 49, 50, 51, 16, 52, 24, 128, 129, 130, 131, 132, 133, 134, 135, 136, 137, 138, 139] (by decide +kernel) (by decide +kernel)
set_option maxRecDepth 20000 in
theorem gX5_hush_X4_turnVow : GoodIn wsX5_hush (wsV RX5 183 RX4 yX4_turnVow wsX4_turnVow) := goodIn_app (goodIn_of _ (by decide +kernel)) ggX5_hush_X4_turnVow
theorem dX5_hush_0 : decode cX5_hush 0 = .ok (.iload_n 1, 1) := by decide +kernel
theorem dX5_hush_1 : decode cX5_hush 1 = .ok (.iconst 0, 1) := by decide +kernel
theorem dX5_hush_2 : decode cX5_hush 2 = .ok (.iconst 1, 1) := by decide +kernel
theorem dX5_hush_3 : decode cX5_hush 3 = .ok (.invokestatic 81, 3) := by decide +kernel
theorem dX5_hush_6 : decode cX5_hush 6 = .ok (.ifCond .ne 6, 3) := by decide +kernel
theorem dX5_hush_9 : decode cX5_hush 9 = .ok (.bipush (-2), 2) := by decide +kernel
theorem dX5_hush_11 : decode cX5_hush 11 = .ok (.ireturn, 1) := by decide +kernel
theorem dX5_hush_12 : decode cX5_hush 12 = .ok (.aload_n 0, 1) := by decide +kernel
theorem dX5_hush_13 : decode cX5_hush 13 = .ok (.getfield 31, 3) := by decide +kernel
theorem dX5_hush_16 : decode cX5_hush 16 = .ok (.aload_n 0, 1) := by decide +kernel
theorem dX5_hush_17 : decode cX5_hush 17 = .ok (.invokevirtual 157, 3) := by decide +kernel
theorem dX5_hush_20 : decode cX5_hush 20 = .ok (.invokevirtual 164, 3) := by decide +kernel
theorem dX5_hush_23 : decode cX5_hush 23 = .ok (.iconst (-1), 1) := by decide +kernel
theorem dX5_hush_24 : decode cX5_hush 24 = .ok (.istore_n 2, 1) := by decide +kernel
theorem dX5_hush_25 : decode cX5_hush 25 = .ok (.aload_n 0, 1) := by decide +kernel
theorem dX5_hush_26 : decode cX5_hush 26 = .ok (.getfield 31, 3) := by decide +kernel
theorem dX5_hush_29 : decode cX5_hush 29 = .ok (.invokevirtual 168, 3) := by decide +kernel
theorem dX5_hush_32 : decode cX5_hush 32 = .ok (.istore_n 3, 1) := by decide +kernel
theorem dX5_hush_33 : decode cX5_hush 33 = .ok (.iconst 0, 1) := by decide +kernel
theorem dX5_hush_34 : decode cX5_hush 34 = .ok (.istore 4, 2) := by decide +kernel
theorem dX5_hush_36 : decode cX5_hush 36 = .ok (.iload 4, 2) := by decide +kernel
theorem dX5_hush_38 : decode cX5_hush 38 = .ok (.aload_n 0, 1) := by decide +kernel
theorem dX5_hush_39 : decode cX5_hush 39 = .ok (.getfield 53, 3) := by decide +kernel
theorem dX5_hush_42 : decode cX5_hush 42 = .ok (.getfield 63, 3) := by decide +kernel
theorem dX5_hush_45 : decode cX5_hush 45 = .ok (.if_icmp .ge 52, 3) := by decide +kernel
theorem dX5_hush_48 : decode cX5_hush 48 = .ok (.aload_n 0, 1) := by decide +kernel
theorem dX5_hush_49 : decode cX5_hush 49 = .ok (.invokevirtual 157, 3) := by decide +kernel
theorem dX5_hush_52 : decode cX5_hush 52 = .ok (.astore 5, 2) := by decide +kernel
theorem dX5_hush_54 : decode cX5_hush 54 = .ok (.aload 5, 2) := by decide +kernel
theorem dX5_hush_56 : decode cX5_hush 56 = .ok (.iload 4, 2) := by decide +kernel
theorem dX5_hush_58 : decode cX5_hush 58 = .ok (.invokevirtual 183, 3) := by decide +kernel
theorem dX5_hush_61 : decode cX5_hush 61 = .ok (.aload_n 0, 1) := by decide +kernel
theorem dX5_hush_62 : decode cX5_hush 62 = .ok (.getfield 31, 3) := by decide +kernel
theorem dX5_hush_65 : decode cX5_hush 65 = .ok (.aload 5, 2) := by decide +kernel
theorem dX5_hush_67 : decode cX5_hush 67 = .ok (.invokevirtual 164, 3) := by decide +kernel
theorem dX5_hush_70 : decode cX5_hush 70 = .ok (.aload_n 0, 1) := by decide +kernel
theorem dX5_hush_71 : decode cX5_hush 71 = .ok (.getfield 31, 3) := by decide +kernel
theorem dX5_hush_74 : decode cX5_hush 74 = .ok (.invokevirtual 168, 3) := by decide +kernel
theorem dX5_hush_77 : decode cX5_hush 77 = .ok (.istore 6, 2) := by decide +kernel
theorem dX5_hush_79 : decode cX5_hush 79 = .ok (.iload 6, 2) := by decide +kernel
theorem dX5_hush_81 : decode cX5_hush 81 = .ok (.iload_n 3, 1) := by decide +kernel
theorem dX5_hush_82 : decode cX5_hush 82 = .ok (.if_icmp .le 9, 3) := by decide +kernel
theorem dX5_hush_85 : decode cX5_hush 85 = .ok (.iload 6, 2) := by decide +kernel
theorem dX5_hush_87 : decode cX5_hush 87 = .ok (.istore_n 3, 1) := by decide +kernel
theorem dX5_hush_88 : decode cX5_hush 88 = .ok (.iload 4, 2) := by decide +kernel
theorem dX5_hush_90 : decode cX5_hush 90 = .ok (.istore_n 2, 1) := by decide +kernel
theorem dX5_hush_91 : decode cX5_hush 91 = .ok (.iinc 4 1, 3) := by decide +kernel
theorem dX5_hush_94 : decode cX5_hush 94 = .ok (.goto (-58), 3) := by decide +kernel
theorem dX5_hush_97 : decode cX5_hush 97 = .ok (.iload_n 1, 1) := by decide +kernel
theorem dX5_hush_98 : decode cX5_hush 98 = .ok (.ifCond .ne 7, 3) := by decide +kernel
theorem dX5_hush_101 : decode cX5_hush 101 = .ok (.iload_n 2, 1) := by decide +kernel
theorem dX5_hush_102 : decode cX5_hush 102 = .ok (.goto 4, 3) := by decide +kernel
theorem dX5_hush_105 : decode cX5_hush 105 = .ok (.iload_n 3, 1) := by decide +kernel
theorem dX5_hush_106 : decode cX5_hush 106 = .ok (.ireturn, 1) := by decide +kernel
set_option maxRecDepth 20000 in
theorem ggX5_council_X5_isWithin : GoodIn wsX5_council wsX5_isWithin := goodIn_r _ [7] (by decide +kernel) (by decide +kernel)
set_option maxRecDepth 20000 in
theorem gX5_council_X5_isWithin : GoodIn wsX5_council (va_wsS RX5 81 yX5_isWithin wsX5_isWithin) := goodIn_app (goodIn_of _ (by decide +kernel)) ggX5_council_X5_isWithin
set_option maxRecDepth 20000 in
theorem ggX5_council_J6_bitCount_0f7a4 : GoodIn wsX5_council wsJ6_bitCount_0f7a4 := goodIn_r _ [11, 12, 13, 14] (by decide +kernel) (by decide +kernel)
set_option maxRecDepth 20000 in
theorem gX5_council_J6_bitCount_0f7a4 : GoodIn wsX5_council (va_wsS RX5 186 yJ6_bitCount_0f7a4 wsJ6_bitCount_0f7a4) := goodIn_app (goodIn_of _ (by decide +kernel)) ggX5_council_J6_bitCount_0f7a4
set_option maxRecDepth 20000 in
theorem ggX5_council_X5_startThought : GoodIn wsX5_council wsX5_startThought := goodIn_r _ [18, 19, 1, 20, 21, 22, 23, 24, 25, 26, 27, 28, 29, 30, 31, 32, 33, 34, 35, 36, 37, 38, 39, 40, 113, 114, 115, 116, 117, 118, 119, 120, 121, 122, 123, 124, 125, 126, 127, 128, 129, 130, 131, 132, 133] (by decide +kernel) (by decide +kernel)
set_option maxRecDepth 20000 in
theorem gX5_council_X5_startThought : GoodIn wsX5_council (wsV RX5 157 RX5 yX5_startThought wsX5_startThought) := goodIn_app (goodIn_of _ (by decide +kernel)) ggX5_council_X5_startThought
set_option maxRecDepth 20000 in
theorem ggX5_council_X4_passHours : GoodIn wsX5_council wsX4_passHours := goodIn_r _ [44, 45, 46, 47, 23, 48, 31, 49, 50, 51, 52, 25, 35, 34, 26, 53, 54, 55, 56, 57, 58, 59, 60, 30, 61, 62, 63, 64, 32, 65, 66, 67, 68, 29, 69, 70, 71, 72, 73, 74, 75, 76, 77, 78, 79, 80, 81, 82, 83, 84, 85, 86, 87, 88, 27, 28, 89, 90, 91, 92, 93, 94, 95, 96, 97, 98, 33, 99, 100, 101, 102, 103, 104, 105, 106, 107, 108, 109, 110, 122, 123, 124, 125, 126, 127, 128, 129, 130, 131, 132, 133, 134, 135, 136, 137] (by decide +kernel) (by decide +kernel)
set_option maxRecDepth 20000 in
theorem gX5_council_X4_passHours : GoodIn wsX5_council (wsV RX5 161 RX4 yX4_passHours wsX4_passHours) := goodIn_app (goodIn_of _ (by decide +kernel)) ggX5_council_X4_passHours
set_option maxRecDepth 20000 in
theorem ggX5_council_X4_liars : GoodIn wsX5_council wsX4_liars := goodIn_r _ [48, 31, 49, 50, 51, 23, 52, 25, 35, 34, 26, 53, 54, 55, 56, 57, 58, 59, 60, 30, 61, 62, 63, 64, 32, 65, 66, 67, 68, 29, 69, 70, 71, 72, 73, 74, 75, 76, 77, 78, 79, 80, 81, 82, 83, 84, 85, 86, 87, 88, 27, 28, 89, 90, 91, 92, 122, 123, 124, 125, 126, 127, 128, 129, 130, 131, 132, 133, 134, 135, 136, 137] (by decide +kernel) (by decide +kernel)
set_option maxRecDepth 20000 in
theorem gX5_council_X4_liars : GoodIn wsX5_council (wsV RX5 144 RX4 yX4_liars wsX4_liars) := goodIn_app (goodIn_of _ (by decide +kernel)) ggX5_council_X4_liars
set_option maxRecDepth 20000 in
theorem ggX5_council_X4_strikesOf : GoodIn wsX5_council wsX4_strikesOf := goodIn_r _ [102, 31, 103, 104, 105, 23, 106, 25, 35, 26, 32, 53, 54, 55, 56, 69, 70, 71, 72, 73, 74, 75, 76, 77, 78, 79, 80, 81, 82, 83, 84, 85, 86, 87, 88, 27, 28, 89, 34, 90, 91, 92, 122, 123, 124, 125, 126, 127, 128, 129, 130, 131, 132, 133, 134, 135, 136, 137] (by decide +kernel) (by decide +kernel)
set_option maxRecDepth 20000 in
theorem gX5_council_X4_strikesOf : GoodIn wsX5_council (wsV RX5 148 RX4 yX4_strikesOf wsX4_strikesOf) := goodIn_app (goodIn_of _ (by decide +kernel)) ggX5_council_X4_strikesOf
