theorem dX0_init_0 : decode cX0_init 0 = .ok (.aload_n 0, 1) := by decide +kernel
theorem dX0_init_1 : decode cX0_init 1 = .ok (.invokespecial 3, 3) := by decide +kernel
theorem dX0_init_4 : decode cX0_init 4 = .ok (.aload_n 0, 1) := by decide +kernel
theorem dX0_init_5 : decode cX0_init 5 = .ok (.bipush 24, 2) := by decide +kernel
theorem dX0_init_7 : decode cX0_init 7 = .ok (.newarray .int, 2) := by decide +kernel
theorem dX0_init_9 : decode cX0_init 9 = .ok (.putfield 9, 3) := by decide +kernel
theorem dX0_init_12 : decode cX0_init 12 = .ok (.aload_n 0, 1) := by decide +kernel
theorem dX0_init_13 : decode cX0_init 13 = .ok (.bipush 24, 2) := by decide +kernel
theorem dX0_init_15 : decode cX0_init 15 = .ok (.newarray .int, 2) := by decide +kernel
theorem dX0_init_17 : decode cX0_init 17 = .ok (.putfield 15, 3) := by decide +kernel
theorem dX0_init_20 : decode cX0_init 20 = .ok (.return_, 1) := by decide +kernel
set_option maxRecDepth 20000 in
theorem ggX0_live_X4_liars : GoodIn wsX0_live wsX4_liars := goodIn_r _ [7, 8, 9, 10, 11, 6, 12, 13, 14, 15, 16, 17, 18, 19, 20, 21, 22, 23, 24, 25, 26, 27, 28, 29, 30, 31, 32, 33, 34, 35, 36, 37, 38, 39, 40, 41, 42, 43, 44, 45, 46, 47, 48, 49, 50, 51, 52, 53, 54, 55, 56, 57, 58, 59, 60, 61, 83, 84, 85, 86, 87, 88, 89, 90, 91, 92, 93, 94, 95, 96, 97, 98] (by decide +kernel) (by decide +kernel)
set_option maxRecDepth 20000 in
theorem gX0_live_X4_liars : GoodIn wsX0_live (wsV RX0 18 RX4 yX4_liars wsX4_liars) := goodIn_app (goodIn_of _ (by decide +kernel)) ggX0_live_X4_liars
set_option maxRecDepth 20000 in
theorem ggX0_live_X4_passHour : GoodIn wsX0_live wsX4_passHour := goodIn_r _ [65, 8, 56, 58, 45, 46, 47, 66, 49, 50, 57, 15, 67, 68, 30, 69, 70, 71, 6, 72, 73, 74, 75, 76, 13, 14, 16, 17, 18, 19, 20, 36, 37, 38, 39, 40, 41, 42, 43, 44, 48, 51, 52, 53, 54, 55, 59, 60, 61, 77, 78, 79, 80, 83, 84, 85, 86, 87, 88, 89, 90, 91, 92, 93, 94, 95, 96, 97, 98] (by decide +kernel) (by decide +kernel)
set_option maxRecDepth 20000 in
theorem gX0_live_X4_passHour : GoodIn wsX0_live (wsV RX0 23 RX4 yX4_passHour wsX4_passHour) := goodIn_app (goodIn_of _ (by decide +kernel)) ggX0_live_X4_passHour
theorem dX0_live_0 : decode cX0_live 0 = .ok (.iconst 0, 1) := by decide +kernel
theorem dX0_live_1 : decode cX0_live 1 = .ok (.istore_n 2, 1) := by decide +kernel
theorem dX0_live_2 : decode cX0_live 2 = .ok (.iload_n 2, 1) := by decide +kernel
theorem dX0_live_3 : decode cX0_live 3 = .ok (.bipush 24, 2) := by decide +kernel
theorem dX0_live_5 : decode cX0_live 5 = .ok (.if_icmp .ge 35, 3) := by decide +kernel
theorem dX0_live_8 : decode cX0_live 8 = .ok (.aload_n 0, 1) := by decide +kernel
theorem dX0_live_9 : decode cX0_live 9 = .ok (.getfield 15, 3) := by decide +kernel
theorem dX0_live_12 : decode cX0_live 12 = .ok (.iload_n 2, 1) := by decide +kernel
theorem dX0_live_13 : decode cX0_live 13 = .ok (.aload_n 1, 1) := by decide +kernel
theorem dX0_live_14 : decode cX0_live 14 = .ok (.invokevirtual 18, 3) := by decide +kernel
theorem dX0_live_17 : decode cX0_live 17 = .ok (.iastore, 1) := by decide +kernel
theorem dX0_live_18 : decode cX0_live 18 = .ok (.aload_n 0, 1) := by decide +kernel
theorem dX0_live_19 : decode cX0_live 19 = .ok (.getfield 9, 3) := by decide +kernel
theorem dX0_live_22 : decode cX0_live 22 = .ok (.iload_n 2, 1) := by decide +kernel
theorem dX0_live_23 : decode cX0_live 23 = .ok (.aload_n 1, 1) := by decide +kernel
theorem dX0_live_24 : decode cX0_live 24 = .ok (.aload_n 0, 1) := by decide +kernel
theorem dX0_live_25 : decode cX0_live 25 = .ok (.getfield 15, 3) := by decide +kernel
theorem dX0_live_28 : decode cX0_live 28 = .ok (.iload_n 2, 1) := by decide +kernel
theorem dX0_live_29 : decode cX0_live 29 = .ok (.iaload, 1) := by decide +kernel
theorem dX0_live_30 : decode cX0_live 30 = .ok (.invokevirtual 23, 3) := by decide +kernel
theorem dX0_live_33 : decode cX0_live 33 = .ok (.iastore, 1) := by decide +kernel
theorem dX0_live_34 : decode cX0_live 34 = .ok (.iinc 2 1, 3) := by decide +kernel
theorem dX0_live_37 : decode cX0_live 37 = .ok (.goto (-35), 3) := by decide +kernel
theorem dX0_live_40 : decode cX0_live 40 = .ok (.return_, 1) := by decide +kernel
theorem dX0_hoursOf_0 : decode cX0_hoursOf 0 = .ok (.iconst 0, 1) := by decide +kernel
theorem dX0_hoursOf_1 : decode cX0_hoursOf 1 = .ok (.istore_n 2, 1) := by decide +kernel
theorem dX0_hoursOf_2 : decode cX0_hoursOf 2 = .ok (.iconst 0, 1) := by decide +kernel
theorem dX0_hoursOf_3 : decode cX0_hoursOf 3 = .ok (.istore_n 3, 1) := by decide +kernel
theorem dX0_hoursOf_4 : decode cX0_hoursOf 4 = .ok (.iload_n 3, 1) := by decide +kernel
theorem dX0_hoursOf_5 : decode cX0_hoursOf 5 = .ok (.bipush 24, 2) := by decide +kernel
theorem dX0_hoursOf_7 : decode cX0_hoursOf 7 = .ok (.if_icmp .ge 22, 3) := by decide +kernel
theorem dX0_hoursOf_10 : decode cX0_hoursOf 10 = .ok (.aload_n 0, 1) := by decide +kernel
theorem dX0_hoursOf_11 : decode cX0_hoursOf 11 = .ok (.getfield 9, 3) := by decide +kernel
theorem dX0_hoursOf_14 : decode cX0_hoursOf 14 = .ok (.iload_n 3, 1) := by decide +kernel
theorem dX0_hoursOf_15 : decode cX0_hoursOf 15 = .ok (.iaload, 1) := by decide +kernel
theorem dX0_hoursOf_16 : decode cX0_hoursOf 16 = .ok (.iload_n 1, 1) := by decide +kernel
theorem dX0_hoursOf_17 : decode cX0_hoursOf 17 = .ok (.if_icmp .ne 6, 3) := by decide +kernel
theorem dX0_hoursOf_20 : decode cX0_hoursOf 20 = .ok (.iinc 2 1, 3) := by decide +kernel
theorem dX0_hoursOf_23 : decode cX0_hoursOf 23 = .ok (.iinc 3 1, 3) := by decide +kernel
theorem dX0_hoursOf_26 : decode cX0_hoursOf 26 = .ok (.goto (-22), 3) := by decide +kernel
theorem dX0_hoursOf_29 : decode cX0_hoursOf 29 = .ok (.iload_n 2, 1) := by decide +kernel
theorem dX0_hoursOf_30 : decode cX0_hoursOf 30 = .ok (.ireturn, 1) := by decide +kernel
set_option maxRecDepth 20000 in
theorem ggX0_hoursAlone_X0_hoursOf : GoodIn wsX0_hoursAlone wsX0_hoursOf := goodIn_r _ [6, 1, 7, 8] (by decide +kernel) (by decide +kernel)
set_option maxRecDepth 20000 in
theorem gX0_hoursAlone_X0_hoursOf : GoodIn wsX0_hoursAlone (wsV RX0 27 RX0 yX0_hoursOf wsX0_hoursOf) := goodIn_app (goodIn_of _ (by decide +kernel)) ggX0_hoursAlone_X0_hoursOf
theorem dX0_hoursAlone_0 : decode cX0_hoursAlone 0 = .ok (.iconst 0, 1) := by decide +kernel
theorem dX0_hoursAlone_1 : decode cX0_hoursAlone 1 = .ok (.istore_n 1, 1) := by decide +kernel
theorem dX0_hoursAlone_2 : decode cX0_hoursAlone 2 = .ok (.iconst 0, 1) := by decide +kernel
theorem dX0_hoursAlone_3 : decode cX0_hoursAlone 3 = .ok (.istore_n 2, 1) := by decide +kernel
theorem dX0_hoursAlone_4 : decode cX0_hoursAlone 4 = .ok (.iload_n 2, 1) := by decide +kernel
theorem dX0_hoursAlone_5 : decode cX0_hoursAlone 5 = .ok (.bipush 24, 2) := by decide +kernel
theorem dX0_hoursAlone_7 : decode cX0_hoursAlone 7 = .ok (.if_icmp .ge 26, 3) := by decide +kernel
theorem dX0_hoursAlone_10 : decode cX0_hoursAlone 10 = .ok (.aload_n 0, 1) := by decide +kernel
theorem dX0_hoursAlone_11 : decode cX0_hoursAlone 11 = .ok (.aload_n 0, 1) := by decide +kernel
theorem dX0_hoursAlone_12 : decode cX0_hoursAlone 12 = .ok (.getfield 9, 3) := by decide +kernel
theorem dX0_hoursAlone_15 : decode cX0_hoursAlone 15 = .ok (.iload_n 2, 1) := by decide +kernel
theorem dX0_hoursAlone_16 : decode cX0_hoursAlone 16 = .ok (.iaload, 1) := by decide +kernel
theorem dX0_hoursAlone_17 : decode cX0_hoursAlone 17 = .ok (.invokevirtual 27, 3) := by decide +kernel
theorem dX0_hoursAlone_20 : decode cX0_hoursAlone 20 = .ok (.iconst 1, 1) := by decide +kernel
theorem dX0_hoursAlone_21 : decode cX0_hoursAlone 21 = .ok (.if_icmp .ne 6, 3) := by decide +kernel
theorem dX0_hoursAlone_24 : decode cX0_hoursAlone 24 = .ok (.iinc 1 1, 3) := by decide +kernel
theorem dX0_hoursAlone_27 : decode cX0_hoursAlone 27 = .ok (.iinc 2 1, 3) := by decide +kernel
theorem dX0_hoursAlone_30 : decode cX0_hoursAlone 30 = .ok (.goto (-26), 3) := by decide +kernel
theorem dX0_hoursAlone_33 : decode cX0_hoursAlone 33 = .ok (.iload_n 1, 1) := by decide +kernel
theorem dX0_hoursAlone_34 : decode cX0_hoursAlone 34 = .ok (.ireturn, 1) := by decide +kernel
theorem dX0_longestRow_0 : decode cX0_longestRow 0 = .ok (.iconst 1, 1) := by decide +kernel
theorem dX0_longestRow_1 : decode cX0_longestRow 1 = .ok (.istore_n 1, 1) := by decide +kernel
theorem dX0_longestRow_2 : decode cX0_longestRow 2 = .ok (.iconst 1, 1) := by decide +kernel
theorem dX0_longestRow_3 : decode cX0_longestRow 3 = .ok (.istore_n 2, 1) := by decide +kernel
theorem dX0_longestRow_4 : decode cX0_longestRow 4 = .ok (.iconst 1, 1) := by decide +kernel
theorem dX0_longestRow_5 : decode cX0_longestRow 5 = .ok (.istore_n 3, 1) := by decide +kernel
theorem dX0_longestRow_6 : decode cX0_longestRow 6 = .ok (.iload_n 3, 1) := by decide +kernel
theorem dX0_longestRow_7 : decode cX0_longestRow 7 = .ok (.bipush 24, 2) := by decide +kernel
theorem dX0_longestRow_9 : decode cX0_longestRow 9 = .ok (.if_icmp .ge 40, 3) := by decide +kernel
theorem dX0_longestRow_12 : decode cX0_longestRow 12 = .ok (.aload_n 0, 1) := by decide +kernel
theorem dX0_longestRow_13 : decode cX0_longestRow 13 = .ok (.getfield 9, 3) := by decide +kernel
theorem dX0_longestRow_16 : decode cX0_longestRow 16 = .ok (.iload_n 3, 1) := by decide +kernel
theorem dX0_longestRow_17 : decode cX0_longestRow 17 = .ok (.iaload, 1) := by decide +kernel
theorem dX0_longestRow_18 : decode cX0_longestRow 18 = .ok (.aload_n 0, 1) := by decide +kernel
theorem dX0_longestRow_19 : decode cX0_longestRow 19 = .ok (.getfield 9, 3) := by decide +kernel
theorem dX0_longestRow_22 : decode cX0_longestRow 22 = .ok (.iload_n 3, 1) := by decide +kernel
theorem dX0_longestRow_23 : decode cX0_longestRow 23 = .ok (.iconst 1, 1) := by decide +kernel
theorem dX0_longestRow_24 : decode cX0_longestRow 24 = .ok (.isub, 1) := by decide +kernel
theorem dX0_longestRow_25 : decode cX0_longestRow 25 = .ok (.iaload, 1) := by decide +kernel
theorem dX0_longestRow_26 : decode cX0_longestRow 26 = .ok (.if_icmp .ne 9, 3) := by decide +kernel
theorem dX0_longestRow_29 : decode cX0_longestRow 29 = .ok (.iload_n 2, 1) := by decide +kernel
theorem dX0_longestRow_30 : decode cX0_longestRow 30 = .ok (.iconst 1, 1) := by decide +kernel
theorem dX0_longestRow_31 : decode cX0_longestRow 31 = .ok (.iadd, 1) := by decide +kernel
theorem dX0_longestRow_32 : decode cX0_longestRow 32 = .ok (.goto 4, 3) := by decide +kernel
theorem dX0_longestRow_35 : decode cX0_longestRow 35 = .ok (.iconst 1, 1) := by decide +kernel
theorem dX0_longestRow_36 : decode cX0_longestRow 36 = .ok (.istore_n 2, 1) := by decide +kernel
theorem dX0_longestRow_37 : decode cX0_longestRow 37 = .ok (.iload_n 1, 1) := by decide +kernel
theorem dX0_longestRow_38 : decode cX0_longestRow 38 = .ok (.iload_n 2, 1) := by decide +kernel
theorem dX0_longestRow_39 : decode cX0_longestRow 39 = .ok (.invokestatic 30, 3) := by decide +kernel
theorem dX0_longestRow_42 : decode cX0_longestRow 42 = .ok (.istore_n 1, 1) := by decide +kernel
theorem dX0_longestRow_43 : decode cX0_longestRow 43 = .ok (.iinc 3 1, 3) := by decide +kernel
theorem dX0_longestRow_46 : decode cX0_longestRow 46 = .ok (.goto (-40), 3) := by decide +kernel
theorem dX0_longestRow_49 : decode cX0_longestRow 49 = .ok (.iload_n 1, 1) := by decide +kernel
theorem dX0_longestRow_50 : decode cX0_longestRow 50 = .ok (.ireturn, 1) := by decide +kernel
theorem dX0_mostStrikes_0 : decode cX0_mostStrikes 0 = .ok (.iconst 0, 1) := by decide +kernel
theorem dX0_mostStrikes_1 : decode cX0_mostStrikes 1 = .ok (.istore_n 1, 1) := by decide +kernel
theorem dX0_mostStrikes_2 : decode cX0_mostStrikes 2 = .ok (.iconst 0, 1) := by decide +kernel
theorem dX0_mostStrikes_3 : decode cX0_mostStrikes 3 = .ok (.istore_n 2, 1) := by decide +kernel
theorem dX0_mostStrikes_4 : decode cX0_mostStrikes 4 = .ok (.iload_n 2, 1) := by decide +kernel
theorem dX0_mostStrikes_5 : decode cX0_mostStrikes 5 = .ok (.bipush 24, 2) := by decide +kernel
theorem dX0_mostStrikes_7 : decode cX0_mostStrikes 7 = .ok (.if_icmp .ge 20, 3) := by decide +kernel
theorem dX0_mostStrikes_10 : decode cX0_mostStrikes 10 = .ok (.iload_n 1, 1) := by decide +kernel
theorem dX0_mostStrikes_11 : decode cX0_mostStrikes 11 = .ok (.aload_n 0, 1) := by decide +kernel
theorem dX0_mostStrikes_12 : decode cX0_mostStrikes 12 = .ok (.getfield 9, 3) := by decide +kernel
theorem dX0_mostStrikes_15 : decode cX0_mostStrikes 15 = .ok (.iload_n 2, 1) := by decide +kernel
theorem dX0_mostStrikes_16 : decode cX0_mostStrikes 16 = .ok (.iaload, 1) := by decide +kernel
theorem dX0_mostStrikes_17 : decode cX0_mostStrikes 17 = .ok (.invokestatic 30, 3) := by decide +kernel
theorem dX0_mostStrikes_20 : decode cX0_mostStrikes 20 = .ok (.istore_n 1, 1) := by decide +kernel
theorem dX0_mostStrikes_21 : decode cX0_mostStrikes 21 = .ok (.iinc 2 1, 3) := by decide +kernel
theorem dX0_mostStrikes_24 : decode cX0_mostStrikes 24 = .ok (.goto (-20), 3) := by decide +kernel
theorem dX0_mostStrikes_27 : decode cX0_mostStrikes 27 = .ok (.iload_n 1, 1) := by decide +kernel
theorem dX0_mostStrikes_28 : decode cX0_mostStrikes 28 = .ok (.ireturn, 1) := by decide +kernel
theorem dX0_firstOf_0 : decode cX0_firstOf 0 = .ok (.iconst 0, 1) := by decide +kernel
theorem dX0_firstOf_1 : decode cX0_firstOf 1 = .ok (.istore_n 2, 1) := by decide +kernel
theorem dX0_firstOf_2 : decode cX0_firstOf 2 = .ok (.iload_n 2, 1) := by decide +kernel
theorem dX0_firstOf_3 : decode cX0_firstOf 3 = .ok (.bipush 24, 2) := by decide +kernel
theorem dX0_firstOf_5 : decode cX0_firstOf 5 = .ok (.if_icmp .ge 21, 3) := by decide +kernel
theorem dX0_firstOf_8 : decode cX0_firstOf 8 = .ok (.aload_n 0, 1) := by decide +kernel
theorem dX0_firstOf_9 : decode cX0_firstOf 9 = .ok (.getfield 9, 3) := by decide +kernel
theorem dX0_firstOf_12 : decode cX0_firstOf 12 = .ok (.iload_n 2, 1) := by decide +kernel
theorem dX0_firstOf_13 : decode cX0_firstOf 13 = .ok (.iaload, 1) := by decide +kernel
theorem dX0_firstOf_14 : decode cX0_firstOf 14 = .ok (.iload_n 1, 1) := by decide +kernel
theorem dX0_firstOf_15 : decode cX0_firstOf 15 = .ok (.if_icmp .ne 5, 3) := by decide +kernel
theorem dX0_firstOf_18 : decode cX0_firstOf 18 = .ok (.iload_n 2, 1) := by decide +kernel
theorem dX0_firstOf_19 : decode cX0_firstOf 19 = .ok (.ireturn, 1) := by decide +kernel
theorem dX0_firstOf_20 : decode cX0_firstOf 20 = .ok (.iinc 2 1, 3) := by decide +kernel
theorem dX0_firstOf_23 : decode cX0_firstOf 23 = .ok (.goto (-21), 3) := by decide +kernel
theorem dX0_firstOf_26 : decode cX0_firstOf 26 = .ok (.iconst (-1), 1) := by decide +kernel
theorem dX0_firstOf_27 : decode cX0_firstOf 27 = .ok (.ireturn, 1) := by decide +kernel
theorem dX0_hoursOfBoth_0 : decode cX0_hoursOfBoth 0 = .ok (.iconst 0, 1) := by decide +kernel
theorem dX0_hoursOfBoth_1 : decode cX0_hoursOfBoth 1 = .ok (.istore_n 3, 1) := by decide +kernel
theorem dX0_hoursOfBoth_2 : decode cX0_hoursOfBoth 2 = .ok (.iconst 0, 1) := by decide +kernel
theorem dX0_hoursOfBoth_3 : decode cX0_hoursOfBoth 3 = .ok (.istore 4, 2) := by decide +kernel
theorem dX0_hoursOfBoth_5 : decode cX0_hoursOfBoth 5 = .ok (.iload 4, 2) := by decide +kernel
theorem dX0_hoursOfBoth_7 : decode cX0_hoursOfBoth 7 = .ok (.bipush 24, 2) := by decide +kernel
theorem dX0_hoursOfBoth_9 : decode cX0_hoursOfBoth 9 = .ok (.if_icmp .ge 33, 3) := by decide +kernel
theorem dX0_hoursOfBoth_12 : decode cX0_hoursOfBoth 12 = .ok (.iload_n 3, 1) := by decide +kernel
theorem dX0_hoursOfBoth_13 : decode cX0_hoursOfBoth 13 = .ok (.aload_n 0, 1) := by decide +kernel
theorem dX0_hoursOfBoth_14 : decode cX0_hoursOfBoth 14 = .ok (.getfield 15, 3) := by decide +kernel
theorem dX0_hoursOfBoth_17 : decode cX0_hoursOfBoth 17 = .ok (.iload 4, 2) := by decide +kernel
theorem dX0_hoursOfBoth_19 : decode cX0_hoursOfBoth 19 = .ok (.iaload, 1) := by decide +kernel
theorem dX0_hoursOfBoth_20 : decode cX0_hoursOfBoth 20 = .ok (.iload_n 1, 1) := by decide +kernel
theorem dX0_hoursOfBoth_21 : decode cX0_hoursOfBoth 21 = .ok (.ishr, 1) := by decide +kernel
theorem dX0_hoursOfBoth_22 : decode cX0_hoursOfBoth 22 = .ok (.aload_n 0, 1) := by decide +kernel
theorem dX0_hoursOfBoth_23 : decode cX0_hoursOfBoth 23 = .ok (.getfield 15, 3) := by decide +kernel
theorem dX0_hoursOfBoth_26 : decode cX0_hoursOfBoth 26 = .ok (.iload 4, 2) := by decide +kernel
theorem dX0_hoursOfBoth_28 : decode cX0_hoursOfBoth 28 = .ok (.iaload, 1) := by decide +kernel
theorem dX0_hoursOfBoth_29 : decode cX0_hoursOfBoth 29 = .ok (.iload_n 2, 1) := by decide +kernel
theorem dX0_hoursOfBoth_30 : decode cX0_hoursOfBoth 30 = .ok (.ishr, 1) := by decide +kernel
theorem dX0_hoursOfBoth_31 : decode cX0_hoursOfBoth 31 = .ok (.iand, 1) := by decide +kernel
theorem dX0_hoursOfBoth_32 : decode cX0_hoursOfBoth 32 = .ok (.iconst 1, 1) := by decide +kernel
theorem dX0_hoursOfBoth_33 : decode cX0_hoursOfBoth 33 = .ok (.iand, 1) := by decide +kernel
theorem dX0_hoursOfBoth_34 : decode cX0_hoursOfBoth 34 = .ok (.iadd, 1) := by decide +kernel
theorem dX0_hoursOfBoth_35 : decode cX0_hoursOfBoth 35 = .ok (.istore_n 3, 1) := by decide +kernel
theorem dX0_hoursOfBoth_36 : decode cX0_hoursOfBoth 36 = .ok (.iinc 4 1, 3) := by decide +kernel
theorem dX0_hoursOfBoth_39 : decode cX0_hoursOfBoth 39 = .ok (.goto (-34), 3) := by decide +kernel
theorem dX0_hoursOfBoth_42 : decode cX0_hoursOfBoth 42 = .ok (.iload_n 3, 1) := by decide +kernel
theorem dX0_hoursOfBoth_43 : decode cX0_hoursOfBoth 43 = .ok (.ireturn, 1) := by decide +kernel
theorem dX1_init_0 : decode cX1_init 0 = .ok (.aload_n 0, 1) := by decide +kernel
theorem dX1_init_1 : decode cX1_init 1 = .ok (.invokespecial 3, 3) := by decide +kernel
theorem dX1_init_4 : decode cX1_init 4 = .ok (.aload_n 0, 1) := by decide +kernel
theorem dX1_init_5 : decode cX1_init 5 = .ok (.bipush 40, 2) := by decide +kernel
theorem dX1_init_7 : decode cX1_init 7 = .ok (.newarray .int, 2) := by decide +kernel
theorem dX1_init_9 : decode cX1_init 9 = .ok (.putfield 9, 3) := by decide +kernel
theorem dX1_init_12 : decode cX1_init 12 = .ok (.aload_n 0, 1) := by decide +kernel
theorem dX1_init_13 : decode cX1_init 13 = .ok (.iconst (-1), 1) := by decide +kernel
theorem dX1_init_14 : decode cX1_init 14 = .ok (.putfield 15, 3) := by decide +kernel
theorem dX1_init_17 : decode cX1_init 17 = .ok (.aload_n 0, 1) := by decide +kernel
theorem dX1_init_18 : decode cX1_init 18 = .ok (.iconst 0, 1) := by decide +kernel
theorem dX1_init_19 : decode cX1_init 19 = .ok (.putfield 19, 3) := by decide +kernel
theorem dX1_init_22 : decode cX1_init 22 = .ok (.return_, 1) := by decide +kernel
theorem dX1_become_0 : decode cX1_become 0 = .ok (.aload_n 0, 1) := by decide +kernel
theorem dX1_become_1 : decode cX1_become 1 = .ok (.iload_n 1, 1) := by decide +kernel
theorem dX1_become_2 : decode cX1_become 2 = .ok (.putfield 15, 3) := by decide +kernel
theorem dX1_become_5 : decode cX1_become 5 = .ok (.aload_n 0, 1) := by decide +kernel
theorem dX1_become_6 : decode cX1_become 6 = .ok (.iload_n 2, 1) := by decide +kernel
theorem dX1_become_7 : decode cX1_become 7 = .ok (.putfield 19, 3) := by decide +kernel
theorem dX1_become_10 : decode cX1_become 10 = .ok (.iconst 0, 1) := by decide +kernel
theorem dX1_become_11 : decode cX1_become 11 = .ok (.istore_n 3, 1) := by decide +kernel
theorem dX1_become_12 : decode cX1_become 12 = .ok (.iload_n 3, 1) := by decide +kernel
theorem dX1_become_13 : decode cX1_become 13 = .ok (.bipush 40, 2) := by decide +kernel
theorem dX1_become_15 : decode cX1_become 15 = .ok (.if_icmp .ge 16, 3) := by decide +kernel
theorem dX1_become_18 : decode cX1_become 18 = .ok (.aload_n 0, 1) := by decide +kernel
theorem dX1_become_19 : decode cX1_become 19 = .ok (.getfield 9, 3) := by decide +kernel
theorem dX1_become_22 : decode cX1_become 22 = .ok (.iload_n 3, 1) := by decide +kernel
theorem dX1_become_23 : decode cX1_become 23 = .ok (.iconst 0, 1) := by decide +kernel
theorem dX1_become_24 : decode cX1_become 24 = .ok (.iastore, 1) := by decide +kernel
theorem dX1_become_25 : decode cX1_become 25 = .ok (.iinc 3 1, 3) := by decide +kernel
theorem dX1_become_28 : decode cX1_become 28 = .ok (.goto (-16), 3) := by decide +kernel
theorem dX1_become_31 : decode cX1_become 31 = .ok (.return_, 1) := by decide +kernel
theorem dX1_isMissing_0 : decode cX1_isMissing 0 = .ok (.aload_n 0, 1) := by decide +kernel
theorem dX1_isMissing_1 : decode cX1_isMissing 1 = .ok (.getfield 15, 3) := by decide +kernel
theorem dX1_isMissing_4 : decode cX1_isMissing 4 = .ok (.iconst (-1), 1) := by decide +kernel
theorem dX1_isMissing_5 : decode cX1_isMissing 5 = .ok (.if_icmp .ne 7, 3) := by decide +kernel
theorem dX1_isMissing_8 : decode cX1_isMissing 8 = .ok (.iconst 1, 1) := by decide +kernel
theorem dX1_isMissing_9 : decode cX1_isMissing 9 = .ok (.goto 4, 3) := by decide +kernel
theorem dX1_isMissing_12 : decode cX1_isMissing 12 = .ok (.iconst 0, 1) := by decide +kernel
theorem dX1_isMissing_13 : decode cX1_isMissing 13 = .ok (.ireturn, 1) := by decide +kernel
theorem dX1_has_0 : decode cX1_has 0 = .ok (.iload_n 1, 1) := by decide +kernel
theorem dX1_has_1 : decode cX1_has 1 = .ok (.ifCond .lt 29, 3) := by decide +kernel
theorem dX1_has_4 : decode cX1_has 4 = .ok (.iload_n 2, 1) := by decide +kernel
theorem dX1_has_5 : decode cX1_has 5 = .ok (.ifCond .lt 25, 3) := by decide +kernel
theorem dX1_has_8 : decode cX1_has 8 = .ok (.iload_n 1, 1) := by decide +kernel
theorem dX1_has_9 : decode cX1_has 9 = .ok (.aload_n 0, 1) := by decide +kernel
theorem dX1_has_10 : decode cX1_has 10 = .ok (.getfield 19, 3) := by decide +kernel
theorem dX1_has_13 : decode cX1_has 13 = .ok (.if_icmp .gt 17, 3) := by decide +kernel
theorem dX1_has_16 : decode cX1_has 16 = .ok (.iload_n 2, 1) := by decide +kernel
theorem dX1_has_17 : decode cX1_has 17 = .ok (.aload_n 0, 1) := by decide +kernel
theorem dX1_has_18 : decode cX1_has 18 = .ok (.getfield 19, 3) := by decide +kernel
theorem dX1_has_21 : decode cX1_has 21 = .ok (.iload_n 1, 1) := by decide +kernel
theorem dX1_has_22 : decode cX1_has 22 = .ok (.isub, 1) := by decide +kernel
theorem dX1_has_23 : decode cX1_has 23 = .ok (.if_icmp .gt 7, 3) := by decide +kernel
theorem dX1_has_26 : decode cX1_has 26 = .ok (.iconst 1, 1) := by decide +kernel
theorem dX1_has_27 : decode cX1_has 27 = .ok (.goto 4, 3) := by decide +kernel
theorem dX1_has_30 : decode cX1_has 30 = .ok (.iconst 0, 1) := by decide +kernel
theorem dX1_has_31 : decode cX1_has 31 = .ok (.ireturn, 1) := by decide +kernel
theorem dX1_write_0 : decode cX1_write 0 = .ok (.iload_n 1, 1) := by decide +kernel
theorem dX1_write_1 : decode cX1_write 1 = .ok (.ifCond .lt 9, 3) := by decide +kernel
theorem dX1_write_4 : decode cX1_write 4 = .ok (.iload_n 1, 1) := by decide +kernel
theorem dX1_write_5 : decode cX1_write 5 = .ok (.bipush 40, 2) := by decide +kernel
theorem dX1_write_7 : decode cX1_write 7 = .ok (.if_icmp .lt 4, 3) := by decide +kernel
theorem dX1_write_10 : decode cX1_write 10 = .ok (.return_, 1) := by decide +kernel
theorem dX1_write_11 : decode cX1_write 11 = .ok (.aload_n 0, 1) := by decide +kernel
theorem dX1_write_12 : decode cX1_write 12 = .ok (.getfield 9, 3) := by decide +kernel
theorem dX1_write_15 : decode cX1_write 15 = .ok (.iload_n 1, 1) := by decide +kernel
theorem dX1_write_16 : decode cX1_write 16 = .ok (.aload_n 0, 1) := by decide +kernel
theorem dX1_write_17 : decode cX1_write 17 = .ok (.getfield 15, 3) := by decide +kernel
theorem dX1_write_20 : decode cX1_write 20 = .ok (.ifCond .ne 8, 3) := by decide +kernel
theorem dX1_write_23 : decode cX1_write 23 = .ok (.iload_n 2, 1) := by decide +kernel
theorem dX1_write_24 : decode cX1_write 24 = .ok (.i2b, 1) := by decide +kernel
theorem dX1_write_25 : decode cX1_write 25 = .ok (.goto 17, 3) := by decide +kernel
theorem dX1_write_28 : decode cX1_write 28 = .ok (.aload_n 0, 1) := by decide +kernel
theorem dX1_write_29 : decode cX1_write 29 = .ok (.getfield 15, 3) := by decide +kernel
theorem dX1_write_32 : decode cX1_write 32 = .ok (.iconst 1, 1) := by decide +kernel
theorem dX1_write_33 : decode cX1_write 33 = .ok (.if_icmp .ne 8, 3) := by decide +kernel
theorem dX1_write_36 : decode cX1_write 36 = .ok (.iload_n 2, 1) := by decide +kernel
theorem dX1_write_37 : decode cX1_write 37 = .ok (.i2s, 1) := by decide +kernel
theorem dX1_write_38 : decode cX1_write 38 = .ok (.goto 4, 3) := by decide +kernel
theorem dX1_write_41 : decode cX1_write 41 = .ok (.iload_n 2, 1) := by decide +kernel
theorem dX1_write_42 : decode cX1_write 42 = .ok (.iastore, 1) := by decide +kernel
theorem dX1_write_43 : decode cX1_write 43 = .ok (.return_, 1) := by decide +kernel
theorem dX2_init_0 : decode cX2_init 0 = .ok (.aload_n 0, 1) := by decide +kernel
theorem dX2_init_1 : decode cX2_init 1 = .ok (.invokespecial 3, 3) := by decide +kernel
theorem dX2_init_4 : decode cX2_init 4 = .ok (.aload_n 0, 1) := by decide +kernel
theorem dX2_init_5 : decode cX2_init 5 = .ok (.sipush 160, 3) := by decide +kernel
theorem dX2_init_8 : decode cX2_init 8 = .ok (.newarray .int, 2) := by decide +kernel
theorem dX2_init_10 : decode cX2_init 10 = .ok (.putfield 9, 3) := by decide +kernel
theorem dX2_init_13 : decode cX2_init 13 = .ok (.aload_n 0, 1) := by decide +kernel
theorem dX2_init_14 : decode cX2_init 14 = .ok (.iconst 0, 1) := by decide +kernel
theorem dX2_init_15 : decode cX2_init 15 = .ok (.putfield 15, 3) := by decide +kernel
theorem dX2_init_18 : decode cX2_init 18 = .ok (.return_, 1) := by decide +kernel
theorem dX2_add_0 : decode cX2_add 0 = .ok (.aload_n 0, 1) := by decide +kernel
theorem dX2_add_1 : decode cX2_add 1 = .ok (.getfield 15, 3) := by decide +kernel
theorem dX2_add_4 : decode cX2_add 4 = .ok (.sipush 160, 3) := by decide +kernel
theorem dX2_add_7 : decode cX2_add 7 = .ok (.if_icmp .ge 23, 3) := by decide +kernel
theorem dX2_add_10 : decode cX2_add 10 = .ok (.aload_n 0, 1) := by decide +kernel
theorem dX2_add_11 : decode cX2_add 11 = .ok (.getfield 9, 3) := by decide +kernel
theorem dX2_add_14 : decode cX2_add 14 = .ok (.aload_n 0, 1) := by decide +kernel
theorem dX2_add_15 : decode cX2_add 15 = .ok (.getfield 15, 3) := by decide +kernel
theorem dX2_add_18 : decode cX2_add 18 = .ok (.iload_n 1, 1) := by decide +kernel
theorem dX2_add_19 : decode cX2_add 19 = .ok (.iastore, 1) := by decide +kernel
theorem dX2_add_20 : decode cX2_add 20 = .ok (.aload_n 0, 1) := by decide +kernel
theorem dX2_add_21 : decode cX2_add 21 = .ok (.dup, 1) := by decide +kernel
theorem dX2_add_22 : decode cX2_add 22 = .ok (.getfield 15, 3) := by decide +kernel
theorem dX2_add_25 : decode cX2_add 25 = .ok (.iconst 1, 1) := by decide +kernel
theorem dX2_add_26 : decode cX2_add 26 = .ok (.iadd, 1) := by decide +kernel
theorem dX2_add_27 : decode cX2_add 27 = .ok (.putfield 15, 3) := by decide +kernel
theorem dX2_add_30 : decode cX2_add 30 = .ok (.return_, 1) := by decide +kernel
set_option maxRecDepth 20000 in
theorem ggX2_readInto_X3_empty : GoodIn wsX2_readInto wsX3_empty := goodIn_r _ [9, 10, 149, 150, 151, 152] (by decide +kernel) (by decide +kernel)
set_option maxRecDepth 20000 in
theorem gX2_readInto_X3_empty : GoodIn wsX2_readInto (wsV RX2 25 RX3 yX3_empty wsX3_empty) := goodIn_app (goodIn_of _ (by decide +kernel)) ggX2_readInto_X3_empty
set_option maxRecDepth 20000 in
theorem ggX2_readInto_X2_step : GoodIn wsX2_readInto wsX2_step := goodIn_r _ [15, 1, 4, 16, 3, 17, 18, 19, 14, 20, 21, 22, 23, 24, 25, 26, 27, 28, 29, 30, 31, 32, 33, 34, 35, 36, 37, 38, 39, 40, 41, 42, 43, 44, 45, 46, 47, 48, 49, 50, 51, 52, 53, 54, 55, 56, 57, 58, 59, 60, 61, 62, 63, 64, 65, 66, 67, 68, 69, 70, 71, 72, 73, 74, 75, 76, 77, 78, 79, 80, 81, 82, 83, 84, 85, 86, 87, 88, 89, 90, 91, 92, 93, 94, 95, 142, 143, 144, 145, 146, 147, 148] (by decide +kernel) (by decide +kernel)
set_option maxRecDepth 20000 in
theorem gX2_readInto_X2_step : GoodIn wsX2_readInto (wsV RX2 30 RX2 yX2_step wsX2_step) := goodIn_app (goodIn_of _ (by decide +kernel)) ggX2_readInto_X2_step
set_option maxRecDepth 20000 in
theorem ggX2_readInto_X2_expect : GoodIn wsX2_readInto wsX2_expect := goodIn_r _ [99, 3, 11, 12, 13, 14, 15, 1, 4, 16, 17, 18, 19, 20, 21, 22, 23, 24, 25, 26, 27, 28, 29, 30, 31, 32, 33, 34, 35, 36, 37, 38, 39, 40, 41, 42, 43, 44, 45, 46, 47, 48, 49, 50, 51, 52, 53, 54, 55, 56, 57, 58, 59, 60, 61, 62, 63, 64, 65, 66, 67, 68, 69, 70, 71, 72, 73, 74, 75, 76, 77, 78, 79, 80, 81, 82, 83, 84, 85, 86, 87, 88, 89, 90, 91, 92, 93, 94, 95, 100, 101, 102, 103, 2, 142, 143, 144, 145, 146, 147, 148] (by decide +kernel) (by decide +kernel)
set_option maxRecDepth 20000 in
theorem gX2_readInto_X2_expect : GoodIn wsX2_readInto (wsV RX2 33 RX2 yX2_expect wsX2_expect) := goodIn_app (goodIn_of _ (by decide +kernel)) ggX2_readInto_X2_expect
set_option maxRecDepth 20000 in
theorem ggX2_readInto_X2_readEither : GoodIn wsX2_readInto wsX2_readEither := goodIn_r _ [107, 3, 108, 109, 110, 14, 11, 12, 13, 15, 1, 4, 16, 17, 18, 19, 20, 21, 22, 23, 24, 25, 26, 27, 28, 29, 30, 31, 32, 33, 34, 35, 36, 37, 38, 39, 40, 41, 42, 43, 44, 45, 46, 47, 48, 49, 50, 51, 52, 53, 54, 55, 56, 57, 58, 59, 60, 61, 62, 63, 64, 65, 66, 67, 68, 69, 70, 71, 72, 73, 74, 75, 76, 77, 78, 79, 80, 81, 82, 83, 84, 85, 86, 87, 88, 89, 90, 91, 92, 93, 94, 95, 111, 112, 113, 8, 114, 10, 115, 116, 117, 118, 119, 120, 121, 122, 123, 124, 100, 101, 102, 103, 2, 125, 126, 127, 128, 129, 130, 131, 104, 105, 106, 96, 97, 98, 99, 132, 133, 134, 135, 136, 142, 143, 144, 145, 146, 147, 148, 149, 150, 151, 152] (by decide +kernel) (by decide +kernel)
set_option maxRecDepth 20000 in
theorem gX2_readInto_X2_readEither : GoodIn wsX2_readInto (wsV RX2 37 RX2 yX2_readEither wsX2_readEither) := goodIn_app (goodIn_of _ (by decide +kernel)) ggX2_readInto_X2_readEither
set_option maxRecDepth 20000 in
theorem ggX2_readInto_X3_endPart : GoodIn wsX2_readInto wsX3_endPart := goodIn_r _ [140, 141, 10, 149, 150, 151, 152] (by decide +kernel) (by decide +kernel)
set_option maxRecDepth 20000 in
theorem gX2_readInto_X3_endPart : GoodIn wsX2_readInto (wsV RX2 41 RX3 yX3_endPart wsX3_endPart) := goodIn_app (goodIn_of _ (by decide +kernel)) ggX2_readInto_X3_endPart
set_option maxRecDepth 20000 in
theorem ggX2_readInto_X2_fail : GoodIn wsX2_readInto wsX2_fail := goodIn_r _ [103, 2, 16, 3, 142, 143, 144, 145, 146, 147, 148] (by decide +kernel) (by decide +kernel)
set_option maxRecDepth 20000 in
theorem gX2_readInto_X2_fail : GoodIn wsX2_readInto (wsV RX2 47 RX2 yX2_fail wsX2_fail) := goodIn_app (goodIn_of _ (by decide +kernel)) ggX2_readInto_X2_fail
theorem dX2_readInto_0 : decode cX2_readInto 0 = .ok (.aload_n 0, 1) := by decide +kernel
theorem dX2_readInto_1 : decode cX2_readInto 1 = .ok (.iconst 0, 1) := by decide +kernel
theorem dX2_readInto_2 : decode cX2_readInto 2 = .ok (.putfield 19, 3) := by decide +kernel
theorem dX2_readInto_5 : decode cX2_readInto 5 = .ok (.aload_n 0, 1) := by decide +kernel
theorem dX2_readInto_6 : decode cX2_readInto 6 = .ok (.iconst (-1), 1) := by decide +kernel
theorem dX2_readInto_7 : decode cX2_readInto 7 = .ok (.putfield 22, 3) := by decide +kernel
theorem dX2_readInto_10 : decode cX2_readInto 10 = .ok (.aload_n 1, 1) := by decide +kernel
theorem dX2_readInto_11 : decode cX2_readInto 11 = .ok (.invokevirtual 25, 3) := by decide +kernel
theorem dX2_readInto_14 : decode cX2_readInto 14 = .ok (.aload_n 0, 1) := by decide +kernel
theorem dX2_readInto_15 : decode cX2_readInto 15 = .ok (.invokevirtual 30, 3) := by decide +kernel
theorem dX2_readInto_18 : decode cX2_readInto 18 = .ok (.iconst 0, 1) := by decide +kernel
theorem dX2_readInto_19 : decode cX2_readInto 19 = .ok (.istore_n 2, 1) := by decide +kernel
theorem dX2_readInto_20 : decode cX2_readInto 20 = .ok (.iload_n 2, 1) := by decide +kernel
theorem dX2_readInto_21 : decode cX2_readInto 21 = .ok (.iconst 2, 1) := by decide +kernel
theorem dX2_readInto_22 : decode cX2_readInto 22 = .ok (.if_icmp .gt 35, 3) := by decide +kernel
theorem dX2_readInto_25 : decode cX2_readInto 25 = .ok (.aload_n 0, 1) := by decide +kernel
theorem dX2_readInto_26 : decode cX2_readInto 26 = .ok (.sipush 256, 3) := by decide +kernel
theorem dX2_readInto_29 : decode cX2_readInto 29 = .ok (.iload_n 2, 1) := by decide +kernel
theorem dX2_readInto_30 : decode cX2_readInto 30 = .ok (.iadd, 1) := by decide +kernel
theorem dX2_readInto_31 : decode cX2_readInto 31 = .ok (.invokevirtual 33, 3) := by decide +kernel
theorem dX2_readInto_34 : decode cX2_readInto 34 = .ok (.aload_n 0, 1) := by decide +kernel
theorem dX2_readInto_35 : decode cX2_readInto 35 = .ok (.aload_n 1, 1) := by decide +kernel
theorem dX2_readInto_36 : decode cX2_readInto 36 = .ok (.iconst 0, 1) := by decide +kernel
theorem dX2_readInto_37 : decode cX2_readInto 37 = .ok (.invokevirtual 37, 3) := by decide +kernel
theorem dX2_readInto_40 : decode cX2_readInto 40 = .ok (.aload_n 0, 1) := by decide +kernel
theorem dX2_readInto_41 : decode cX2_readInto 41 = .ok (.bipush 59, 2) := by decide +kernel
theorem dX2_readInto_43 : decode cX2_readInto 43 = .ok (.invokevirtual 33, 3) := by decide +kernel
theorem dX2_readInto_46 : decode cX2_readInto 46 = .ok (.aload_n 1, 1) := by decide +kernel
theorem dX2_readInto_47 : decode cX2_readInto 47 = .ok (.iload_n 2, 1) := by decide +kernel
theorem dX2_readInto_48 : decode cX2_readInto 48 = .ok (.invokevirtual 41, 3) := by decide +kernel
theorem dX2_readInto_51 : decode cX2_readInto 51 = .ok (.iinc 2 1, 3) := by decide +kernel
theorem dX2_readInto_54 : decode cX2_readInto 54 = .ok (.goto (-34), 3) := by decide +kernel
theorem dX2_readInto_57 : decode cX2_readInto 57 = .ok (.aload_n 0, 1) := by decide +kernel
theorem dX2_readInto_58 : decode cX2_readInto 58 = .ok (.getfield 44, 3) := by decide +kernel
theorem dX2_readInto_61 : decode cX2_readInto 61 = .ok (.ifCond .eq 7, 3) := by decide +kernel
theorem dX2_readInto_64 : decode cX2_readInto 64 = .ok (.aload_n 0, 1) := by decide +kernel
theorem dX2_readInto_65 : decode cX2_readInto 65 = .ok (.invokevirtual 47, 3) := by decide +kernel
theorem dX2_readInto_68 : decode cX2_readInto 68 = .ok (.aload_n 0, 1) := by decide +kernel
theorem dX2_readInto_69 : decode cX2_readInto 69 = .ok (.iconst 0, 1) := by decide +kernel
theorem dX2_readInto_70 : decode cX2_readInto 70 = .ok (.putfield 15, 3) := by decide +kernel
theorem dX2_readInto_73 : decode cX2_readInto 73 = .ok (.aload_n 0, 1) := by decide +kernel
theorem dX2_readInto_74 : decode cX2_readInto 74 = .ok (.getfield 22, 3) := by decide +kernel
theorem dX2_readInto_77 : decode cX2_readInto 77 = .ok (.ireturn, 1) := by decide +kernel
set_option maxRecDepth 20000 in
theorem ggX2_expect_X2_step : GoodIn wsX2_expect wsX2_step := goodIn_r _ [6, 7, 8, 9, 1, 10, 11, 12, 5, 13, 14, 15, 16, 17, 18, 19, 20, 21, 22, 23, 24, 25, 26, 27, 28, 29, 30, 31, 32, 33, 34, 35, 36, 37, 38, 39, 40, 41, 42, 43, 44, 45, 46, 47, 48, 49, 50, 51, 52, 53, 54, 55, 56, 57, 58, 59, 60, 61, 62, 63, 64, 65, 66, 67, 68, 69, 70, 71, 72, 73, 74, 75, 76, 77, 78, 79, 80, 81, 82, 83, 84, 85, 86, 87, 88, 94, 95, 96, 97, 98, 99, 100] (by decide +kernel) (by decide +kernel)
set_option maxRecDepth 20000 in
theorem gX2_expect_X2_step : GoodIn wsX2_expect (wsV RX2 30 RX2 yX2_step wsX2_step) := goodIn_app (goodIn_of _ (by decide +kernel)) ggX2_expect_X2_step
set_option maxRecDepth 20000 in
theorem ggX2_expect_X2_fail : GoodIn wsX2_expect wsX2_fail := goodIn_r _ [92, 93, 9, 1, 94, 95, 96, 97, 98, 99, 100] (by decide +kernel) (by decide +kernel)
set_option maxRecDepth 20000 in
theorem gX2_expect_X2_fail : GoodIn wsX2_expect (wsV RX2 47 RX2 yX2_fail wsX2_fail) := goodIn_app (goodIn_of _ (by decide +kernel)) ggX2_expect_X2_fail
theorem dX2_expect_0 : decode cX2_expect 0 = .ok (.aload_n 0, 1) := by decide +kernel
theorem dX2_expect_1 : decode cX2_expect 1 = .ok (.getfield 44, 3) := by decide +kernel
theorem dX2_expect_4 : decode cX2_expect 4 = .ok (.iload_n 1, 1) := by decide +kernel
theorem dX2_expect_5 : decode cX2_expect 5 = .ok (.if_icmp .ne 10, 3) := by decide +kernel
theorem dX2_expect_8 : decode cX2_expect 8 = .ok (.aload_n 0, 1) := by decide +kernel
theorem dX2_expect_9 : decode cX2_expect 9 = .ok (.invokevirtual 30, 3) := by decide +kernel
theorem dX2_expect_12 : decode cX2_expect 12 = .ok (.goto 7, 3) := by decide +kernel
theorem dX2_expect_15 : decode cX2_expect 15 = .ok (.aload_n 0, 1) := by decide +kernel
theorem dX2_expect_16 : decode cX2_expect 16 = .ok (.invokevirtual 47, 3) := by decide +kernel
theorem dX2_expect_19 : decode cX2_expect 19 = .ok (.return_, 1) := by decide +kernel
theorem dX2_fail_0 : decode cX2_fail 0 = .ok (.aload_n 0, 1) := by decide +kernel
theorem dX2_fail_1 : decode cX2_fail 1 = .ok (.getfield 22, 3) := by decide +kernel
theorem dX2_fail_4 : decode cX2_fail 4 = .ok (.ifCond .ge 11, 3) := by decide +kernel
theorem dX2_fail_7 : decode cX2_fail 7 = .ok (.aload_n 0, 1) := by decide +kernel
theorem dX2_fail_8 : decode cX2_fail 8 = .ok (.aload_n 0, 1) := by decide +kernel
theorem dX2_fail_9 : decode cX2_fail 9 = .ok (.getfield 50, 3) := by decide +kernel
theorem dX2_fail_12 : decode cX2_fail 12 = .ok (.putfield 22, 3) := by decide +kernel
theorem dX2_fail_15 : decode cX2_fail 15 = .ok (.aload_n 0, 1) := by decide +kernel
theorem dX2_fail_16 : decode cX2_fail 16 = .ok (.iconst 1, 1) := by decide +kernel
theorem dX2_fail_17 : decode cX2_fail 17 = .ok (.putfield 44, 3) := by decide +kernel
theorem dX2_fail_20 : decode cX2_fail 20 = .ok (.return_, 1) := by decide +kernel
set_option maxRecDepth 20000 in
theorem ggX2_readEither_X2_readBoth : GoodIn wsX2_readEither wsX2_readBoth := goodIn_r _ [99, 1, 100, 101, 102, 5, 6, 7, 8, 9, 10, 11, 12, 13, 14, 15, 16, 17, 18, 19, 20, 21, 22, 23, 24, 25, 26, 27, 28, 29, 30, 31, 32, 33, 34, 35, 36, 37, 38, 39, 40, 41, 42, 43, 44, 45, 46, 47, 48, 49, 50, 51, 52, 53, 54, 55, 56, 57, 58, 59, 60, 61, 62, 63, 64, 65, 66, 67, 68, 69, 70, 71, 72, 73, 74, 75, 76, 77, 78, 79, 80, 81, 82, 83, 84, 85, 86, 87, 88, 89, 90, 91, 92, 93, 94, 95, 96, 97, 98, 0, 2, 3, 4, 103, 104, 105, 106, 107, 108, 109, 110, 111, 112, 113, 114, 115, 116, 117, 118, 119, 120, 121, 122, 123, 124, 125, 126, 127, 128, 129, 130, 131, 132, 133, 134, 135, 136, 137, 138, 139, 140, 141, 142] (by decide +kernel) (by decide +kernel)
set_option maxRecDepth 20000 in
theorem gX2_readEither_X2_readBoth : GoodIn wsX2_readEither (wsV RX2 53 RX2 yX2_readBoth wsX2_readBoth) := goodIn_app (goodIn_of _ (by decide +kernel)) ggX2_readEither_X2_readBoth
set_option maxRecDepth 20000 in
theorem ggX2_readEither_X2_step : GoodIn wsX2_readEither wsX2_step := goodIn_r _ [9, 10, 11, 12, 1, 13, 14, 15, 5, 16, 17, 18, 19, 20, 21, 22, 23, 24, 25, 26, 27, 28, 29, 30, 31, 32, 33, 34, 35, 36, 37, 38, 39, 40, 41, 42, 43, 44, 45, 46, 47, 48, 49, 50, 51, 52, 53, 54, 55, 56, 57, 58, 59, 60, 61, 62, 63, 64, 65, 66, 67, 68, 69, 70, 71, 72, 73, 74, 75, 76, 77, 78, 79, 80, 81, 82, 83, 84, 85, 86, 87, 88, 89, 90, 91, 132, 133, 134, 135, 136, 137, 138] (by decide +kernel) (by decide +kernel)
set_option maxRecDepth 20000 in
theorem gX2_readEither_X2_step : GoodIn wsX2_readEither (wsV RX2 30 RX2 yX2_step wsX2_step) := goodIn_app (goodIn_of _ (by decide +kernel)) ggX2_readEither_X2_step
set_option maxRecDepth 20000 in
theorem ggX2_readEither_X3_add : GoodIn wsX2_readEither wsX3_add := goodIn_r _ [96, 97, 98, 139, 140, 141, 142] (by decide +kernel) (by decide +kernel)
set_option maxRecDepth 20000 in
theorem gX2_readEither_X3_add : GoodIn wsX2_readEither (wsV RX2 56 RX3 yX3_add wsX3_add) := goodIn_app (goodIn_of _ (by decide +kernel)) ggX2_readEither_X3_add
theorem dX2_readEither_0 : decode cX2_readEither 0 = .ok (.aload_n 0, 1) := by decide +kernel
theorem dX2_readEither_1 : decode cX2_readEither 1 = .ok (.aload_n 1, 1) := by decide +kernel
theorem dX2_readEither_2 : decode cX2_readEither 2 = .ok (.iload_n 2, 1) := by decide +kernel
theorem dX2_readEither_3 : decode cX2_readEither 3 = .ok (.invokevirtual 53, 3) := by decide +kernel
theorem dX2_readEither_6 : decode cX2_readEither 6 = .ok (.iconst 0, 1) := by decide +kernel
theorem dX2_readEither_7 : decode cX2_readEither 7 = .ok (.istore_n 3, 1) := by decide +kernel
theorem dX2_readEither_8 : decode cX2_readEither 8 = .ok (.iload_n 3, 1) := by decide +kernel
theorem dX2_readEither_9 : decode cX2_readEither 9 = .ok (.sipush 160, 3) := by decide +kernel
theorem dX2_readEither_12 : decode cX2_readEither 12 = .ok (.if_icmp .ge 35, 3) := by decide +kernel
theorem dX2_readEither_15 : decode cX2_readEither 15 = .ok (.aload_n 0, 1) := by decide +kernel
theorem dX2_readEither_16 : decode cX2_readEither 16 = .ok (.getfield 44, 3) := by decide +kernel
theorem dX2_readEither_19 : decode cX2_readEither 19 = .ok (.sipush 259, 3) := by decide +kernel
theorem dX2_readEither_22 : decode cX2_readEither 22 = .ok (.if_icmp .ne 25, 3) := by decide +kernel
theorem dX2_readEither_25 : decode cX2_readEither 25 = .ok (.aload_n 0, 1) := by decide +kernel
theorem dX2_readEither_26 : decode cX2_readEither 26 = .ok (.invokevirtual 30, 3) := by decide +kernel
theorem dX2_readEither_29 : decode cX2_readEither 29 = .ok (.aload_n 0, 1) := by decide +kernel
theorem dX2_readEither_30 : decode cX2_readEither 30 = .ok (.aload_n 1, 1) := by decide +kernel
theorem dX2_readEither_31 : decode cX2_readEither 31 = .ok (.iload_n 2, 1) := by decide +kernel
theorem dX2_readEither_32 : decode cX2_readEither 32 = .ok (.invokevirtual 53, 3) := by decide +kernel
theorem dX2_readEither_35 : decode cX2_readEither 35 = .ok (.aload_n 1, 1) := by decide +kernel
theorem dX2_readEither_36 : decode cX2_readEither 36 = .ok (.bipush (-7), 2) := by decide +kernel
theorem dX2_readEither_38 : decode cX2_readEither 38 = .ok (.invokevirtual 56, 3) := by decide +kernel
theorem dX2_readEither_41 : decode cX2_readEither 41 = .ok (.iinc 3 1, 3) := by decide +kernel
theorem dX2_readEither_44 : decode cX2_readEither 44 = .ok (.goto (-36), 3) := by decide +kernel
theorem dX2_readEither_47 : decode cX2_readEither 47 = .ok (.return_, 1) := by decide +kernel
set_option maxRecDepth 20000 in
theorem ggX2_readBoth_X2_readNot : GoodIn wsX2_readBoth wsX2_readNot := goodIn_r _ [103, 1, 104, 105, 106, 5, 107, 108, 109, 110, 111, 112, 12, 6, 7, 8, 9, 10, 11, 13, 14, 15, 16, 17, 18, 19, 20, 21, 22, 23, 24, 25, 26, 27, 28, 29, 30, 31, 32, 33, 34, 35, 36, 37, 38, 39, 40, 41, 42, 43, 44, 45, 46, 47, 48, 49, 50, 51, 52, 53, 54, 55, 56, 57, 58, 59, 60, 61, 62, 63, 64, 65, 66, 67, 68, 69, 70, 71, 72, 73, 74, 75, 76, 77, 78, 79, 80, 81, 82, 83, 84, 85, 86, 87, 88, 89, 90, 91, 2, 3, 4, 92, 93, 94, 95, 96, 97, 98, 113, 114, 115, 0, 99, 100, 101, 102, 116, 117, 118, 119, 120, 121, 122, 123, 124, 125, 126, 127, 128, 129, 130, 131, 132, 133, 134, 135, 136, 137, 138, 139, 140, 141, 142] (by decide +kernel) (by decide +kernel)
set_option maxRecDepth 20000 in
theorem gX2_readBoth_X2_readNot : GoodIn wsX2_readBoth (wsV RX2 59 RX2 yX2_readNot wsX2_readNot) := goodIn_app (goodIn_of _ (by decide +kernel)) ggX2_readBoth_X2_readNot
set_option maxRecDepth 20000 in
theorem ggX2_readBoth_X2_step : GoodIn wsX2_readBoth wsX2_step := goodIn_r _ [9, 10, 11, 12, 1, 13, 14, 15, 5, 16, 17, 18, 19, 20, 21, 22, 23, 24, 25, 26, 27, 28, 29, 30, 31, 32, 33, 34, 35, 36, 37, 38, 39, 40, 41, 42, 43, 44, 45, 46, 47, 48, 49, 50, 51, 52, 53, 54, 55, 56, 57, 58, 59, 60, 61, 62, 63, 64, 65, 66, 67, 68, 69, 70, 71, 72, 73, 74, 75, 76, 77, 78, 79, 80, 81, 82, 83, 84, 85, 86, 87, 88, 89, 90, 91, 132, 133, 134, 135, 136, 137, 138] (by decide +kernel) (by decide +kernel)
set_option maxRecDepth 20000 in
theorem gX2_readBoth_X2_step : GoodIn wsX2_readBoth (wsV RX2 30 RX2 yX2_step wsX2_step) := goodIn_app (goodIn_of _ (by decide +kernel)) ggX2_readBoth_X2_step
set_option maxRecDepth 20000 in
theorem ggX2_readBoth_X3_add : GoodIn wsX2_readBoth wsX3_add := goodIn_r _ [96, 97, 98, 139, 140, 141, 142] (by decide +kernel) (by decide +kernel)
set_option maxRecDepth 20000 in
theorem gX2_readBoth_X3_add : GoodIn wsX2_readBoth (wsV RX2 56 RX3 yX3_add wsX3_add) := goodIn_app (goodIn_of _ (by decide +kernel)) ggX2_readBoth_X3_add
theorem dX2_readBoth_0 : decode cX2_readBoth 0 = .ok (.aload_n 0, 1) := by decide +kernel
theorem dX2_readBoth_1 : decode cX2_readBoth 1 = .ok (.aload_n 1, 1) := by decide +kernel
theorem dX2_readBoth_2 : decode cX2_readBoth 2 = .ok (.iload_n 2, 1) := by decide +kernel
theorem dX2_readBoth_3 : decode cX2_readBoth 3 = .ok (.invokevirtual 59, 3) := by decide +kernel
theorem dX2_readBoth_6 : decode cX2_readBoth 6 = .ok (.iconst 0, 1) := by decide +kernel
theorem dX2_readBoth_7 : decode cX2_readBoth 7 = .ok (.istore_n 3, 1) := by decide +kernel
theorem dX2_readBoth_8 : decode cX2_readBoth 8 = .ok (.iload_n 3, 1) := by decide +kernel
theorem dX2_readBoth_9 : decode cX2_readBoth 9 = .ok (.sipush 160, 3) := by decide +kernel
theorem dX2_readBoth_12 : decode cX2_readBoth 12 = .ok (.if_icmp .ge 35, 3) := by decide +kernel
theorem dX2_readBoth_15 : decode cX2_readBoth 15 = .ok (.aload_n 0, 1) := by decide +kernel
theorem dX2_readBoth_16 : decode cX2_readBoth 16 = .ok (.getfield 44, 3) := by decide +kernel
theorem dX2_readBoth_19 : decode cX2_readBoth 19 = .ok (.sipush 260, 3) := by decide +kernel
theorem dX2_readBoth_22 : decode cX2_readBoth 22 = .ok (.if_icmp .ne 25, 3) := by decide +kernel
theorem dX2_readBoth_25 : decode cX2_readBoth 25 = .ok (.aload_n 0, 1) := by decide +kernel
theorem dX2_readBoth_26 : decode cX2_readBoth 26 = .ok (.invokevirtual 30, 3) := by decide +kernel
theorem dX2_readBoth_29 : decode cX2_readBoth 29 = .ok (.aload_n 0, 1) := by decide +kernel
theorem dX2_readBoth_30 : decode cX2_readBoth 30 = .ok (.aload_n 1, 1) := by decide +kernel
theorem dX2_readBoth_31 : decode cX2_readBoth 31 = .ok (.iload_n 2, 1) := by decide +kernel
theorem dX2_readBoth_32 : decode cX2_readBoth 32 = .ok (.invokevirtual 59, 3) := by decide +kernel
theorem dX2_readBoth_35 : decode cX2_readBoth 35 = .ok (.aload_n 1, 1) := by decide +kernel
theorem dX2_readBoth_36 : decode cX2_readBoth 36 = .ok (.bipush (-8), 2) := by decide +kernel
theorem dX2_readBoth_38 : decode cX2_readBoth 38 = .ok (.invokevirtual 56, 3) := by decide +kernel
theorem dX2_readBoth_41 : decode cX2_readBoth 41 = .ok (.iinc 3 1, 3) := by decide +kernel
theorem dX2_readBoth_44 : decode cX2_readBoth 44 = .ok (.goto (-36), 3) := by decide +kernel
theorem dX2_readBoth_47 : decode cX2_readBoth 47 = .ok (.return_, 1) := by decide +kernel
set_option maxRecDepth 20000 in
theorem ggX2_readNot_X2_mayOpen : GoodIn wsX2_readNot wsX2_mayOpen := goodIn_r _ [6, 7, 8, 9, 5, 10, 11, 12, 1, 132, 133, 134, 135, 136, 137, 138] (by decide +kernel) (by decide +kernel)
set_option maxRecDepth 20000 in
theorem gX2_readNot_X2_mayOpen : GoodIn wsX2_readNot (wsV RX2 62 RX2 yX2_mayOpen wsX2_mayOpen) := goodIn_app (goodIn_of _ (by decide +kernel)) ggX2_readNot_X2_mayOpen
set_option maxRecDepth 20000 in
theorem ggX2_readNot_X2_step : GoodIn wsX2_readNot wsX2_step := goodIn_r _ [16, 17, 18, 12, 1, 19, 20, 21, 5, 22, 23, 24, 25, 26, 27, 28, 29, 30, 31, 32, 33, 34, 35, 36, 37, 38, 39, 40, 41, 42, 43, 44, 45, 46, 47, 48, 49, 50, 51, 52, 53, 54, 55, 56, 57, 58, 59, 60, 61, 62, 63, 64, 65, 66, 67, 68, 69, 70, 71, 72, 73, 74, 75, 76, 77, 78, 79, 80, 81, 82, 83, 84, 85, 86, 87, 88, 89, 90, 91, 92, 93, 94, 95, 96, 97, 132, 133, 134, 135, 136, 137, 138] (by decide +kernel) (by decide +kernel)
set_option maxRecDepth 20000 in
theorem gX2_readNot_X2_step : GoodIn wsX2_readNot (wsV RX2 30 RX2 yX2_step wsX2_step) := goodIn_app (goodIn_of _ (by decide +kernel)) ggX2_readNot_X2_step
set_option maxRecDepth 20000 in
theorem ggX2_readNot_X2_readNot : GoodIn wsX2_readNot wsX2_readNot := goodIn_r _ [0, 1, 2, 3, 4, 5, 6, 7, 8, 9, 10, 11, 12, 13, 14, 15, 16, 17, 18, 19, 20, 21, 22, 23, 24, 25, 26, 27, 28, 29, 30, 31, 32, 33, 34, 35, 36, 37, 38, 39, 40, 41, 42, 43, 44, 45, 46, 47, 48, 49, 50, 51, 52, 53, 54, 55, 56, 57, 58, 59, 60, 61, 62, 63, 64, 65, 66, 67, 68, 69, 70, 71, 72, 73, 74, 75, 76, 77, 78, 79, 80, 81, 82, 83, 84, 85, 86, 87, 88, 89, 90, 91, 92, 93, 94, 95, 96, 97, 98, 99, 100, 101, 102, 103, 104, 105, 106, 107, 108, 109, 110, 111, 112, 113, 114, 115, 116, 117, 118, 119, 120, 121, 122, 123, 124, 125, 126, 127, 128, 129, 130, 131, 132, 133, 134, 135, 136, 137, 138, 139, 140, 141, 142] (by decide +kernel) (by decide +kernel)
set_option maxRecDepth 20000 in
theorem gX2_readNot_X2_readNot : GoodIn wsX2_readNot (wsV RX2 59 RX2 yX2_readNot wsX2_readNot) := goodIn_app (goodIn_of _ (by decide +kernel)) ggX2_readNot_X2_readNot
set_option maxRecDepth 20000 in
theorem ggX2_readNot_X3_add : GoodIn wsX2_readNot wsX3_add := goodIn_r _ [105, 106, 107, 139, 140, 141, 142] (by decide +kernel) (by decide +kernel)
set_option maxRecDepth 20000 in
theorem gX2_readNot_X3_add : GoodIn wsX2_readNot (wsV RX2 56 RX3 yX3_add wsX3_add) := goodIn_app (goodIn_of _ (by decide +kernel)) ggX2_readNot_X3_add
set_option maxRecDepth 20000 in
theorem ggX2_readNot_X2_readSum : GoodIn wsX2_readNot wsX2_readSum := goodIn_r _ [127, 1, 128, 129, 130, 5, 13, 14, 15, 16, 17, 18, 12, 19, 20, 21, 22, 23, 24, 25, 26, 27, 28, 29, 30, 31, 32, 33, 34, 35, 36, 37, 38, 39, 40, 41, 42, 43, 44, 45, 46, 47, 48, 49, 50, 51, 52, 53, 54, 55, 56, 57, 58, 59, 60, 61, 62, 63, 64, 65, 66, 67, 68, 69, 70, 71, 72, 73, 74, 75, 76, 77, 78, 79, 80, 81, 82, 83, 84, 85, 86, 87, 88, 89, 90, 91, 92, 93, 94, 95, 96, 97, 101, 102, 103, 104, 105, 106, 107, 111, 98, 99, 100, 112, 113, 114, 115, 0, 2, 3, 4, 6, 7, 8, 9, 10, 11, 108, 109, 110, 116, 117, 118, 119, 120, 121, 122, 123, 124, 125, 126, 131, 132, 133, 134, 135, 136, 137, 138, 139, 140, 141, 142] (by decide +kernel) (by decide +kernel)
set_option maxRecDepth 20000 in
theorem gX2_readNot_X2_readSum : GoodIn wsX2_readNot (wsV RX2 66 RX2 yX2_readSum wsX2_readSum) := goodIn_app (goodIn_of _ (by decide +kernel)) ggX2_readNot_X2_readSum
theorem dX2_readNot_0 : decode cX2_readNot 0 = .ok (.aload_n 0, 1) := by decide +kernel
theorem dX2_readNot_1 : decode cX2_readNot 1 = .ok (.getfield 44, 3) := by decide +kernel
theorem dX2_readNot_4 : decode cX2_readNot 4 = .ok (.sipush 261, 3) := by decide +kernel
theorem dX2_readNot_7 : decode cX2_readNot 7 = .ok (.if_icmp .ne 30, 3) := by decide +kernel
theorem dX2_readNot_10 : decode cX2_readNot 10 = .ok (.aload_n 0, 1) := by decide +kernel
theorem dX2_readNot_11 : decode cX2_readNot 11 = .ok (.iload_n 2, 1) := by decide +kernel
theorem dX2_readNot_12 : decode cX2_readNot 12 = .ok (.invokevirtual 62, 3) := by decide +kernel
theorem dX2_readNot_15 : decode cX2_readNot 15 = .ok (.ifCond .eq 21, 3) := by decide +kernel
theorem dX2_readNot_18 : decode cX2_readNot 18 = .ok (.aload_n 0, 1) := by decide +kernel
theorem dX2_readNot_19 : decode cX2_readNot 19 = .ok (.invokevirtual 30, 3) := by decide +kernel
theorem dX2_readNot_22 : decode cX2_readNot 22 = .ok (.aload_n 0, 1) := by decide +kernel
theorem dX2_readNot_23 : decode cX2_readNot 23 = .ok (.aload_n 1, 1) := by decide +kernel
theorem dX2_readNot_24 : decode cX2_readNot 24 = .ok (.iload_n 2, 1) := by decide +kernel
theorem dX2_readNot_25 : decode cX2_readNot 25 = .ok (.iconst 1, 1) := by decide +kernel
theorem dX2_readNot_26 : decode cX2_readNot 26 = .ok (.iadd, 1) := by decide +kernel
theorem dX2_readNot_27 : decode cX2_readNot 27 = .ok (.invokevirtual 59, 3) := by decide +kernel
theorem dX2_readNot_30 : decode cX2_readNot 30 = .ok (.aload_n 1, 1) := by decide +kernel
theorem dX2_readNot_31 : decode cX2_readNot 31 = .ok (.bipush (-9), 2) := by decide +kernel
theorem dX2_readNot_33 : decode cX2_readNot 33 = .ok (.invokevirtual 56, 3) := by decide +kernel
theorem dX2_readNot_36 : decode cX2_readNot 36 = .ok (.return_, 1) := by decide +kernel
theorem dX2_readNot_37 : decode cX2_readNot 37 = .ok (.aload_n 0, 1) := by decide +kernel
theorem dX2_readNot_38 : decode cX2_readNot 38 = .ok (.aload_n 1, 1) := by decide +kernel
theorem dX2_readNot_39 : decode cX2_readNot 39 = .ok (.iload_n 2, 1) := by decide +kernel
theorem dX2_readNot_40 : decode cX2_readNot 40 = .ok (.invokevirtual 66, 3) := by decide +kernel
theorem dX2_readNot_43 : decode cX2_readNot 43 = .ok (.aload_n 0, 1) := by decide +kernel
theorem dX2_readNot_44 : decode cX2_readNot 44 = .ok (.getfield 44, 3) := by decide +kernel
theorem dX2_readNot_47 : decode cX2_readNot 47 = .ok (.bipush 60, 2) := by decide +kernel
theorem dX2_readNot_49 : decode cX2_readNot 49 = .ok (.if_icmp .eq 12, 3) := by decide +kernel
theorem dX2_readNot_52 : decode cX2_readNot 52 = .ok (.aload_n 0, 1) := by decide +kernel
theorem dX2_readNot_53 : decode cX2_readNot 53 = .ok (.getfield 44, 3) := by decide +kernel
theorem dX2_readNot_56 : decode cX2_readNot 56 = .ok (.bipush 61, 2) := by decide +kernel
theorem dX2_readNot_58 : decode cX2_readNot 58 = .ok (.if_icmp .ne 35, 3) := by decide +kernel
theorem dX2_readNot_61 : decode cX2_readNot 61 = .ok (.aload_n 0, 1) := by decide +kernel
theorem dX2_readNot_62 : decode cX2_readNot 62 = .ok (.getfield 44, 3) := by decide +kernel
theorem dX2_readNot_65 : decode cX2_readNot 65 = .ok (.bipush 60, 2) := by decide +kernel
theorem dX2_readNot_67 : decode cX2_readNot 67 = .ok (.if_icmp .ne 8, 3) := by decide +kernel
theorem dX2_readNot_70 : decode cX2_readNot 70 = .ok (.bipush (-10), 2) := by decide +kernel
theorem dX2_readNot_72 : decode cX2_readNot 72 = .ok (.goto 5, 3) := by decide +kernel
theorem dX2_readNot_75 : decode cX2_readNot 75 = .ok (.bipush (-11), 2) := by decide +kernel
theorem dX2_readNot_77 : decode cX2_readNot 77 = .ok (.istore_n 3, 1) := by decide +kernel
theorem dX2_readNot_78 : decode cX2_readNot 78 = .ok (.aload_n 0, 1) := by decide +kernel
theorem dX2_readNot_79 : decode cX2_readNot 79 = .ok (.invokevirtual 30, 3) := by decide +kernel
theorem dX2_readNot_82 : decode cX2_readNot 82 = .ok (.aload_n 0, 1) := by decide +kernel
theorem dX2_readNot_83 : decode cX2_readNot 83 = .ok (.aload_n 1, 1) := by decide +kernel
theorem dX2_readNot_84 : decode cX2_readNot 84 = .ok (.iload_n 2, 1) := by decide +kernel
theorem dX2_readNot_85 : decode cX2_readNot 85 = .ok (.invokevirtual 66, 3) := by decide +kernel
theorem dX2_readNot_88 : decode cX2_readNot 88 = .ok (.aload_n 1, 1) := by decide +kernel
theorem dX2_readNot_89 : decode cX2_readNot 89 = .ok (.iload_n 3, 1) := by decide +kernel
theorem dX2_readNot_90 : decode cX2_readNot 90 = .ok (.invokevirtual 56, 3) := by decide +kernel
theorem dX2_readNot_93 : decode cX2_readNot 93 = .ok (.return_, 1) := by decide +kernel
set_option maxRecDepth 20000 in
theorem ggX2_readSum_X2_readTerm : GoodIn wsX2_readSum wsX2_readTerm := goodIn_r _ [131, 1, 121, 122, 123, 5, 6, 7, 8, 9, 10, 11, 12, 13, 14, 15, 16, 17, 18, 19, 20, 21, 22, 23, 24, 25, 26, 27, 28, 29, 30, 31, 32, 33, 34, 35, 36, 37, 38, 39, 40, 41, 42, 43, 44, 45, 46, 47, 48, 49, 50, 51, 52, 53, 54, 55, 56, 57, 58, 59, 60, 61, 62, 63, 64, 65, 66, 67, 68, 69, 70, 71, 72, 73, 74, 75, 76, 77, 78, 79, 80, 81, 82, 83, 84, 85, 86, 87, 88, 89, 90, 91, 92, 93, 94, 95, 96, 97, 98, 99, 100, 101, 102, 103, 104, 105, 106, 107, 108, 109, 110, 111, 112, 113, 114, 115, 116, 117, 118, 119, 120, 124, 125, 126, 127, 128, 129, 130, 0, 2, 3, 4, 132, 133, 134, 135, 136, 137, 138, 139, 140, 141, 142] (by decide +kernel) (by decide +kernel)
set_option maxRecDepth 20000 in
theorem gX2_readSum_X2_readTerm : GoodIn wsX2_readSum (wsV RX2 69 RX2 yX2_readTerm wsX2_readTerm) := goodIn_app (goodIn_of _ (by decide +kernel)) ggX2_readSum_X2_readTerm
set_option maxRecDepth 20000 in
theorem ggX2_readSum_X2_step : GoodIn wsX2_readSum wsX2_step := goodIn_r _ [9, 10, 11, 12, 1, 13, 14, 15, 5, 16, 17, 18, 19, 20, 21, 22, 23, 24, 25, 26, 27, 28, 29, 30, 31, 32, 33, 34, 35, 36, 37, 38, 39, 40, 41, 42, 43, 44, 45, 46, 47, 48, 49, 50, 51, 52, 53, 54, 55, 56, 57, 58, 59, 60, 61, 62, 63, 64, 65, 66, 67, 68, 69, 70, 71, 72, 73, 74, 75, 76, 77, 78, 79, 80, 81, 82, 83, 84, 85, 86, 87, 88, 89, 90, 91, 132, 133, 134, 135, 136, 137, 138] (by decide +kernel) (by decide +kernel)
set_option maxRecDepth 20000 in
theorem gX2_readSum_X2_step : GoodIn wsX2_readSum (wsV RX2 30 RX2 yX2_step wsX2_step) := goodIn_app (goodIn_of _ (by decide +kernel)) ggX2_readSum_X2_step
set_option maxRecDepth 20000 in
theorem ggX2_readSum_X3_add : GoodIn wsX2_readSum wsX3_add := goodIn_r _ [96, 97, 98, 139, 140, 141, 142] (by decide +kernel) (by decide +kernel)
set_option maxRecDepth 20000 in
theorem gX2_readSum_X3_add : GoodIn wsX2_readSum (wsV RX2 56 RX3 yX3_add wsX3_add) := goodIn_app (goodIn_of _ (by decide +kernel)) ggX2_readSum_X3_add
theorem dX2_readSum_0 : decode cX2_readSum 0 = .ok (.aload_n 0, 1) := by decide +kernel
theorem dX2_readSum_1 : decode cX2_readSum 1 = .ok (.aload_n 1, 1) := by decide +kernel
theorem dX2_readSum_2 : decode cX2_readSum 2 = .ok (.iload_n 2, 1) := by decide +kernel
theorem dX2_readSum_3 : decode cX2_readSum 3 = .ok (.invokevirtual 69, 3) := by decide +kernel
theorem dX2_readSum_6 : decode cX2_readSum 6 = .ok (.iconst 0, 1) := by decide +kernel
theorem dX2_readSum_7 : decode cX2_readSum 7 = .ok (.istore_n 3, 1) := by decide +kernel
theorem dX2_readSum_8 : decode cX2_readSum 8 = .ok (.iload_n 3, 1) := by decide +kernel
theorem dX2_readSum_9 : decode cX2_readSum 9 = .ok (.sipush 160, 3) := by decide +kernel
theorem dX2_readSum_12 : decode cX2_readSum 12 = .ok (.if_icmp .ge 61, 3) := by decide +kernel
theorem dX2_readSum_15 : decode cX2_readSum 15 = .ok (.aload_n 0, 1) := by decide +kernel
theorem dX2_readSum_16 : decode cX2_readSum 16 = .ok (.getfield 44, 3) := by decide +kernel
theorem dX2_readSum_19 : decode cX2_readSum 19 = .ok (.bipush 43, 2) := by decide +kernel
theorem dX2_readSum_21 : decode cX2_readSum 21 = .ok (.if_icmp .eq 12, 3) := by decide +kernel
theorem dX2_readSum_24 : decode cX2_readSum 24 = .ok (.aload_n 0, 1) := by decide +kernel
theorem dX2_readSum_25 : decode cX2_readSum 25 = .ok (.getfield 44, 3) := by decide +kernel
theorem dX2_readSum_28 : decode cX2_readSum 28 = .ok (.bipush 45, 2) := by decide +kernel
theorem dX2_readSum_30 : decode cX2_readSum 30 = .ok (.if_icmp .ne 43, 3) := by decide +kernel
theorem dX2_readSum_33 : decode cX2_readSum 33 = .ok (.aload_n 0, 1) := by decide +kernel
theorem dX2_readSum_34 : decode cX2_readSum 34 = .ok (.getfield 44, 3) := by decide +kernel
theorem dX2_readSum_37 : decode cX2_readSum 37 = .ok (.bipush 43, 2) := by decide +kernel
theorem dX2_readSum_39 : decode cX2_readSum 39 = .ok (.if_icmp .ne 8, 3) := by decide +kernel
theorem dX2_readSum_42 : decode cX2_readSum 42 = .ok (.bipush (-12), 2) := by decide +kernel
theorem dX2_readSum_44 : decode cX2_readSum 44 = .ok (.goto 5, 3) := by decide +kernel
theorem dX2_readSum_47 : decode cX2_readSum 47 = .ok (.bipush (-13), 2) := by decide +kernel
theorem dX2_readSum_49 : decode cX2_readSum 49 = .ok (.istore 4, 2) := by decide +kernel
theorem dX2_readSum_51 : decode cX2_readSum 51 = .ok (.aload_n 0, 1) := by decide +kernel
theorem dX2_readSum_52 : decode cX2_readSum 52 = .ok (.invokevirtual 30, 3) := by decide +kernel
theorem dX2_readSum_55 : decode cX2_readSum 55 = .ok (.aload_n 0, 1) := by decide +kernel
theorem dX2_readSum_56 : decode cX2_readSum 56 = .ok (.aload_n 1, 1) := by decide +kernel
theorem dX2_readSum_57 : decode cX2_readSum 57 = .ok (.iload_n 2, 1) := by decide +kernel
theorem dX2_readSum_58 : decode cX2_readSum 58 = .ok (.invokevirtual 69, 3) := by decide +kernel
theorem dX2_readSum_61 : decode cX2_readSum 61 = .ok (.aload_n 1, 1) := by decide +kernel
theorem dX2_readSum_62 : decode cX2_readSum 62 = .ok (.iload 4, 2) := by decide +kernel
theorem dX2_readSum_64 : decode cX2_readSum 64 = .ok (.invokevirtual 56, 3) := by decide +kernel
theorem dX2_readSum_67 : decode cX2_readSum 67 = .ok (.iinc 3 1, 3) := by decide +kernel
theorem dX2_readSum_70 : decode cX2_readSum 70 = .ok (.goto (-62), 3) := by decide +kernel
theorem dX2_readSum_73 : decode cX2_readSum 73 = .ok (.return_, 1) := by decide +kernel
set_option maxRecDepth 20000 in
theorem ggX2_readTerm_X2_readOne : GoodIn wsX2_readTerm wsX2_readOne := goodIn_r _ [120, 1, 88, 92, 93, 94, 95, 96, 97, 98, 6, 7, 8, 5, 9, 10, 11, 12, 13, 14, 15, 16, 17, 18, 19, 20, 21, 22, 23, 24, 25, 26, 27, 28, 29, 30, 31, 32, 33, 34, 35, 36, 37, 38, 39, 40, 41, 42, 43, 44, 45, 46, 47, 48, 49, 50, 51, 52, 53, 54, 55, 56, 57, 58, 59, 60, 61, 62, 63, 64, 65, 66, 67, 68, 69, 70, 71, 72, 73, 74, 75, 76, 77, 78, 79, 80, 81, 82, 83, 84, 85, 86, 87, 89, 90, 91, 108, 109, 110, 111, 112, 113, 114, 115, 116, 2, 3, 4, 121, 122, 123, 124, 125, 126, 127, 99, 100, 101, 102, 103, 104, 105, 106, 107, 117, 118, 119, 128, 129, 130, 131, 0, 132, 133, 134, 135, 136, 137, 138, 139, 140, 141, 142] (by decide +kernel) (by decide +kernel)
set_option maxRecDepth 20000 in
theorem gX2_readTerm_X2_readOne : GoodIn wsX2_readTerm (wsV RX2 72 RX2 yX2_readOne wsX2_readOne) := goodIn_app (goodIn_of _ (by decide +kernel)) ggX2_readTerm_X2_readOne
set_option maxRecDepth 20000 in
theorem ggX2_readTerm_X2_step : GoodIn wsX2_readTerm wsX2_step := goodIn_r _ [9, 10, 11, 12, 1, 13, 14, 15, 5, 16, 17, 18, 19, 20, 21, 22, 23, 24, 25, 26, 27, 28, 29, 30, 31, 32, 33, 34, 35, 36, 37, 38, 39, 40, 41, 42, 43, 44, 45, 46, 47, 48, 49, 50, 51, 52, 53, 54, 55, 56, 57, 58, 59, 60, 61, 62, 63, 64, 65, 66, 67, 68, 69, 70, 71, 72, 73, 74, 75, 76, 77, 78, 79, 80, 81, 82, 83, 84, 85, 86, 87, 88, 89, 90, 91, 132, 133, 134, 135, 136, 137, 138] (by decide +kernel) (by decide +kernel)
set_option maxRecDepth 20000 in
theorem gX2_readTerm_X2_step : GoodIn wsX2_readTerm (wsV RX2 30 RX2 yX2_step wsX2_step) := goodIn_app (goodIn_of _ (by decide +kernel)) ggX2_readTerm_X2_step
set_option maxRecDepth 20000 in
theorem ggX2_readTerm_X3_add : GoodIn wsX2_readTerm wsX3_add := goodIn_r _ [96, 97, 98, 139, 140, 141, 142] (by decide +kernel) (by decide +kernel)
set_option maxRecDepth 20000 in
theorem gX2_readTerm_X3_add : GoodIn wsX2_readTerm (wsV RX2 56 RX3 yX3_add wsX3_add) := goodIn_app (goodIn_of _ (by decide +kernel)) ggX2_readTerm_X3_add
theorem dX2_readTerm_0 : decode cX2_readTerm 0 = .ok (.aload_n 0, 1) := by decide +kernel
theorem dX2_readTerm_1 : decode cX2_readTerm 1 = .ok (.aload_n 1, 1) := by decide +kernel
theorem dX2_readTerm_2 : decode cX2_readTerm 2 = .ok (.iload_n 2, 1) := by decide +kernel
theorem dX2_readTerm_3 : decode cX2_readTerm 3 = .ok (.invokevirtual 72, 3) := by decide +kernel
theorem dX2_readTerm_6 : decode cX2_readTerm 6 = .ok (.iconst 0, 1) := by decide +kernel
theorem dX2_readTerm_7 : decode cX2_readTerm 7 = .ok (.istore_n 3, 1) := by decide +kernel
theorem dX2_readTerm_8 : decode cX2_readTerm 8 = .ok (.iload_n 3, 1) := by decide +kernel
theorem dX2_readTerm_9 : decode cX2_readTerm 9 = .ok (.sipush 160, 3) := by decide +kernel
theorem dX2_readTerm_12 : decode cX2_readTerm 12 = .ok (.if_icmp .ge 34, 3) := by decide +kernel
theorem dX2_readTerm_15 : decode cX2_readTerm 15 = .ok (.aload_n 0, 1) := by decide +kernel
theorem dX2_readTerm_16 : decode cX2_readTerm 16 = .ok (.getfield 44, 3) := by decide +kernel
theorem dX2_readTerm_19 : decode cX2_readTerm 19 = .ok (.bipush 42, 2) := by decide +kernel
theorem dX2_readTerm_21 : decode cX2_readTerm 21 = .ok (.if_icmp .ne 25, 3) := by decide +kernel
theorem dX2_readTerm_24 : decode cX2_readTerm 24 = .ok (.aload_n 0, 1) := by decide +kernel
theorem dX2_readTerm_25 : decode cX2_readTerm 25 = .ok (.invokevirtual 30, 3) := by decide +kernel
theorem dX2_readTerm_28 : decode cX2_readTerm 28 = .ok (.aload_n 0, 1) := by decide +kernel
theorem dX2_readTerm_29 : decode cX2_readTerm 29 = .ok (.aload_n 1, 1) := by decide +kernel
theorem dX2_readTerm_30 : decode cX2_readTerm 30 = .ok (.iload_n 2, 1) := by decide +kernel
theorem dX2_readTerm_31 : decode cX2_readTerm 31 = .ok (.invokevirtual 72, 3) := by decide +kernel
theorem dX2_readTerm_34 : decode cX2_readTerm 34 = .ok (.aload_n 1, 1) := by decide +kernel
theorem dX2_readTerm_35 : decode cX2_readTerm 35 = .ok (.bipush (-14), 2) := by decide +kernel
theorem dX2_readTerm_37 : decode cX2_readTerm 37 = .ok (.invokevirtual 56, 3) := by decide +kernel
theorem dX2_readTerm_40 : decode cX2_readTerm 40 = .ok (.iinc 3 1, 3) := by decide +kernel
theorem dX2_readTerm_43 : decode cX2_readTerm 43 = .ok (.goto (-35), 3) := by decide +kernel
theorem dX2_readTerm_46 : decode cX2_readTerm 46 = .ok (.return_, 1) := by decide +kernel
set_option maxRecDepth 20000 in
theorem ggX2_readOne_X3_add : GoodIn wsX2_readOne wsX3_add := goodIn_r _ [7, 8, 9, 139, 140, 141, 142] (by decide +kernel) (by decide +kernel)
set_option maxRecDepth 20000 in
theorem gX2_readOne_X3_add : GoodIn wsX2_readOne (wsV RX2 56 RX3 yX3_add wsX3_add) := goodIn_app (goodIn_of _ (by decide +kernel)) ggX2_readOne_X3_add
set_option maxRecDepth 20000 in
theorem ggX2_readOne_X2_step : GoodIn wsX2_readOne wsX2_step := goodIn_r _ [14, 15, 16, 17, 1, 18, 19, 20, 13, 21, 22, 23, 24, 25, 26, 27, 28, 29, 30, 31, 32, 33, 34, 35, 36, 37, 38, 39, 40, 41, 42, 43, 44, 45, 46, 47, 48, 49, 50, 51, 52, 53, 54, 55, 56, 57, 58, 59, 60, 61, 62, 63, 64, 65, 66, 67, 68, 69, 70, 71, 72, 73, 74, 75, 76, 77, 78, 79, 80, 81, 82, 83, 84, 85, 86, 87, 88, 89, 90, 91, 92, 2, 93, 94, 95, 132, 133, 134, 135, 136, 137, 138] (by decide +kernel) (by decide +kernel)
set_option maxRecDepth 20000 in
theorem gX2_readOne_X2_step : GoodIn wsX2_readOne (wsV RX2 30 RX2 yX2_step wsX2_step) := goodIn_app (goodIn_of _ (by decide +kernel)) ggX2_readOne_X2_step
set_option maxRecDepth 20000 in
theorem ggX2_readOne_X2_mayOpen : GoodIn wsX2_readOne wsX2_mayOpen := goodIn_r _ [99, 100, 101, 102, 13, 103, 104, 17, 1, 132, 133, 134, 135, 136, 137, 138] (by decide +kernel) (by decide +kernel)
set_option maxRecDepth 20000 in
theorem gX2_readOne_X2_mayOpen : GoodIn wsX2_readOne (wsV RX2 62 RX2 yX2_mayOpen wsX2_mayOpen) := goodIn_app (goodIn_of _ (by decide +kernel)) ggX2_readOne_X2_mayOpen
set_option maxRecDepth 20000 in
theorem ggX2_readOne_X2_readOne : GoodIn wsX2_readOne wsX2_readOne := goodIn_r _ [0, 1, 2, 3, 4, 5, 6, 7, 8, 9, 10, 11, 12, 13, 14, 15, 16, 17, 18, 19, 20, 21, 22, 23, 24, 25, 26, 27, 28, 29, 30, 31, 32, 33, 34, 35, 36, 37, 38, 39, 40, 41, 42, 43, 44, 45, 46, 47, 48, 49, 50, 51, 52, 53, 54, 55, 56, 57, 58, 59, 60, 61, 62, 63, 64, 65, 66, 67, 68, 69, 70, 71, 72, 73, 74, 75, 76, 77, 78, 79, 80, 81, 82, 83, 84, 85, 86, 87, 88, 89, 90, 91, 92, 93, 94, 95, 96, 97, 98, 99, 100, 101, 102, 103, 104, 105, 106, 107, 108, 109, 110, 111, 112, 113, 114, 115, 116, 117, 118, 119, 120, 121, 122, 123, 124, 125, 126, 127, 128, 129, 130, 131, 132, 133, 134, 135, 136, 137, 138, 139, 140, 141, 142] (by decide +kernel) (by decide +kernel)
set_option maxRecDepth 20000 in
theorem gX2_readOne_X2_readOne : GoodIn wsX2_readOne (wsV RX2 72 RX2 yX2_readOne wsX2_readOne) := goodIn_app (goodIn_of _ (by decide +kernel)) ggX2_readOne_X2_readOne
set_option maxRecDepth 20000 in
theorem ggX2_readOne_X2_readEither : GoodIn wsX2_readOne wsX2_readEither := goodIn_r _ [119, 1, 120, 121, 122, 13, 10, 11, 12, 14, 15, 16, 17, 18, 19, 20, 21, 22, 23, 24, 25, 26, 27, 28, 29, 30, 31, 32, 33, 34, 35, 36, 37, 38, 39, 40, 41, 42, 43, 44, 45, 46, 47, 48, 49, 50, 51, 52, 53, 54, 55, 56, 57, 58, 59, 60, 61, 62, 63, 64, 65, 66, 67, 68, 69, 70, 71, 72, 73, 74, 75, 76, 77, 78, 79, 80, 81, 82, 83, 84, 85, 86, 87, 88, 89, 90, 91, 92, 2, 93, 94, 95, 3, 4, 5, 6, 7, 8, 9, 115, 116, 117, 118, 123, 96, 97, 98, 99, 100, 101, 102, 103, 104, 124, 125, 126, 0, 105, 106, 107, 108, 109, 110, 111, 112, 113, 114, 127, 128, 129, 130, 131, 132, 133, 134, 135, 136, 137, 138, 139, 140, 141, 142] (by decide +kernel) (by decide +kernel)
set_option maxRecDepth 20000 in
theorem gX2_readOne_X2_readEither : GoodIn wsX2_readOne (wsV RX2 37 RX2 yX2_readEither wsX2_readEither) := goodIn_app (goodIn_of _ (by decide +kernel)) ggX2_readOne_X2_readEither
set_option maxRecDepth 20000 in
theorem ggX2_readOne_X2_expect : GoodIn wsX2_readOne wsX2_expect := goodIn_r _ [114, 1, 10, 11, 12, 13, 14, 15, 16, 17, 18, 19, 20, 21, 22, 23, 24, 25, 26, 27, 28, 29, 30, 31, 32, 33, 34, 35, 36, 37, 38, 39, 40, 41, 42, 43, 44, 45, 46, 47, 48, 49, 50, 51, 52, 53, 54, 55, 56, 57, 58, 59, 60, 61, 62, 63, 64, 65, 66, 67, 68, 69, 70, 71, 72, 73, 74, 75, 76, 77, 78, 79, 80, 81, 82, 83, 84, 85, 86, 87, 88, 89, 90, 91, 92, 2, 93, 94, 95, 100, 101, 102, 103, 104, 132, 133, 134, 135, 136, 137, 138] (by decide +kernel) (by decide +kernel)
set_option maxRecDepth 20000 in
theorem gX2_readOne_X2_expect : GoodIn wsX2_readOne (wsV RX2 33 RX2 yX2_expect wsX2_expect) := goodIn_app (goodIn_of _ (by decide +kernel)) ggX2_readOne_X2_expect
set_option maxRecDepth 20000 in
theorem ggX2_readOne_X2_fail : GoodIn wsX2_readOne wsX2_fail := goodIn_r _ [103, 104, 17, 1, 132, 133, 134, 135, 136, 137, 138] (by decide +kernel) (by decide +kernel)
set_option maxRecDepth 20000 in
theorem gX2_readOne_X2_fail : GoodIn wsX2_readOne (wsV RX2 47 RX2 yX2_fail wsX2_fail) := goodIn_app (goodIn_of _ (by decide +kernel)) ggX2_readOne_X2_fail
theorem dX2_readOne_0 : decode cX2_readOne 0 = .ok (.aload_n 0, 1) := by decide +kernel
theorem dX2_readOne_1 : decode cX2_readOne 1 = .ok (.getfield 44, 3) := by decide +kernel
theorem dX2_readOne_4 : decode cX2_readOne 4 = .ok (.iconst 2, 1) := by decide +kernel
theorem dX2_readOne_5 : decode cX2_readOne 5 = .ok (.if_icmp .ne 18, 3) := by decide +kernel
theorem dX2_readOne_8 : decode cX2_readOne 8 = .ok (.aload_n 1, 1) := by decide +kernel
theorem dX2_readOne_9 : decode cX2_readOne 9 = .ok (.aload_n 0, 1) := by decide +kernel
theorem dX2_readOne_10 : decode cX2_readOne 10 = .ok (.getfield 75, 3) := by decide +kernel
theorem dX2_readOne_13 : decode cX2_readOne 13 = .ok (.invokevirtual 56, 3) := by decide +kernel
theorem dX2_readOne_16 : decode cX2_readOne 16 = .ok (.aload_n 0, 1) := by decide +kernel
theorem dX2_readOne_17 : decode cX2_readOne 17 = .ok (.invokevirtual 30, 3) := by decide +kernel
theorem dX2_readOne_20 : decode cX2_readOne 20 = .ok (.goto 105, 3) := by decide +kernel
theorem dX2_readOne_23 : decode cX2_readOne 23 = .ok (.aload_n 0, 1) := by decide +kernel
theorem dX2_readOne_24 : decode cX2_readOne 24 = .ok (.getfield 44, 3) := by decide +kernel
theorem dX2_readOne_27 : decode cX2_readOne 27 = .ok (.ifCond .ge 18, 3) := by decide +kernel
theorem dX2_readOne_30 : decode cX2_readOne 30 = .ok (.aload_n 1, 1) := by decide +kernel
theorem dX2_readOne_31 : decode cX2_readOne 31 = .ok (.aload_n 0, 1) := by decide +kernel
theorem dX2_readOne_32 : decode cX2_readOne 32 = .ok (.getfield 44, 3) := by decide +kernel
theorem dX2_readOne_35 : decode cX2_readOne 35 = .ok (.invokevirtual 56, 3) := by decide +kernel
theorem dX2_readOne_38 : decode cX2_readOne 38 = .ok (.aload_n 0, 1) := by decide +kernel
theorem dX2_readOne_39 : decode cX2_readOne 39 = .ok (.invokevirtual 30, 3) := by decide +kernel
theorem dX2_readOne_42 : decode cX2_readOne 42 = .ok (.goto 83, 3) := by decide +kernel
theorem dX2_readOne_45 : decode cX2_readOne 45 = .ok (.aload_n 0, 1) := by decide +kernel
theorem dX2_readOne_46 : decode cX2_readOne 46 = .ok (.getfield 44, 3) := by decide +kernel
theorem dX2_readOne_49 : decode cX2_readOne 49 = .ok (.bipush 45, 2) := by decide +kernel
theorem dX2_readOne_51 : decode cX2_readOne 51 = .ok (.if_icmp .ne 32, 3) := by decide +kernel
theorem dX2_readOne_54 : decode cX2_readOne 54 = .ok (.aload_n 0, 1) := by decide +kernel
theorem dX2_readOne_55 : decode cX2_readOne 55 = .ok (.iload_n 2, 1) := by decide +kernel
theorem dX2_readOne_56 : decode cX2_readOne 56 = .ok (.invokevirtual 62, 3) := by decide +kernel
theorem dX2_readOne_59 : decode cX2_readOne 59 = .ok (.ifCond .eq 66, 3) := by decide +kernel
theorem dX2_readOne_62 : decode cX2_readOne 62 = .ok (.aload_n 0, 1) := by decide +kernel
theorem dX2_readOne_63 : decode cX2_readOne 63 = .ok (.invokevirtual 30, 3) := by decide +kernel
theorem dX2_readOne_66 : decode cX2_readOne 66 = .ok (.aload_n 0, 1) := by decide +kernel
theorem dX2_readOne_67 : decode cX2_readOne 67 = .ok (.aload_n 1, 1) := by decide +kernel
theorem dX2_readOne_68 : decode cX2_readOne 68 = .ok (.iload_n 2, 1) := by decide +kernel
theorem dX2_readOne_69 : decode cX2_readOne 69 = .ok (.iconst 1, 1) := by decide +kernel
theorem dX2_readOne_70 : decode cX2_readOne 70 = .ok (.iadd, 1) := by decide +kernel
theorem dX2_readOne_71 : decode cX2_readOne 71 = .ok (.invokevirtual 72, 3) := by decide +kernel
theorem dX2_readOne_74 : decode cX2_readOne 74 = .ok (.aload_n 1, 1) := by decide +kernel
theorem dX2_readOne_75 : decode cX2_readOne 75 = .ok (.bipush (-15), 2) := by decide +kernel
theorem dX2_readOne_77 : decode cX2_readOne 77 = .ok (.invokevirtual 56, 3) := by decide +kernel
theorem dX2_readOne_80 : decode cX2_readOne 80 = .ok (.goto 45, 3) := by decide +kernel
theorem dX2_readOne_83 : decode cX2_readOne 83 = .ok (.aload_n 0, 1) := by decide +kernel
theorem dX2_readOne_84 : decode cX2_readOne 84 = .ok (.getfield 44, 3) := by decide +kernel
theorem dX2_readOne_87 : decode cX2_readOne 87 = .ok (.bipush 40, 2) := by decide +kernel
theorem dX2_readOne_89 : decode cX2_readOne 89 = .ok (.if_icmp .ne 32, 3) := by decide +kernel
theorem dX2_readOne_92 : decode cX2_readOne 92 = .ok (.aload_n 0, 1) := by decide +kernel
theorem dX2_readOne_93 : decode cX2_readOne 93 = .ok (.iload_n 2, 1) := by decide +kernel
theorem dX2_readOne_94 : decode cX2_readOne 94 = .ok (.invokevirtual 62, 3) := by decide +kernel
theorem dX2_readOne_97 : decode cX2_readOne 97 = .ok (.ifCond .eq 28, 3) := by decide +kernel
theorem dX2_readOne_100 : decode cX2_readOne 100 = .ok (.aload_n 0, 1) := by decide +kernel
theorem dX2_readOne_101 : decode cX2_readOne 101 = .ok (.invokevirtual 30, 3) := by decide +kernel
theorem dX2_readOne_104 : decode cX2_readOne 104 = .ok (.aload_n 0, 1) := by decide +kernel
theorem dX2_readOne_105 : decode cX2_readOne 105 = .ok (.aload_n 1, 1) := by decide +kernel
theorem dX2_readOne_106 : decode cX2_readOne 106 = .ok (.iload_n 2, 1) := by decide +kernel
theorem dX2_readOne_107 : decode cX2_readOne 107 = .ok (.iconst 1, 1) := by decide +kernel
theorem dX2_readOne_108 : decode cX2_readOne 108 = .ok (.iadd, 1) := by decide +kernel
theorem dX2_readOne_109 : decode cX2_readOne 109 = .ok (.invokevirtual 37, 3) := by decide +kernel
theorem dX2_readOne_112 : decode cX2_readOne 112 = .ok (.aload_n 0, 1) := by decide +kernel
theorem dX2_readOne_113 : decode cX2_readOne 113 = .ok (.bipush 41, 2) := by decide +kernel
theorem dX2_readOne_115 : decode cX2_readOne 115 = .ok (.invokevirtual 33, 3) := by decide +kernel
theorem dX2_readOne_118 : decode cX2_readOne 118 = .ok (.goto 7, 3) := by decide +kernel
theorem dX2_readOne_121 : decode cX2_readOne 121 = .ok (.aload_n 0, 1) := by decide +kernel
theorem dX2_readOne_122 : decode cX2_readOne 122 = .ok (.invokevirtual 47, 3) := by decide +kernel
theorem dX2_readOne_125 : decode cX2_readOne 125 = .ok (.return_, 1) := by decide +kernel
set_option maxRecDepth 20000 in
theorem ggX2_mayOpen_X2_fail : GoodIn wsX2_mayOpen wsX2_fail := goodIn_r _ [5, 6, 7, 8, 9, 10, 11, 12, 13, 14, 15] (by decide +kernel) (by decide +kernel)
set_option maxRecDepth 20000 in
theorem gX2_mayOpen_X2_fail : GoodIn wsX2_mayOpen (wsV RX2 47 RX2 yX2_fail wsX2_fail) := goodIn_app (goodIn_of _ (by decide +kernel)) ggX2_mayOpen_X2_fail
theorem dX2_mayOpen_0 : decode cX2_mayOpen 0 = .ok (.iload_n 1, 1) := by decide +kernel
theorem dX2_mayOpen_1 : decode cX2_mayOpen 1 = .ok (.iconst 5, 1) := by decide +kernel
theorem dX2_mayOpen_2 : decode cX2_mayOpen 2 = .ok (.if_icmp .lt 9, 3) := by decide +kernel
theorem dX2_mayOpen_5 : decode cX2_mayOpen 5 = .ok (.aload_n 0, 1) := by decide +kernel
theorem dX2_mayOpen_6 : decode cX2_mayOpen 6 = .ok (.invokevirtual 47, 3) := by decide +kernel
theorem dX2_mayOpen_9 : decode cX2_mayOpen 9 = .ok (.iconst 0, 1) := by decide +kernel
theorem dX2_mayOpen_10 : decode cX2_mayOpen 10 = .ok (.ireturn, 1) := by decide +kernel
theorem dX2_mayOpen_11 : decode cX2_mayOpen 11 = .ok (.iconst 1, 1) := by decide +kernel
theorem dX2_mayOpen_12 : decode cX2_mayOpen 12 = .ok (.ireturn, 1) := by decide +kernel
theorem dX2_byteAt_0 : decode cX2_byteAt 0 = .ok (.iload_n 1, 1) := by decide +kernel
theorem dX2_byteAt_1 : decode cX2_byteAt 1 = .ok (.ifCond .lt 27, 3) := by decide +kernel
theorem dX2_byteAt_4 : decode cX2_byteAt 4 = .ok (.iload_n 1, 1) := by decide +kernel
theorem dX2_byteAt_5 : decode cX2_byteAt 5 = .ok (.aload_n 0, 1) := by decide +kernel
theorem dX2_byteAt_6 : decode cX2_byteAt 6 = .ok (.getfield 15, 3) := by decide +kernel
theorem dX2_byteAt_9 : decode cX2_byteAt 9 = .ok (.if_icmp .ge 19, 3) := by decide +kernel
theorem dX2_byteAt_12 : decode cX2_byteAt 12 = .ok (.iload_n 1, 1) := by decide +kernel
theorem dX2_byteAt_13 : decode cX2_byteAt 13 = .ok (.sipush 160, 3) := by decide +kernel
theorem dX2_byteAt_16 : decode cX2_byteAt 16 = .ok (.if_icmp .ge 12, 3) := by decide +kernel
theorem dX2_byteAt_19 : decode cX2_byteAt 19 = .ok (.aload_n 0, 1) := by decide +kernel
theorem dX2_byteAt_20 : decode cX2_byteAt 20 = .ok (.getfield 9, 3) := by decide +kernel
theorem dX2_byteAt_23 : decode cX2_byteAt 23 = .ok (.iload_n 1, 1) := by decide +kernel
theorem dX2_byteAt_24 : decode cX2_byteAt 24 = .ok (.iaload, 1) := by decide +kernel
theorem dX2_byteAt_25 : decode cX2_byteAt 25 = .ok (.goto 4, 3) := by decide +kernel
theorem dX2_byteAt_28 : decode cX2_byteAt 28 = .ok (.iconst 0, 1) := by decide +kernel
theorem dX2_byteAt_29 : decode cX2_byteAt 29 = .ok (.ireturn, 1) := by decide +kernel
set_option maxRecDepth 20000 in
theorem ggX2_step_X2_byteAt : GoodIn wsX2_step wsX2_byteAt := goodIn_r _ [9, 2, 10, 85, 86, 87, 88, 89, 90, 91] (by decide +kernel) (by decide +kernel)
set_option maxRecDepth 20000 in
theorem gX2_step_X2_byteAt : GoodIn wsX2_step (wsV RX2 78 RX2 yX2_byteAt wsX2_byteAt) := goodIn_app (goodIn_of _ (by decide +kernel)) ggX2_step_X2_byteAt
set_option maxRecDepth 20000 in
theorem ggX2_step_X2_isLetter : GoodIn wsX2_step wsX2_isLetter := goodIn_r _ [13] (by decide +kernel) (by decide +kernel)
set_option maxRecDepth 20000 in
theorem gX2_step_X2_isLetter : GoodIn wsX2_step (va_wsS RX2 82 yX2_isLetter wsX2_isLetter) := goodIn_app (goodIn_of _ (by decide +kernel)) ggX2_step_X2_isLetter
set_option maxRecDepth 20000 in
theorem ggX2_step_X2_takeWord : GoodIn wsX2_step wsX2_takeWord := goodIn_r _ [17, 1, 2, 4, 5, 6, 7, 8, 9, 10, 11, 12, 13, 18, 19, 20, 21, 22, 23, 24, 3, 25, 26, 27, 28, 29, 30, 31, 32, 33, 34, 35, 36, 37, 38, 39, 40, 41, 42, 43, 44, 45, 46, 47, 48, 49, 50, 51, 52, 53, 54, 55, 56, 57, 58, 59, 60, 61, 62, 63, 64, 65, 66, 67, 68, 69, 70, 71, 72, 73, 85, 86, 87, 88, 89, 90, 91] (by decide +kernel) (by decide +kernel)
set_option maxRecDepth 20000 in
theorem gX2_step_X2_takeWord : GoodIn wsX2_step (wsV RX2 85 RX2 yX2_takeWord wsX2_takeWord) := goodIn_app (goodIn_of _ (by decide +kernel)) ggX2_step_X2_takeWord
set_option maxRecDepth 20000 in
theorem ggX2_step_X2_isDigit : GoodIn wsX2_step wsX2_isDigit := goodIn_r _ [76] (by decide +kernel) (by decide +kernel)
set_option maxRecDepth 20000 in
theorem gX2_step_X2_isDigit : GoodIn wsX2_step (va_wsS RX2 88 yX2_isDigit wsX2_isDigit) := goodIn_app (goodIn_of _ (by decide +kernel)) ggX2_step_X2_isDigit
set_option maxRecDepth 20000 in
theorem ggX2_step_X2_takeNumber : GoodIn wsX2_step wsX2_takeNumber := goodIn_r _ [80, 81, 1, 2, 3, 4, 5, 6, 7, 8, 9, 10, 74, 75, 76, 85, 86, 87, 88, 89, 90, 91] (by decide +kernel) (by decide +kernel)
set_option maxRecDepth 20000 in
theorem gX2_step_X2_takeNumber : GoodIn wsX2_step (wsV RX2 91 RX2 yX2_takeNumber wsX2_takeNumber) := goodIn_app (goodIn_of _ (by decide +kernel)) ggX2_step_X2_takeNumber
set_option maxRecDepth 20000 in
theorem ggX2_step_X2_isSign : GoodIn wsX2_step wsX2_isSign := goodIn_r _ [84] (by decide +kernel) (by decide +kernel)
set_option maxRecDepth 20000 in
theorem gX2_step_X2_isSign : GoodIn wsX2_step (va_wsS RX2 94 yX2_isSign wsX2_isSign) := goodIn_app (goodIn_of _ (by decide +kernel)) ggX2_step_X2_isSign
theorem dX2_step_0 : decode cX2_step 0 = .ok (.aload_n 0, 1) := by decide +kernel
theorem dX2_step_1 : decode cX2_step 1 = .ok (.getfield 19, 3) := by decide +kernel
theorem dX2_step_4 : decode cX2_step 4 = .ok (.aload_n 0, 1) := by decide +kernel
theorem dX2_step_5 : decode cX2_step 5 = .ok (.getfield 15, 3) := by decide +kernel
theorem dX2_step_8 : decode cX2_step 8 = .ok (.if_icmp .ge 42, 3) := by decide +kernel
theorem dX2_step_11 : decode cX2_step 11 = .ok (.aload_n 0, 1) := by decide +kernel
theorem dX2_step_12 : decode cX2_step 12 = .ok (.aload_n 0, 1) := by decide +kernel
theorem dX2_step_13 : decode cX2_step 13 = .ok (.getfield 19, 3) := by decide +kernel
theorem dX2_step_16 : decode cX2_step 16 = .ok (.invokevirtual 78, 3) := by decide +kernel
theorem dX2_step_19 : decode cX2_step 19 = .ok (.bipush 32, 2) := by decide +kernel
theorem dX2_step_21 : decode cX2_step 21 = .ok (.if_icmp .eq 16, 3) := by decide +kernel
theorem dX2_step_24 : decode cX2_step 24 = .ok (.aload_n 0, 1) := by decide +kernel
theorem dX2_step_25 : decode cX2_step 25 = .ok (.aload_n 0, 1) := by decide +kernel
theorem dX2_step_26 : decode cX2_step 26 = .ok (.getfield 19, 3) := by decide +kernel
theorem dX2_step_29 : decode cX2_step 29 = .ok (.invokevirtual 78, 3) := by decide +kernel
theorem dX2_step_32 : decode cX2_step 32 = .ok (.bipush 10, 2) := by decide +kernel
theorem dX2_step_34 : decode cX2_step 34 = .ok (.if_icmp .ne 16, 3) := by decide +kernel
theorem dX2_step_37 : decode cX2_step 37 = .ok (.aload_n 0, 1) := by decide +kernel
theorem dX2_step_38 : decode cX2_step 38 = .ok (.dup, 1) := by decide +kernel
theorem dX2_step_39 : decode cX2_step 39 = .ok (.getfield 19, 3) := by decide +kernel
theorem dX2_step_42 : decode cX2_step 42 = .ok (.iconst 1, 1) := by decide +kernel
theorem dX2_step_43 : decode cX2_step 43 = .ok (.iadd, 1) := by decide +kernel
theorem dX2_step_44 : decode cX2_step 44 = .ok (.putfield 19, 3) := by decide +kernel
theorem dX2_step_47 : decode cX2_step 47 = .ok (.goto (-47), 3) := by decide +kernel
theorem dX2_step_50 : decode cX2_step 50 = .ok (.aload_n 0, 1) := by decide +kernel
theorem dX2_step_51 : decode cX2_step 51 = .ok (.aload_n 0, 1) := by decide +kernel
theorem dX2_step_52 : decode cX2_step 52 = .ok (.getfield 19, 3) := by decide +kernel
theorem dX2_step_55 : decode cX2_step 55 = .ok (.putfield 50, 3) := by decide +kernel
theorem dX2_step_58 : decode cX2_step 58 = .ok (.aload_n 0, 1) := by decide +kernel
theorem dX2_step_59 : decode cX2_step 59 = .ok (.aload_n 0, 1) := by decide +kernel
theorem dX2_step_60 : decode cX2_step 60 = .ok (.getfield 19, 3) := by decide +kernel
theorem dX2_step_63 : decode cX2_step 63 = .ok (.invokevirtual 78, 3) := by decide +kernel
theorem dX2_step_66 : decode cX2_step 66 = .ok (.istore_n 1, 1) := by decide +kernel
theorem dX2_step_67 : decode cX2_step 67 = .ok (.aload_n 0, 1) := by decide +kernel
theorem dX2_step_68 : decode cX2_step 68 = .ok (.getfield 19, 3) := by decide +kernel
theorem dX2_step_71 : decode cX2_step 71 = .ok (.aload_n 0, 1) := by decide +kernel
theorem dX2_step_72 : decode cX2_step 72 = .ok (.getfield 15, 3) := by decide +kernel
theorem dX2_step_75 : decode cX2_step 75 = .ok (.if_icmp .lt 11, 3) := by decide +kernel
theorem dX2_step_78 : decode cX2_step 78 = .ok (.aload_n 0, 1) := by decide +kernel
theorem dX2_step_79 : decode cX2_step 79 = .ok (.iconst 0, 1) := by decide +kernel
theorem dX2_step_80 : decode cX2_step 80 = .ok (.putfield 44, 3) := by decide +kernel
theorem dX2_step_83 : decode cX2_step 83 = .ok (.goto 57, 3) := by decide +kernel
theorem dX2_step_86 : decode cX2_step 86 = .ok (.iload_n 1, 1) := by decide +kernel
theorem dX2_step_87 : decode cX2_step 87 = .ok (.invokestatic 82, 3) := by decide +kernel
theorem dX2_step_90 : decode cX2_step 90 = .ok (.ifCond .eq 10, 3) := by decide +kernel
theorem dX2_step_93 : decode cX2_step 93 = .ok (.aload_n 0, 1) := by decide +kernel
theorem dX2_step_94 : decode cX2_step 94 = .ok (.invokevirtual 85, 3) := by decide +kernel
theorem dX2_step_97 : decode cX2_step 97 = .ok (.goto 43, 3) := by decide +kernel
theorem dX2_step_100 : decode cX2_step 100 = .ok (.iload_n 1, 1) := by decide +kernel
theorem dX2_step_101 : decode cX2_step 101 = .ok (.invokestatic 88, 3) := by decide +kernel
theorem dX2_step_104 : decode cX2_step 104 = .ok (.ifCond .eq 10, 3) := by decide +kernel
theorem dX2_step_107 : decode cX2_step 107 = .ok (.aload_n 0, 1) := by decide +kernel
theorem dX2_step_108 : decode cX2_step 108 = .ok (.invokevirtual 91, 3) := by decide +kernel
theorem dX2_step_111 : decode cX2_step 111 = .ok (.goto 29, 3) := by decide +kernel
theorem dX2_step_114 : decode cX2_step 114 = .ok (.aload_n 0, 1) := by decide +kernel
theorem dX2_step_115 : decode cX2_step 115 = .ok (.iload_n 1, 1) := by decide +kernel
theorem dX2_step_116 : decode cX2_step 116 = .ok (.invokestatic 94, 3) := by decide +kernel
theorem dX2_step_119 : decode cX2_step 119 = .ok (.ifCond .eq 7, 3) := by decide +kernel
theorem dX2_step_122 : decode cX2_step 122 = .ok (.iload_n 1, 1) := by decide +kernel
theorem dX2_step_123 : decode cX2_step 123 = .ok (.goto 4, 3) := by decide +kernel
theorem dX2_step_126 : decode cX2_step 126 = .ok (.iconst 1, 1) := by decide +kernel
theorem dX2_step_127 : decode cX2_step 127 = .ok (.putfield 44, 3) := by decide +kernel
theorem dX2_step_130 : decode cX2_step 130 = .ok (.aload_n 0, 1) := by decide +kernel
theorem dX2_step_131 : decode cX2_step 131 = .ok (.dup, 1) := by decide +kernel
theorem dX2_step_132 : decode cX2_step 132 = .ok (.getfield 19, 3) := by decide +kernel
theorem dX2_step_135 : decode cX2_step 135 = .ok (.iconst 1, 1) := by decide +kernel
theorem dX2_step_136 : decode cX2_step 136 = .ok (.iadd, 1) := by decide +kernel
theorem dX2_step_137 : decode cX2_step 137 = .ok (.putfield 19, 3) := by decide +kernel
theorem dX2_step_140 : decode cX2_step 140 = .ok (.return_, 1) := by decide +kernel
set_option maxRecDepth 20000 in
theorem ggX2_takeWord_X2_byteAt : GoodIn wsX2_takeWord wsX2_byteAt := goodIn_r _ [8, 2, 9, 70, 71, 72, 73, 74, 75, 76] (by decide +kernel) (by decide +kernel)
set_option maxRecDepth 20000 in
theorem gX2_takeWord_X2_byteAt : GoodIn wsX2_takeWord (wsV RX2 78 RX2 yX2_byteAt wsX2_byteAt) := goodIn_app (goodIn_of _ (by decide +kernel)) ggX2_takeWord_X2_byteAt
set_option maxRecDepth 20000 in
theorem ggX2_takeWord_X2_isLetter : GoodIn wsX2_takeWord wsX2_isLetter := goodIn_r _ [12] (by decide +kernel) (by decide +kernel)
set_option maxRecDepth 20000 in
theorem gX2_takeWord_X2_isLetter : GoodIn wsX2_takeWord (va_wsS RX2 82 yX2_isLetter wsX2_isLetter) := goodIn_app (goodIn_of _ (by decide +kernel)) ggX2_takeWord_X2_isLetter
set_option maxRecDepth 20000 in
theorem ggX2_takeWord_X2_wordOf : GoodIn wsX2_takeWord wsX2_wordOf := goodIn_r _ [15] (by decide +kernel) (by decide +kernel)
set_option maxRecDepth 20000 in
theorem gX2_takeWord_X2_wordOf : GoodIn wsX2_takeWord (va_wsS RX2 97 yX2_wordOf wsX2_wordOf) := goodIn_app (goodIn_of _ (by decide +kernel)) ggX2_takeWord_X2_wordOf
set_option maxRecDepth 20000 in
theorem ggX2_takeWord_X2_isWord : GoodIn wsX2_takeWord wsX2_isWord := goodIn_r _ [19, 1, 20, 21, 22, 23, 24, 25, 26, 27, 28, 29, 30, 31, 32, 4, 5, 6, 7, 8, 2, 9, 33, 34, 35, 36, 37, 38, 39, 40, 41, 42, 43, 44, 45, 46, 47, 48, 49, 50, 51, 52, 53, 54, 55, 56, 57, 58, 59, 60, 61, 62, 63, 64, 65, 66, 67, 68, 69, 70, 71, 72, 73, 74, 75, 76] (by decide +kernel) (by decide +kernel)
set_option maxRecDepth 20000 in
theorem gX2_takeWord_X2_isWord : GoodIn wsX2_takeWord (wsV RX2 101 RX2 yX2_isWord wsX2_isWord) := goodIn_app (goodIn_of _ (by decide +kernel)) ggX2_takeWord_X2_isWord
theorem dX2_takeWord_0 : decode cX2_takeWord 0 = .ok (.aload_n 0, 1) := by decide +kernel
theorem dX2_takeWord_1 : decode cX2_takeWord 1 = .ok (.getfield 19, 3) := by decide +kernel
theorem dX2_takeWord_4 : decode cX2_takeWord 4 = .ok (.aload_n 0, 1) := by decide +kernel
theorem dX2_takeWord_5 : decode cX2_takeWord 5 = .ok (.getfield 15, 3) := by decide +kernel
theorem dX2_takeWord_8 : decode cX2_takeWord 8 = .ok (.if_icmp .ge 30, 3) := by decide +kernel
theorem dX2_takeWord_11 : decode cX2_takeWord 11 = .ok (.aload_n 0, 1) := by decide +kernel
theorem dX2_takeWord_12 : decode cX2_takeWord 12 = .ok (.aload_n 0, 1) := by decide +kernel
theorem dX2_takeWord_13 : decode cX2_takeWord 13 = .ok (.getfield 19, 3) := by decide +kernel
theorem dX2_takeWord_16 : decode cX2_takeWord 16 = .ok (.invokevirtual 78, 3) := by decide +kernel
theorem dX2_takeWord_19 : decode cX2_takeWord 19 = .ok (.invokestatic 82, 3) := by decide +kernel
theorem dX2_takeWord_22 : decode cX2_takeWord 22 = .ok (.ifCond .eq 16, 3) := by decide +kernel
theorem dX2_takeWord_25 : decode cX2_takeWord 25 = .ok (.aload_n 0, 1) := by decide +kernel
theorem dX2_takeWord_26 : decode cX2_takeWord 26 = .ok (.dup, 1) := by decide +kernel
theorem dX2_takeWord_27 : decode cX2_takeWord 27 = .ok (.getfield 19, 3) := by decide +kernel
theorem dX2_takeWord_30 : decode cX2_takeWord 30 = .ok (.iconst 1, 1) := by decide +kernel
theorem dX2_takeWord_31 : decode cX2_takeWord 31 = .ok (.iadd, 1) := by decide +kernel
theorem dX2_takeWord_32 : decode cX2_takeWord 32 = .ok (.putfield 19, 3) := by decide +kernel
theorem dX2_takeWord_35 : decode cX2_takeWord 35 = .ok (.goto (-35), 3) := by decide +kernel
theorem dX2_takeWord_38 : decode cX2_takeWord 38 = .ok (.aload_n 0, 1) := by decide +kernel
theorem dX2_takeWord_39 : decode cX2_takeWord 39 = .ok (.iconst 1, 1) := by decide +kernel
theorem dX2_takeWord_40 : decode cX2_takeWord 40 = .ok (.putfield 44, 3) := by decide +kernel
theorem dX2_takeWord_43 : decode cX2_takeWord 43 = .ok (.bipush (-6), 2) := by decide +kernel
theorem dX2_takeWord_45 : decode cX2_takeWord 45 = .ok (.istore_n 1, 1) := by decide +kernel
theorem dX2_takeWord_46 : decode cX2_takeWord 46 = .ok (.iload_n 1, 1) := by decide +kernel
theorem dX2_takeWord_47 : decode cX2_takeWord 47 = .ok (.iconst (-1), 1) := by decide +kernel
theorem dX2_takeWord_48 : decode cX2_takeWord 48 = .ok (.if_icmp .gt 25, 3) := by decide +kernel
theorem dX2_takeWord_51 : decode cX2_takeWord 51 = .ok (.aload_n 0, 1) := by decide +kernel
theorem dX2_takeWord_52 : decode cX2_takeWord 52 = .ok (.iload_n 1, 1) := by decide +kernel
theorem dX2_takeWord_53 : decode cX2_takeWord 53 = .ok (.invokestatic 97, 3) := by decide +kernel
theorem dX2_takeWord_56 : decode cX2_takeWord 56 = .ok (.invokevirtual 101, 3) := by decide +kernel
theorem dX2_takeWord_59 : decode cX2_takeWord 59 = .ok (.ifCond .eq 8, 3) := by decide +kernel
theorem dX2_takeWord_62 : decode cX2_takeWord 62 = .ok (.aload_n 0, 1) := by decide +kernel
theorem dX2_takeWord_63 : decode cX2_takeWord 63 = .ok (.iload_n 1, 1) := by decide +kernel
theorem dX2_takeWord_64 : decode cX2_takeWord 64 = .ok (.putfield 44, 3) := by decide +kernel
theorem dX2_takeWord_67 : decode cX2_takeWord 67 = .ok (.iinc 1 1, 3) := by decide +kernel
theorem dX2_takeWord_70 : decode cX2_takeWord 70 = .ok (.goto (-24), 3) := by decide +kernel
theorem dX2_takeWord_73 : decode cX2_takeWord 73 = .ok (.sipush 256, 3) := by decide +kernel
theorem dX2_takeWord_76 : decode cX2_takeWord 76 = .ok (.istore_n 1, 1) := by decide +kernel
theorem dX2_takeWord_77 : decode cX2_takeWord 77 = .ok (.iload_n 1, 1) := by decide +kernel
theorem dX2_takeWord_78 : decode cX2_takeWord 78 = .ok (.sipush 261, 3) := by decide +kernel
theorem dX2_takeWord_81 : decode cX2_takeWord 81 = .ok (.if_icmp .gt 25, 3) := by decide +kernel
theorem dX2_takeWord_84 : decode cX2_takeWord 84 = .ok (.aload_n 0, 1) := by decide +kernel
theorem dX2_takeWord_85 : decode cX2_takeWord 85 = .ok (.iload_n 1, 1) := by decide +kernel
theorem dX2_takeWord_86 : decode cX2_takeWord 86 = .ok (.invokestatic 97, 3) := by decide +kernel
theorem dX2_takeWord_89 : decode cX2_takeWord 89 = .ok (.invokevirtual 101, 3) := by decide +kernel
theorem dX2_takeWord_92 : decode cX2_takeWord 92 = .ok (.ifCond .eq 8, 3) := by decide +kernel
theorem dX2_takeWord_95 : decode cX2_takeWord 95 = .ok (.aload_n 0, 1) := by decide +kernel
theorem dX2_takeWord_96 : decode cX2_takeWord 96 = .ok (.iload_n 1, 1) := by decide +kernel
theorem dX2_takeWord_97 : decode cX2_takeWord 97 = .ok (.putfield 44, 3) := by decide +kernel
theorem dX2_takeWord_100 : decode cX2_takeWord 100 = .ok (.iinc 1 1, 3) := by decide +kernel
theorem dX2_takeWord_103 : decode cX2_takeWord 103 = .ok (.goto (-26), 3) := by decide +kernel
theorem dX2_takeWord_106 : decode cX2_takeWord 106 = .ok (.return_, 1) := by decide +kernel
set_option maxRecDepth 20000 in
theorem ggX2_takeNumber_X2_byteAt : GoodIn wsX2_takeNumber wsX2_byteAt := goodIn_r _ [10, 3, 11, 15, 16, 17, 18, 19, 20, 21] (by decide +kernel) (by decide +kernel)
set_option maxRecDepth 20000 in
theorem gX2_takeNumber_X2_byteAt : GoodIn wsX2_takeNumber (wsV RX2 78 RX2 yX2_byteAt wsX2_byteAt) := goodIn_app (goodIn_of _ (by decide +kernel)) ggX2_takeNumber_X2_byteAt
set_option maxRecDepth 20000 in
theorem ggX2_takeNumber_X2_isDigit : GoodIn wsX2_takeNumber wsX2_isDigit := goodIn_r _ [14] (by decide +kernel) (by decide +kernel)
set_option maxRecDepth 20000 in
theorem gX2_takeNumber_X2_isDigit : GoodIn wsX2_takeNumber (va_wsS RX2 88 yX2_isDigit wsX2_isDigit) := goodIn_app (goodIn_of _ (by decide +kernel)) ggX2_takeNumber_X2_isDigit
theorem dX2_takeNumber_0 : decode cX2_takeNumber 0 = .ok (.aload_n 0, 1) := by decide +kernel
theorem dX2_takeNumber_1 : decode cX2_takeNumber 1 = .ok (.iconst 0, 1) := by decide +kernel
theorem dX2_takeNumber_2 : decode cX2_takeNumber 2 = .ok (.putfield 75, 3) := by decide +kernel
theorem dX2_takeNumber_5 : decode cX2_takeNumber 5 = .ok (.aload_n 0, 1) := by decide +kernel
theorem dX2_takeNumber_6 : decode cX2_takeNumber 6 = .ok (.getfield 19, 3) := by decide +kernel
theorem dX2_takeNumber_9 : decode cX2_takeNumber 9 = .ok (.aload_n 0, 1) := by decide +kernel
theorem dX2_takeNumber_10 : decode cX2_takeNumber 10 = .ok (.getfield 15, 3) := by decide +kernel
theorem dX2_takeNumber_13 : decode cX2_takeNumber 13 = .ok (.if_icmp .ge 53, 3) := by decide +kernel
theorem dX2_takeNumber_16 : decode cX2_takeNumber 16 = .ok (.aload_n 0, 1) := by decide +kernel
theorem dX2_takeNumber_17 : decode cX2_takeNumber 17 = .ok (.aload_n 0, 1) := by decide +kernel
theorem dX2_takeNumber_18 : decode cX2_takeNumber 18 = .ok (.getfield 19, 3) := by decide +kernel
theorem dX2_takeNumber_21 : decode cX2_takeNumber 21 = .ok (.invokevirtual 78, 3) := by decide +kernel
theorem dX2_takeNumber_24 : decode cX2_takeNumber 24 = .ok (.invokestatic 88, 3) := by decide +kernel
theorem dX2_takeNumber_27 : decode cX2_takeNumber 27 = .ok (.ifCond .eq 39, 3) := by decide +kernel
theorem dX2_takeNumber_30 : decode cX2_takeNumber 30 = .ok (.aload_n 0, 1) := by decide +kernel
theorem dX2_takeNumber_31 : decode cX2_takeNumber 31 = .ok (.aload_n 0, 1) := by decide +kernel
theorem dX2_takeNumber_32 : decode cX2_takeNumber 32 = .ok (.getfield 75, 3) := by decide +kernel
theorem dX2_takeNumber_35 : decode cX2_takeNumber 35 = .ok (.bipush 10, 2) := by decide +kernel
theorem dX2_takeNumber_37 : decode cX2_takeNumber 37 = .ok (.imul, 1) := by decide +kernel
theorem dX2_takeNumber_38 : decode cX2_takeNumber 38 = .ok (.aload_n 0, 1) := by decide +kernel
theorem dX2_takeNumber_39 : decode cX2_takeNumber 39 = .ok (.aload_n 0, 1) := by decide +kernel
theorem dX2_takeNumber_40 : decode cX2_takeNumber 40 = .ok (.getfield 19, 3) := by decide +kernel
theorem dX2_takeNumber_43 : decode cX2_takeNumber 43 = .ok (.invokevirtual 78, 3) := by decide +kernel
theorem dX2_takeNumber_46 : decode cX2_takeNumber 46 = .ok (.iadd, 1) := by decide +kernel
theorem dX2_takeNumber_47 : decode cX2_takeNumber 47 = .ok (.bipush 48, 2) := by decide +kernel
theorem dX2_takeNumber_49 : decode cX2_takeNumber 49 = .ok (.isub, 1) := by decide +kernel
theorem dX2_takeNumber_50 : decode cX2_takeNumber 50 = .ok (.putfield 75, 3) := by decide +kernel
theorem dX2_takeNumber_53 : decode cX2_takeNumber 53 = .ok (.aload_n 0, 1) := by decide +kernel
theorem dX2_takeNumber_54 : decode cX2_takeNumber 54 = .ok (.dup, 1) := by decide +kernel
theorem dX2_takeNumber_55 : decode cX2_takeNumber 55 = .ok (.getfield 19, 3) := by decide +kernel
theorem dX2_takeNumber_58 : decode cX2_takeNumber 58 = .ok (.iconst 1, 1) := by decide +kernel
theorem dX2_takeNumber_59 : decode cX2_takeNumber 59 = .ok (.iadd, 1) := by decide +kernel
theorem dX2_takeNumber_60 : decode cX2_takeNumber 60 = .ok (.putfield 19, 3) := by decide +kernel
theorem dX2_takeNumber_63 : decode cX2_takeNumber 63 = .ok (.goto (-58), 3) := by decide +kernel
theorem dX2_takeNumber_66 : decode cX2_takeNumber 66 = .ok (.aload_n 0, 1) := by decide +kernel
theorem dX2_takeNumber_67 : decode cX2_takeNumber 67 = .ok (.aload_n 0, 1) := by decide +kernel
theorem dX2_takeNumber_68 : decode cX2_takeNumber 68 = .ok (.getfield 19, 3) := by decide +kernel
theorem dX2_takeNumber_71 : decode cX2_takeNumber 71 = .ok (.aload_n 0, 1) := by decide +kernel
theorem dX2_takeNumber_72 : decode cX2_takeNumber 72 = .ok (.getfield 50, 3) := by decide +kernel
theorem dX2_takeNumber_75 : decode cX2_takeNumber 75 = .ok (.isub, 1) := by decide +kernel
theorem dX2_takeNumber_76 : decode cX2_takeNumber 76 = .ok (.iconst 4, 1) := by decide +kernel
theorem dX2_takeNumber_77 : decode cX2_takeNumber 77 = .ok (.if_icmp .le 7, 3) := by decide +kernel
theorem dX2_takeNumber_80 : decode cX2_takeNumber 80 = .ok (.iconst 1, 1) := by decide +kernel
theorem dX2_takeNumber_81 : decode cX2_takeNumber 81 = .ok (.goto 4, 3) := by decide +kernel
theorem dX2_takeNumber_84 : decode cX2_takeNumber 84 = .ok (.iconst 2, 1) := by decide +kernel
theorem dX2_takeNumber_85 : decode cX2_takeNumber 85 = .ok (.putfield 44, 3) := by decide +kernel
theorem dX2_takeNumber_88 : decode cX2_takeNumber 88 = .ok (.return_, 1) := by decide +kernel
set_option maxRecDepth 20000 in
theorem ggX2_isWord_J0_length_8abf5 : GoodIn wsX2_isWord wsJ0_length_8abf5 := goodIn_r _ [7, 8, 9, 10, 11, 6, 12, 13, 14] (by decide +kernel) (by decide +kernel)
set_option maxRecDepth 20000 in
theorem gX2_isWord_J0_length_8abf5 : GoodIn wsX2_isWord (wsV RX2 105 RJ0 yJ0_length_8abf5 wsJ0_length_8abf5) := goodIn_app (goodIn_of _ (by decide +kernel)) ggX2_isWord_J0_length_8abf5
set_option maxRecDepth 20000 in
theorem ggX2_isWord_X2_byteAt : GoodIn wsX2_isWord wsX2_byteAt := goodIn_r _ [19, 20, 21, 59, 60, 61, 62, 63, 64, 65] (by decide +kernel) (by decide +kernel)
set_option maxRecDepth 20000 in
theorem gX2_isWord_X2_byteAt : GoodIn wsX2_isWord (wsV RX2 78 RX2 yX2_byteAt wsX2_byteAt) := goodIn_app (goodIn_of _ (by decide +kernel)) ggX2_isWord_X2_byteAt
set_option maxRecDepth 20000 in
theorem ggX2_isWord_J0_charAt_5068e : GoodIn wsX2_isWord wsJ0_charAt_5068e := goodIn_r _ [25, 8, 26, 27, 28, 6, 29, 13, 14, 30, 31, 32, 33, 34, 35, 36, 37, 38, 39, 40, 41, 42, 43, 44, 45, 46, 47, 48, 49, 50, 51, 52, 53, 54, 55, 56, 57, 58] (by decide +kernel) (by decide +kernel)
set_option maxRecDepth 20000 in
theorem gX2_isWord_J0_charAt_5068e : GoodIn wsX2_isWord (wsV RX2 111 RJ0 yJ0_charAt_5068e wsJ0_charAt_5068e) := goodIn_app (goodIn_of _ (by decide +kernel)) ggX2_isWord_J0_charAt_5068e
theorem dX2_isWord_0 : decode cX2_isWord 0 = .ok (.aload_n 0, 1) := by decide +kernel
theorem dX2_isWord_1 : decode cX2_isWord 1 = .ok (.getfield 19, 3) := by decide +kernel
theorem dX2_isWord_4 : decode cX2_isWord 4 = .ok (.aload_n 0, 1) := by decide +kernel
theorem dX2_isWord_5 : decode cX2_isWord 5 = .ok (.getfield 50, 3) := by decide +kernel
theorem dX2_isWord_8 : decode cX2_isWord 8 = .ok (.isub, 1) := by decide +kernel
theorem dX2_isWord_9 : decode cX2_isWord 9 = .ok (.aload_n 1, 1) := by decide +kernel
theorem dX2_isWord_10 : decode cX2_isWord 10 = .ok (.invokevirtual 105, 3) := by decide +kernel
theorem dX2_isWord_13 : decode cX2_isWord 13 = .ok (.if_icmp .eq 5, 3) := by decide +kernel
theorem dX2_isWord_16 : decode cX2_isWord 16 = .ok (.iconst 0, 1) := by decide +kernel
theorem dX2_isWord_17 : decode cX2_isWord 17 = .ok (.ireturn, 1) := by decide +kernel
theorem dX2_isWord_18 : decode cX2_isWord 18 = .ok (.iconst 0, 1) := by decide +kernel
theorem dX2_isWord_19 : decode cX2_isWord 19 = .ok (.istore_n 2, 1) := by decide +kernel
theorem dX2_isWord_20 : decode cX2_isWord 20 = .ok (.iload_n 2, 1) := by decide +kernel
theorem dX2_isWord_21 : decode cX2_isWord 21 = .ok (.aload_n 1, 1) := by decide +kernel
theorem dX2_isWord_22 : decode cX2_isWord 22 = .ok (.invokevirtual 105, 3) := by decide +kernel
theorem dX2_isWord_25 : decode cX2_isWord 25 = .ok (.if_icmp .ge 29, 3) := by decide +kernel
theorem dX2_isWord_28 : decode cX2_isWord 28 = .ok (.aload_n 0, 1) := by decide +kernel
theorem dX2_isWord_29 : decode cX2_isWord 29 = .ok (.aload_n 0, 1) := by decide +kernel
theorem dX2_isWord_30 : decode cX2_isWord 30 = .ok (.getfield 50, 3) := by decide +kernel
theorem dX2_isWord_33 : decode cX2_isWord 33 = .ok (.iload_n 2, 1) := by decide +kernel
theorem dX2_isWord_34 : decode cX2_isWord 34 = .ok (.iadd, 1) := by decide +kernel
theorem dX2_isWord_35 : decode cX2_isWord 35 = .ok (.invokevirtual 78, 3) := by decide +kernel
theorem dX2_isWord_38 : decode cX2_isWord 38 = .ok (.aload_n 1, 1) := by decide +kernel
theorem dX2_isWord_39 : decode cX2_isWord 39 = .ok (.iload_n 2, 1) := by decide +kernel
theorem dX2_isWord_40 : decode cX2_isWord 40 = .ok (.invokevirtual 111, 3) := by decide +kernel
theorem dX2_isWord_43 : decode cX2_isWord 43 = .ok (.if_icmp .eq 5, 3) := by decide +kernel
theorem dX2_isWord_46 : decode cX2_isWord 46 = .ok (.iconst 0, 1) := by decide +kernel
theorem dX2_isWord_47 : decode cX2_isWord 47 = .ok (.ireturn, 1) := by decide +kernel
theorem dX2_isWord_48 : decode cX2_isWord 48 = .ok (.iinc 2 1, 3) := by decide +kernel
theorem dX2_isWord_51 : decode cX2_isWord 51 = .ok (.goto (-31), 3) := by decide +kernel
theorem dX2_isWord_54 : decode cX2_isWord 54 = .ok (.iconst 1, 1) := by decide +kernel
theorem dX2_isWord_55 : decode cX2_isWord 55 = .ok (.ireturn, 1) := by decide +kernel
theorem dX2_wordOf_0 : decode cX2_wordOf 0 = .ok (.iload_n 0, 1) := by decide +kernel
theorem dX2_wordOf_1 : decode cX2_wordOf 1 = .ok (.lookupswitch 132 #[(-6, 114), (-5, 111), (-4, 108), (-3, 105), (-2, 102), (-1, 99), (256, 117), (257, 120), (258, 123), (259, 126), (260, 129)], 99) := by decide +kernel
theorem dX2_wordOf_100 : decode cX2_wordOf 100 = .ok (.ldc 115, 2) := by decide +kernel
theorem dX2_wordOf_102 : decode cX2_wordOf 102 = .ok (.areturn, 1) := by decide +kernel
theorem dX2_wordOf_103 : decode cX2_wordOf 103 = .ok (.ldc 117, 2) := by decide +kernel
theorem dX2_wordOf_105 : decode cX2_wordOf 105 = .ok (.areturn, 1) := by decide +kernel
theorem dX2_wordOf_106 : decode cX2_wordOf 106 = .ok (.ldc 119, 2) := by decide +kernel
theorem dX2_wordOf_108 : decode cX2_wordOf 108 = .ok (.areturn, 1) := by decide +kernel
theorem dX2_wordOf_109 : decode cX2_wordOf 109 = .ok (.ldc 121, 2) := by decide +kernel
theorem dX2_wordOf_111 : decode cX2_wordOf 111 = .ok (.areturn, 1) := by decide +kernel
theorem dX2_wordOf_112 : decode cX2_wordOf 112 = .ok (.ldc 123, 2) := by decide +kernel
theorem dX2_wordOf_114 : decode cX2_wordOf 114 = .ok (.areturn, 1) := by decide +kernel
theorem dX2_wordOf_115 : decode cX2_wordOf 115 = .ok (.ldc 125, 2) := by decide +kernel
theorem dX2_wordOf_117 : decode cX2_wordOf 117 = .ok (.areturn, 1) := by decide +kernel
theorem dX2_wordOf_118 : decode cX2_wordOf 118 = .ok (.ldc 127, 2) := by decide +kernel
theorem dX2_wordOf_120 : decode cX2_wordOf 120 = .ok (.areturn, 1) := by decide +kernel
theorem dX2_wordOf_121 : decode cX2_wordOf 121 = .ok (.ldc 129, 2) := by decide +kernel
theorem dX2_wordOf_123 : decode cX2_wordOf 123 = .ok (.areturn, 1) := by decide +kernel
theorem dX2_wordOf_124 : decode cX2_wordOf 124 = .ok (.ldc 131, 2) := by decide +kernel
theorem dX2_wordOf_126 : decode cX2_wordOf 126 = .ok (.areturn, 1) := by decide +kernel
theorem dX2_wordOf_127 : decode cX2_wordOf 127 = .ok (.ldc 133, 2) := by decide +kernel
theorem dX2_wordOf_129 : decode cX2_wordOf 129 = .ok (.areturn, 1) := by decide +kernel
theorem dX2_wordOf_130 : decode cX2_wordOf 130 = .ok (.ldc 135, 2) := by decide +kernel
theorem dX2_wordOf_132 : decode cX2_wordOf 132 = .ok (.areturn, 1) := by decide +kernel
theorem dX2_wordOf_133 : decode cX2_wordOf 133 = .ok (.ldc 137, 2) := by decide +kernel
theorem dX2_wordOf_135 : decode cX2_wordOf 135 = .ok (.areturn, 1) := by decide +kernel
theorem dX2_isLetter_0 : decode cX2_isLetter 0 = .ok (.iload_n 0, 1) := by decide +kernel
theorem dX2_isLetter_1 : decode cX2_isLetter 1 = .ok (.bipush 97, 2) := by decide +kernel
theorem dX2_isLetter_3 : decode cX2_isLetter 3 = .ok (.if_icmp .lt 13, 3) := by decide +kernel
theorem dX2_isLetter_6 : decode cX2_isLetter 6 = .ok (.iload_n 0, 1) := by decide +kernel
theorem dX2_isLetter_7 : decode cX2_isLetter 7 = .ok (.bipush 122, 2) := by decide +kernel
theorem dX2_isLetter_9 : decode cX2_isLetter 9 = .ok (.if_icmp .gt 7, 3) := by decide +kernel
theorem dX2_isLetter_12 : decode cX2_isLetter 12 = .ok (.iconst 1, 1) := by decide +kernel
theorem dX2_isLetter_13 : decode cX2_isLetter 13 = .ok (.goto 4, 3) := by decide +kernel
theorem dX2_isLetter_16 : decode cX2_isLetter 16 = .ok (.iconst 0, 1) := by decide +kernel
theorem dX2_isLetter_17 : decode cX2_isLetter 17 = .ok (.ireturn, 1) := by decide +kernel
theorem dX2_isDigit_0 : decode cX2_isDigit 0 = .ok (.iload_n 0, 1) := by decide +kernel
theorem dX2_isDigit_1 : decode cX2_isDigit 1 = .ok (.bipush 48, 2) := by decide +kernel
theorem dX2_isDigit_3 : decode cX2_isDigit 3 = .ok (.if_icmp .lt 13, 3) := by decide +kernel
theorem dX2_isDigit_6 : decode cX2_isDigit 6 = .ok (.iload_n 0, 1) := by decide +kernel
theorem dX2_isDigit_7 : decode cX2_isDigit 7 = .ok (.bipush 57, 2) := by decide +kernel
theorem dX2_isDigit_9 : decode cX2_isDigit 9 = .ok (.if_icmp .gt 7, 3) := by decide +kernel
theorem dX2_isDigit_12 : decode cX2_isDigit 12 = .ok (.iconst 1, 1) := by decide +kernel
theorem dX2_isDigit_13 : decode cX2_isDigit 13 = .ok (.goto 4, 3) := by decide +kernel
theorem dX2_isDigit_16 : decode cX2_isDigit 16 = .ok (.iconst 0, 1) := by decide +kernel
theorem dX2_isDigit_17 : decode cX2_isDigit 17 = .ok (.ireturn, 1) := by decide +kernel
theorem dX2_isSign_0 : decode cX2_isSign 0 = .ok (.iload_n 0, 1) := by decide +kernel
theorem dX2_isSign_1 : decode cX2_isSign 1 = .ok (.bipush 40, 2) := by decide +kernel
theorem dX2_isSign_3 : decode cX2_isSign 3 = .ok (.if_icmp .eq 45, 3) := by decide +kernel
theorem dX2_isSign_6 : decode cX2_isSign 6 = .ok (.iload_n 0, 1) := by decide +kernel
theorem dX2_isSign_7 : decode cX2_isSign 7 = .ok (.bipush 41, 2) := by decide +kernel
theorem dX2_isSign_9 : decode cX2_isSign 9 = .ok (.if_icmp .eq 39, 3) := by decide +kernel
theorem dX2_isSign_12 : decode cX2_isSign 12 = .ok (.iload_n 0, 1) := by decide +kernel
theorem dX2_isSign_13 : decode cX2_isSign 13 = .ok (.bipush 59, 2) := by decide +kernel
theorem dX2_isSign_15 : decode cX2_isSign 15 = .ok (.if_icmp .eq 33, 3) := by decide +kernel
theorem dX2_isSign_18 : decode cX2_isSign 18 = .ok (.iload_n 0, 1) := by decide +kernel
theorem dX2_isSign_19 : decode cX2_isSign 19 = .ok (.bipush 43, 2) := by decide +kernel
theorem dX2_isSign_21 : decode cX2_isSign 21 = .ok (.if_icmp .eq 27, 3) := by decide +kernel
theorem dX2_isSign_24 : decode cX2_isSign 24 = .ok (.iload_n 0, 1) := by decide +kernel
theorem dX2_isSign_25 : decode cX2_isSign 25 = .ok (.bipush 45, 2) := by decide +kernel
theorem dX2_isSign_27 : decode cX2_isSign 27 = .ok (.if_icmp .eq 21, 3) := by decide +kernel
theorem dX2_isSign_30 : decode cX2_isSign 30 = .ok (.iload_n 0, 1) := by decide +kernel
theorem dX2_isSign_31 : decode cX2_isSign 31 = .ok (.bipush 42, 2) := by decide +kernel
theorem dX2_isSign_33 : decode cX2_isSign 33 = .ok (.if_icmp .eq 15, 3) := by decide +kernel
theorem dX2_isSign_36 : decode cX2_isSign 36 = .ok (.iload_n 0, 1) := by decide +kernel
theorem dX2_isSign_37 : decode cX2_isSign 37 = .ok (.bipush 60, 2) := by decide +kernel
theorem dX2_isSign_39 : decode cX2_isSign 39 = .ok (.if_icmp .eq 9, 3) := by decide +kernel
theorem dX2_isSign_42 : decode cX2_isSign 42 = .ok (.iload_n 0, 1) := by decide +kernel
theorem dX2_isSign_43 : decode cX2_isSign 43 = .ok (.bipush 61, 2) := by decide +kernel
theorem dX2_isSign_45 : decode cX2_isSign 45 = .ok (.if_icmp .ne 7, 3) := by decide +kernel
theorem dX2_isSign_48 : decode cX2_isSign 48 = .ok (.iconst 1, 1) := by decide +kernel
theorem dX2_isSign_49 : decode cX2_isSign 49 = .ok (.goto 4, 3) := by decide +kernel
theorem dX2_isSign_52 : decode cX2_isSign 52 = .ok (.iconst 0, 1) := by decide +kernel
theorem dX2_isSign_53 : decode cX2_isSign 53 = .ok (.ireturn, 1) := by decide +kernel
theorem dX3_init_0 : decode cX3_init 0 = .ok (.aload_n 0, 1) := by decide +kernel
theorem dX3_init_1 : decode cX3_init 1 = .ok (.invokespecial 3, 3) := by decide +kernel
theorem dX3_init_4 : decode cX3_init 4 = .ok (.aload_n 0, 1) := by decide +kernel
theorem dX3_init_5 : decode cX3_init 5 = .ok (.sipush 160, 3) := by decide +kernel
theorem dX3_init_8 : decode cX3_init 8 = .ok (.newarray .int, 2) := by decide +kernel
theorem dX3_init_10 : decode cX3_init 10 = .ok (.putfield 9, 3) := by decide +kernel
theorem dX3_init_13 : decode cX3_init 13 = .ok (.aload_n 0, 1) := by decide +kernel
theorem dX3_init_14 : decode cX3_init 14 = .ok (.sipush 160, 3) := by decide +kernel
theorem dX3_init_17 : decode cX3_init 17 = .ok (.newarray .int, 2) := by decide +kernel
theorem dX3_init_19 : decode cX3_init 19 = .ok (.putfield 15, 3) := by decide +kernel
theorem dX3_init_22 : decode cX3_init 22 = .ok (.aload_n 0, 1) := by decide +kernel
theorem dX3_init_23 : decode cX3_init 23 = .ok (.iconst 3, 1) := by decide +kernel
theorem dX3_init_24 : decode cX3_init 24 = .ok (.newarray .int, 2) := by decide +kernel
theorem dX3_init_26 : decode cX3_init 26 = .ok (.putfield 18, 3) := by decide +kernel
theorem dX3_init_29 : decode cX3_init 29 = .ok (.aload_n 0, 1) := by decide +kernel
theorem dX3_init_30 : decode cX3_init 30 = .ok (.iconst 0, 1) := by decide +kernel
theorem dX3_init_31 : decode cX3_init 31 = .ok (.putfield 21, 3) := by decide +kernel
theorem dX3_init_34 : decode cX3_init 34 = .ok (.return_, 1) := by decide +kernel
set_option maxRecDepth 20000 in
theorem ggX3_becomeFirstLaw_X3_empty : GoodIn wsX3_becomeFirstLaw wsX3_empty := goodIn_r _ [5, 6, 17, 18, 19, 20] (by decide +kernel) (by decide +kernel)
set_option maxRecDepth 20000 in
theorem gX3_becomeFirstLaw_X3_empty : GoodIn wsX3_becomeFirstLaw (wsV RX3 25 RX3 yX3_empty wsX3_empty) := goodIn_app (goodIn_of _ (by decide +kernel)) ggX3_becomeFirstLaw_X3_empty
set_option maxRecDepth 20000 in
theorem ggX3_becomeFirstLaw_X3_add : GoodIn wsX3_becomeFirstLaw wsX3_add := goodIn_r _ [10, 6, 11, 17, 18, 19, 20] (by decide +kernel) (by decide +kernel)
set_option maxRecDepth 20000 in
theorem gX3_becomeFirstLaw_X3_add : GoodIn wsX3_becomeFirstLaw (wsV RX3 28 RX3 yX3_add wsX3_add) := goodIn_app (goodIn_of _ (by decide +kernel)) ggX3_becomeFirstLaw_X3_add
set_option maxRecDepth 20000 in
theorem ggX3_becomeFirstLaw_X3_endPart : GoodIn wsX3_becomeFirstLaw wsX3_endPart := goodIn_r _ [15, 16, 6, 17, 18, 19, 20] (by decide +kernel) (by decide +kernel)
set_option maxRecDepth 20000 in
theorem gX3_becomeFirstLaw_X3_endPart : GoodIn wsX3_becomeFirstLaw (wsV RX3 32 RX3 yX3_endPart wsX3_endPart) := goodIn_app (goodIn_of _ (by decide +kernel)) ggX3_becomeFirstLaw_X3_endPart
theorem dX3_becomeFirstLaw_0 : decode cX3_becomeFirstLaw 0 = .ok (.aload_n 0, 1) := by decide +kernel
theorem dX3_becomeFirstLaw_1 : decode cX3_becomeFirstLaw 1 = .ok (.invokevirtual 25, 3) := by decide +kernel
theorem dX3_becomeFirstLaw_4 : decode cX3_becomeFirstLaw 4 = .ok (.aload_n 0, 1) := by decide +kernel
theorem dX3_becomeFirstLaw_5 : decode cX3_becomeFirstLaw 5 = .ok (.iconst (-1), 1) := by decide +kernel
theorem dX3_becomeFirstLaw_6 : decode cX3_becomeFirstLaw 6 = .ok (.invokevirtual 28, 3) := by decide +kernel
theorem dX3_becomeFirstLaw_9 : decode cX3_becomeFirstLaw 9 = .ok (.aload_n 0, 1) := by decide +kernel
theorem dX3_becomeFirstLaw_10 : decode cX3_becomeFirstLaw 10 = .ok (.iconst 0, 1) := by decide +kernel
theorem dX3_becomeFirstLaw_11 : decode cX3_becomeFirstLaw 11 = .ok (.invokevirtual 32, 3) := by decide +kernel
theorem dX3_becomeFirstLaw_14 : decode cX3_becomeFirstLaw 14 = .ok (.aload_n 0, 1) := by decide +kernel
theorem dX3_becomeFirstLaw_15 : decode cX3_becomeFirstLaw 15 = .ok (.iconst 1, 1) := by decide +kernel
theorem dX3_becomeFirstLaw_16 : decode cX3_becomeFirstLaw 16 = .ok (.invokevirtual 28, 3) := by decide +kernel
theorem dX3_becomeFirstLaw_19 : decode cX3_becomeFirstLaw 19 = .ok (.aload_n 0, 1) := by decide +kernel
theorem dX3_becomeFirstLaw_20 : decode cX3_becomeFirstLaw 20 = .ok (.iconst 1, 1) := by decide +kernel
theorem dX3_becomeFirstLaw_21 : decode cX3_becomeFirstLaw 21 = .ok (.invokevirtual 32, 3) := by decide +kernel
theorem dX3_becomeFirstLaw_24 : decode cX3_becomeFirstLaw 24 = .ok (.aload_n 0, 1) := by decide +kernel
theorem dX3_becomeFirstLaw_25 : decode cX3_becomeFirstLaw 25 = .ok (.iconst 1, 1) := by decide +kernel
theorem dX3_becomeFirstLaw_26 : decode cX3_becomeFirstLaw 26 = .ok (.invokevirtual 28, 3) := by decide +kernel
theorem dX3_becomeFirstLaw_29 : decode cX3_becomeFirstLaw 29 = .ok (.aload_n 0, 1) := by decide +kernel
theorem dX3_becomeFirstLaw_30 : decode cX3_becomeFirstLaw 30 = .ok (.iconst 2, 1) := by decide +kernel
theorem dX3_becomeFirstLaw_31 : decode cX3_becomeFirstLaw 31 = .ok (.invokevirtual 32, 3) := by decide +kernel
theorem dX3_becomeFirstLaw_34 : decode cX3_becomeFirstLaw 34 = .ok (.return_, 1) := by decide +kernel
theorem dX3_empty_0 : decode cX3_empty 0 = .ok (.aload_n 0, 1) := by decide +kernel
theorem dX3_empty_1 : decode cX3_empty 1 = .ok (.iconst 0, 1) := by decide +kernel
theorem dX3_empty_2 : decode cX3_empty 2 = .ok (.putfield 21, 3) := by decide +kernel
theorem dX3_empty_5 : decode cX3_empty 5 = .ok (.return_, 1) := by decide +kernel
theorem dX3_add_0 : decode cX3_add 0 = .ok (.aload_n 0, 1) := by decide +kernel
theorem dX3_add_1 : decode cX3_add 1 = .ok (.getfield 21, 3) := by decide +kernel
theorem dX3_add_4 : decode cX3_add 4 = .ok (.sipush 160, 3) := by decide +kernel
theorem dX3_add_7 : decode cX3_add 7 = .ok (.if_icmp .ge 23, 3) := by decide +kernel
theorem dX3_add_10 : decode cX3_add 10 = .ok (.aload_n 0, 1) := by decide +kernel
theorem dX3_add_11 : decode cX3_add 11 = .ok (.getfield 9, 3) := by decide +kernel
theorem dX3_add_14 : decode cX3_add 14 = .ok (.aload_n 0, 1) := by decide +kernel
theorem dX3_add_15 : decode cX3_add 15 = .ok (.getfield 21, 3) := by decide +kernel
theorem dX3_add_18 : decode cX3_add 18 = .ok (.iload_n 1, 1) := by decide +kernel
theorem dX3_add_19 : decode cX3_add 19 = .ok (.iastore, 1) := by decide +kernel
theorem dX3_add_20 : decode cX3_add 20 = .ok (.aload_n 0, 1) := by decide +kernel
theorem dX3_add_21 : decode cX3_add 21 = .ok (.dup, 1) := by decide +kernel
theorem dX3_add_22 : decode cX3_add 22 = .ok (.getfield 21, 3) := by decide +kernel
theorem dX3_add_25 : decode cX3_add 25 = .ok (.iconst 1, 1) := by decide +kernel
theorem dX3_add_26 : decode cX3_add 26 = .ok (.iadd, 1) := by decide +kernel
theorem dX3_add_27 : decode cX3_add 27 = .ok (.putfield 21, 3) := by decide +kernel
theorem dX3_add_30 : decode cX3_add 30 = .ok (.return_, 1) := by decide +kernel
theorem dX3_endPart_0 : decode cX3_endPart 0 = .ok (.aload_n 0, 1) := by decide +kernel
theorem dX3_endPart_1 : decode cX3_endPart 1 = .ok (.getfield 18, 3) := by decide +kernel
theorem dX3_endPart_4 : decode cX3_endPart 4 = .ok (.iload_n 1, 1) := by decide +kernel
theorem dX3_endPart_5 : decode cX3_endPart 5 = .ok (.aload_n 0, 1) := by decide +kernel
theorem dX3_endPart_6 : decode cX3_endPart 6 = .ok (.getfield 21, 3) := by decide +kernel
theorem dX3_endPart_9 : decode cX3_endPart 9 = .ok (.iastore, 1) := by decide +kernel
theorem dX3_endPart_10 : decode cX3_endPart 10 = .ok (.return_, 1) := by decide +kernel
set_option maxRecDepth 20000 in
theorem ggX3_says_X4_has : GoodIn wsX3_says wsX4_has := goodIn_r _ [15, 16, 36, 37, 38, 39, 40, 41, 42, 43, 44, 45, 46, 47] (by decide +kernel) (by decide +kernel)
set_option maxRecDepth 20000 in
theorem gX3_says_X4_has : GoodIn wsX3_says (wsV RX3 35 RX4 yX4_has wsX4_has) := goodIn_app (goodIn_of _ (by decide +kernel)) ggX3_says_X4_has
set_option maxRecDepth 20000 in
theorem ggX3_says_X4_named : GoodIn wsX3_says wsX4_named := goodIn_r _ [20, 21, 22, 23, 5, 6, 7, 24, 25, 16, 26, 27, 12, 13, 14, 15, 36, 37, 38, 39, 40, 41, 42, 43, 44, 45, 46, 47] (by decide +kernel) (by decide +kernel)
set_option maxRecDepth 20000 in
theorem gX3_says_X4_named : GoodIn wsX3_says (wsV RX3 41 RX4 yX4_named wsX4_named) := goodIn_app (goodIn_of _ (by decide +kernel)) ggX3_says_X4_named
set_option maxRecDepth 20000 in
theorem ggX3_says_X3_joined : GoodIn wsX3_says wsX3_joined := goodIn_r _ [31] (by decide +kernel) (by decide +kernel)
set_option maxRecDepth 20000 in
theorem gX3_says_X3_joined : GoodIn wsX3_says (va_wsS RX3 45 yX3_joined wsX3_joined) := goodIn_app (goodIn_of _ (by decide +kernel)) ggX3_says_X3_joined
theorem dX3_says_0 : decode cX3_says 0 = .ok (.iload_n 1, 1) := by decide +kernel
theorem dX3_says_1 : decode cX3_says 1 = .ok (.ifCond .lt 16, 3) := by decide +kernel
theorem dX3_says_4 : decode cX3_says 4 = .ok (.iload_n 1, 1) := by decide +kernel
theorem dX3_says_5 : decode cX3_says 5 = .ok (.iconst 2, 1) := by decide +kernel
theorem dX3_says_6 : decode cX3_says 6 = .ok (.if_icmp .gt 11, 3) := by decide +kernel
theorem dX3_says_9 : decode cX3_says 9 = .ok (.aload_n 2, 1) := by decide +kernel
theorem dX3_says_10 : decode cX3_says 10 = .ok (.iload_n 3, 1) := by decide +kernel
theorem dX3_says_11 : decode cX3_says 11 = .ok (.invokevirtual 35, 3) := by decide +kernel
theorem dX3_says_14 : decode cX3_says 14 = .ok (.ifCond .ne 5, 3) := by decide +kernel
theorem dX3_says_17 : decode cX3_says 17 = .ok (.iconst 0, 1) := by decide +kernel
theorem dX3_says_18 : decode cX3_says 18 = .ok (.ireturn, 1) := by decide +kernel
theorem dX3_says_19 : decode cX3_says 19 = .ok (.iconst 0, 1) := by decide +kernel
theorem dX3_says_20 : decode cX3_says 20 = .ok (.istore 4, 2) := by decide +kernel
theorem dX3_says_22 : decode cX3_says 22 = .ok (.iload_n 1, 1) := by decide +kernel
theorem dX3_says_23 : decode cX3_says 23 = .ok (.ifCond .ne 7, 3) := by decide +kernel
theorem dX3_says_26 : decode cX3_says 26 = .ok (.iconst 0, 1) := by decide +kernel
theorem dX3_says_27 : decode cX3_says 27 = .ok (.goto 11, 3) := by decide +kernel
theorem dX3_says_30 : decode cX3_says 30 = .ok (.aload_n 0, 1) := by decide +kernel
theorem dX3_says_31 : decode cX3_says 31 = .ok (.getfield 18, 3) := by decide +kernel
theorem dX3_says_34 : decode cX3_says 34 = .ok (.iload_n 1, 1) := by decide +kernel
theorem dX3_says_35 : decode cX3_says 35 = .ok (.iconst 1, 1) := by decide +kernel
theorem dX3_says_36 : decode cX3_says 36 = .ok (.isub, 1) := by decide +kernel
theorem dX3_says_37 : decode cX3_says 37 = .ok (.iaload, 1) := by decide +kernel
theorem dX3_says_38 : decode cX3_says 38 = .ok (.istore 5, 2) := by decide +kernel
theorem dX3_says_40 : decode cX3_says 40 = .ok (.iload 5, 2) := by decide +kernel
theorem dX3_says_42 : decode cX3_says 42 = .ok (.aload_n 0, 1) := by decide +kernel
theorem dX3_says_43 : decode cX3_says 43 = .ok (.getfield 18, 3) := by decide +kernel
theorem dX3_says_46 : decode cX3_says 46 = .ok (.iload_n 1, 1) := by decide +kernel
theorem dX3_says_47 : decode cX3_says 47 = .ok (.iaload, 1) := by decide +kernel
theorem dX3_says_48 : decode cX3_says 48 = .ok (.if_icmp .ge 182, 3) := by decide +kernel
theorem dX3_says_51 : decode cX3_says 51 = .ok (.iload 5, 2) := by decide +kernel
theorem dX3_says_53 : decode cX3_says 53 = .ok (.sipush 160, 3) := by decide +kernel
theorem dX3_says_56 : decode cX3_says 56 = .ok (.if_icmp .ge 174, 3) := by decide +kernel
theorem dX3_says_59 : decode cX3_says 59 = .ok (.aload_n 0, 1) := by decide +kernel
theorem dX3_says_60 : decode cX3_says 60 = .ok (.getfield 9, 3) := by decide +kernel
theorem dX3_says_63 : decode cX3_says 63 = .ok (.iload 5, 2) := by decide +kernel
theorem dX3_says_65 : decode cX3_says 65 = .ok (.iaload, 1) := by decide +kernel
theorem dX3_says_66 : decode cX3_says 66 = .ok (.istore 6, 2) := by decide +kernel
theorem dX3_says_68 : decode cX3_says 68 = .ok (.iload 6, 2) := by decide +kernel
theorem dX3_says_70 : decode cX3_says 70 = .ok (.bipush (-6), 2) := by decide +kernel
theorem dX3_says_72 : decode cX3_says 72 = .ok (.if_icmp .lt 43, 3) := by decide +kernel
theorem dX3_says_75 : decode cX3_says 75 = .ok (.iload 4, 2) := by decide +kernel
theorem dX3_says_77 : decode cX3_says 77 = .ok (.sipush 160, 3) := by decide +kernel
theorem dX3_says_80 : decode cX3_says 80 = .ok (.if_icmp .lt 5, 3) := by decide +kernel
theorem dX3_says_83 : decode cX3_says 83 = .ok (.iconst 0, 1) := by decide +kernel
theorem dX3_says_84 : decode cX3_says 84 = .ok (.ireturn, 1) := by decide +kernel
theorem dX3_says_85 : decode cX3_says 85 = .ok (.aload_n 0, 1) := by decide +kernel
theorem dX3_says_86 : decode cX3_says 86 = .ok (.getfield 15, 3) := by decide +kernel
theorem dX3_says_89 : decode cX3_says 89 = .ok (.iload 4, 2) := by decide +kernel
theorem dX3_says_91 : decode cX3_says 91 = .ok (.iload 6, 2) := by decide +kernel
theorem dX3_says_93 : decode cX3_says 93 = .ok (.ifCond .lt 8, 3) := by decide +kernel
theorem dX3_says_96 : decode cX3_says 96 = .ok (.iload 6, 2) := by decide +kernel
theorem dX3_says_98 : decode cX3_says 98 = .ok (.goto 10, 3) := by decide +kernel
theorem dX3_says_101 : decode cX3_says 101 = .ok (.aload_n 2, 1) := by decide +kernel
theorem dX3_says_102 : decode cX3_says 102 = .ok (.iload 6, 2) := by decide +kernel
theorem dX3_says_104 : decode cX3_says 104 = .ok (.iload_n 3, 1) := by decide +kernel
theorem dX3_says_105 : decode cX3_says 105 = .ok (.invokevirtual 41, 3) := by decide +kernel
theorem dX3_says_108 : decode cX3_says 108 = .ok (.iastore, 1) := by decide +kernel
theorem dX3_says_109 : decode cX3_says 109 = .ok (.iinc 4 1, 3) := by decide +kernel
theorem dX3_says_112 : decode cX3_says 112 = .ok (.goto 112, 3) := by decide +kernel
theorem dX3_says_115 : decode cX3_says 115 = .ok (.iload 6, 2) := by decide +kernel
theorem dX3_says_117 : decode cX3_says 117 = .ok (.bipush (-9), 2) := by decide +kernel
theorem dX3_says_119 : decode cX3_says 119 = .ok (.if_icmp .eq 10, 3) := by decide +kernel
theorem dX3_says_122 : decode cX3_says 122 = .ok (.iload 6, 2) := by decide +kernel
theorem dX3_says_124 : decode cX3_says 124 = .ok (.bipush (-15), 2) := by decide +kernel
theorem dX3_says_126 : decode cX3_says 126 = .ok (.if_icmp .ne 57, 3) := by decide +kernel
theorem dX3_says_129 : decode cX3_says 129 = .ok (.iload 4, 2) := by decide +kernel
theorem dX3_says_131 : decode cX3_says 131 = .ok (.iconst 1, 1) := by decide +kernel
theorem dX3_says_132 : decode cX3_says 132 = .ok (.if_icmp .ge 5, 3) := by decide +kernel
theorem dX3_says_135 : decode cX3_says 135 = .ok (.iconst 0, 1) := by decide +kernel
theorem dX3_says_136 : decode cX3_says 136 = .ok (.ireturn, 1) := by decide +kernel
theorem dX3_says_137 : decode cX3_says 137 = .ok (.aload_n 0, 1) := by decide +kernel
theorem dX3_says_138 : decode cX3_says 138 = .ok (.getfield 15, 3) := by decide +kernel
theorem dX3_says_141 : decode cX3_says 141 = .ok (.iload 4, 2) := by decide +kernel
theorem dX3_says_143 : decode cX3_says 143 = .ok (.iconst 1, 1) := by decide +kernel
theorem dX3_says_144 : decode cX3_says 144 = .ok (.isub, 1) := by decide +kernel
theorem dX3_says_145 : decode cX3_says 145 = .ok (.iaload, 1) := by decide +kernel
theorem dX3_says_146 : decode cX3_says 146 = .ok (.istore 7, 2) := by decide +kernel
theorem dX3_says_148 : decode cX3_says 148 = .ok (.aload_n 0, 1) := by decide +kernel
theorem dX3_says_149 : decode cX3_says 149 = .ok (.getfield 15, 3) := by decide +kernel
theorem dX3_says_152 : decode cX3_says 152 = .ok (.iload 4, 2) := by decide +kernel
theorem dX3_says_154 : decode cX3_says 154 = .ok (.iconst 1, 1) := by decide +kernel
theorem dX3_says_155 : decode cX3_says 155 = .ok (.isub, 1) := by decide +kernel
theorem dX3_says_156 : decode cX3_says 156 = .ok (.iload 6, 2) := by decide +kernel
theorem dX3_says_158 : decode cX3_says 158 = .ok (.bipush (-15), 2) := by decide +kernel
theorem dX3_says_160 : decode cX3_says 160 = .ok (.if_icmp .ne 9, 3) := by decide +kernel
theorem dX3_says_163 : decode cX3_says 163 = .ok (.iload 7, 2) := by decide +kernel
theorem dX3_says_165 : decode cX3_says 165 = .ok (.ineg, 1) := by decide +kernel
theorem dX3_says_166 : decode cX3_says 166 = .ok (.goto 13, 3) := by decide +kernel
theorem dX3_says_169 : decode cX3_says 169 = .ok (.iload 7, 2) := by decide +kernel
theorem dX3_says_171 : decode cX3_says 171 = .ok (.ifCond .ne 7, 3) := by decide +kernel
theorem dX3_says_174 : decode cX3_says 174 = .ok (.iconst 1, 1) := by decide +kernel
theorem dX3_says_175 : decode cX3_says 175 = .ok (.goto 4, 3) := by decide +kernel
theorem dX3_says_178 : decode cX3_says 178 = .ok (.iconst 0, 1) := by decide +kernel
theorem dX3_says_179 : decode cX3_says 179 = .ok (.iastore, 1) := by decide +kernel
theorem dX3_says_180 : decode cX3_says 180 = .ok (.goto 44, 3) := by decide +kernel
theorem dX3_says_183 : decode cX3_says 183 = .ok (.iload 4, 2) := by decide +kernel
theorem dX3_says_185 : decode cX3_says 185 = .ok (.iconst 2, 1) := by decide +kernel
theorem dX3_says_186 : decode cX3_says 186 = .ok (.if_icmp .ge 5, 3) := by decide +kernel
theorem dX3_says_189 : decode cX3_says 189 = .ok (.iconst 0, 1) := by decide +kernel
theorem dX3_says_190 : decode cX3_says 190 = .ok (.ireturn, 1) := by decide +kernel
theorem dX3_says_191 : decode cX3_says 191 = .ok (.iinc 4 (-1), 3) := by decide +kernel
theorem dX3_says_194 : decode cX3_says 194 = .ok (.aload_n 0, 1) := by decide +kernel
theorem dX3_says_195 : decode cX3_says 195 = .ok (.getfield 15, 3) := by decide +kernel
theorem dX3_says_198 : decode cX3_says 198 = .ok (.iload 4, 2) := by decide +kernel
theorem dX3_says_200 : decode cX3_says 200 = .ok (.iconst 1, 1) := by decide +kernel
theorem dX3_says_201 : decode cX3_says 201 = .ok (.isub, 1) := by decide +kernel
theorem dX3_says_202 : decode cX3_says 202 = .ok (.iload 6, 2) := by decide +kernel
theorem dX3_says_204 : decode cX3_says 204 = .ok (.aload_n 0, 1) := by decide +kernel
theorem dX3_says_205 : decode cX3_says 205 = .ok (.getfield 15, 3) := by decide +kernel
theorem dX3_says_208 : decode cX3_says 208 = .ok (.iload 4, 2) := by decide +kernel
theorem dX3_says_210 : decode cX3_says 210 = .ok (.iconst 1, 1) := by decide +kernel
theorem dX3_says_211 : decode cX3_says 211 = .ok (.isub, 1) := by decide +kernel
theorem dX3_says_212 : decode cX3_says 212 = .ok (.iaload, 1) := by decide +kernel
theorem dX3_says_213 : decode cX3_says 213 = .ok (.aload_n 0, 1) := by decide +kernel
theorem dX3_says_214 : decode cX3_says 214 = .ok (.getfield 15, 3) := by decide +kernel
theorem dX3_says_217 : decode cX3_says 217 = .ok (.iload 4, 2) := by decide +kernel
theorem dX3_says_219 : decode cX3_says 219 = .ok (.iaload, 1) := by decide +kernel
theorem dX3_says_220 : decode cX3_says 220 = .ok (.invokestatic 45, 3) := by decide +kernel
theorem dX3_says_223 : decode cX3_says 223 = .ok (.iastore, 1) := by decide +kernel
theorem dX3_says_224 : decode cX3_says 224 = .ok (.iinc 5 1, 3) := by decide +kernel
theorem dX3_says_227 : decode cX3_says 227 = .ok (.goto (-187), 3) := by decide +kernel
theorem dX3_says_230 : decode cX3_says 230 = .ok (.iload_n 1, 1) := by decide +kernel
theorem dX3_says_231 : decode cX3_says 231 = .ok (.iconst 1, 1) := by decide +kernel
theorem dX3_says_232 : decode cX3_says 232 = .ok (.if_icmp .ne 8, 3) := by decide +kernel
theorem dX3_says_235 : decode cX3_says 235 = .ok (.bipush (-99), 2) := by decide +kernel
theorem dX3_says_237 : decode cX3_says 237 = .ok (.goto 4, 3) := by decide +kernel
theorem dX3_says_240 : decode cX3_says 240 = .ok (.iconst 0, 1) := by decide +kernel
theorem dX3_says_241 : decode cX3_says 241 = .ok (.bipush 99, 2) := by decide +kernel
theorem dX3_says_243 : decode cX3_says 243 = .ok (.aload_n 0, 1) := by decide +kernel
theorem dX3_says_244 : decode cX3_says 244 = .ok (.getfield 15, 3) := by decide +kernel
theorem dX3_says_247 : decode cX3_says 247 = .ok (.iconst 0, 1) := by decide +kernel
theorem dX3_says_248 : decode cX3_says 248 = .ok (.iaload, 1) := by decide +kernel
theorem dX3_says_249 : decode cX3_says 249 = .ok (.invokestatic 49, 3) := by decide +kernel
theorem dX3_says_252 : decode cX3_says 252 = .ok (.invokestatic 54, 3) := by decide +kernel
theorem dX3_says_255 : decode cX3_says 255 = .ok (.ireturn, 1) := by decide +kernel
theorem dX3_joined_0 : decode cX3_joined 0 = .ok (.iload_n 0, 1) := by decide +kernel
theorem dX3_joined_1 : decode cX3_joined 1 = .ok (.tableswitch 101 (-13) (-7) #[97, 93, 82, 71, 101, 57, 43], 43) := by decide +kernel
theorem dX3_joined_44 : decode cX3_joined 44 = .ok (.iload_n 1, 1) := by decide +kernel
theorem dX3_joined_45 : decode cX3_joined 45 = .ok (.ifCond .ne 7, 3) := by decide +kernel
theorem dX3_joined_48 : decode cX3_joined 48 = .ok (.iload_n 2, 1) := by decide +kernel
theorem dX3_joined_49 : decode cX3_joined 49 = .ok (.ifCond .eq 7, 3) := by decide +kernel
theorem dX3_joined_52 : decode cX3_joined 52 = .ok (.iconst 1, 1) := by decide +kernel
theorem dX3_joined_53 : decode cX3_joined 53 = .ok (.goto 4, 3) := by decide +kernel
theorem dX3_joined_56 : decode cX3_joined 56 = .ok (.iconst 0, 1) := by decide +kernel
theorem dX3_joined_57 : decode cX3_joined 57 = .ok (.ireturn, 1) := by decide +kernel
theorem dX3_joined_58 : decode cX3_joined 58 = .ok (.iload_n 1, 1) := by decide +kernel
theorem dX3_joined_59 : decode cX3_joined 59 = .ok (.ifCond .eq 11, 3) := by decide +kernel
theorem dX3_joined_62 : decode cX3_joined 62 = .ok (.iload_n 2, 1) := by decide +kernel
theorem dX3_joined_63 : decode cX3_joined 63 = .ok (.ifCond .eq 7, 3) := by decide +kernel
theorem dX3_joined_66 : decode cX3_joined 66 = .ok (.iconst 1, 1) := by decide +kernel
theorem dX3_joined_67 : decode cX3_joined 67 = .ok (.goto 4, 3) := by decide +kernel
theorem dX3_joined_70 : decode cX3_joined 70 = .ok (.iconst 0, 1) := by decide +kernel
theorem dX3_joined_71 : decode cX3_joined 71 = .ok (.ireturn, 1) := by decide +kernel
theorem dX3_joined_72 : decode cX3_joined 72 = .ok (.iload_n 1, 1) := by decide +kernel
theorem dX3_joined_73 : decode cX3_joined 73 = .ok (.iload_n 2, 1) := by decide +kernel
theorem dX3_joined_74 : decode cX3_joined 74 = .ok (.if_icmp .ge 7, 3) := by decide +kernel
theorem dX3_joined_77 : decode cX3_joined 77 = .ok (.iconst 1, 1) := by decide +kernel
theorem dX3_joined_78 : decode cX3_joined 78 = .ok (.goto 4, 3) := by decide +kernel
theorem dX3_joined_81 : decode cX3_joined 81 = .ok (.iconst 0, 1) := by decide +kernel
theorem dX3_joined_82 : decode cX3_joined 82 = .ok (.ireturn, 1) := by decide +kernel
theorem dX3_joined_83 : decode cX3_joined 83 = .ok (.iload_n 1, 1) := by decide +kernel
theorem dX3_joined_84 : decode cX3_joined 84 = .ok (.iload_n 2, 1) := by decide +kernel
theorem dX3_joined_85 : decode cX3_joined 85 = .ok (.if_icmp .ne 7, 3) := by decide +kernel
theorem dX3_joined_88 : decode cX3_joined 88 = .ok (.iconst 1, 1) := by decide +kernel
theorem dX3_joined_89 : decode cX3_joined 89 = .ok (.goto 4, 3) := by decide +kernel
theorem dX3_joined_92 : decode cX3_joined 92 = .ok (.iconst 0, 1) := by decide +kernel
theorem dX3_joined_93 : decode cX3_joined 93 = .ok (.ireturn, 1) := by decide +kernel
theorem dX3_joined_94 : decode cX3_joined 94 = .ok (.iload_n 1, 1) := by decide +kernel
theorem dX3_joined_95 : decode cX3_joined 95 = .ok (.iload_n 2, 1) := by decide +kernel
theorem dX3_joined_96 : decode cX3_joined 96 = .ok (.iadd, 1) := by decide +kernel
theorem dX3_joined_97 : decode cX3_joined 97 = .ok (.ireturn, 1) := by decide +kernel
theorem dX3_joined_98 : decode cX3_joined 98 = .ok (.iload_n 1, 1) := by decide +kernel
theorem dX3_joined_99 : decode cX3_joined 99 = .ok (.iload_n 2, 1) := by decide +kernel
theorem dX3_joined_100 : decode cX3_joined 100 = .ok (.isub, 1) := by decide +kernel
theorem dX3_joined_101 : decode cX3_joined 101 = .ok (.ireturn, 1) := by decide +kernel
theorem dX3_joined_102 : decode cX3_joined 102 = .ok (.iload_n 1, 1) := by decide +kernel
theorem dX3_joined_103 : decode cX3_joined 103 = .ok (.iload_n 2, 1) := by decide +kernel
theorem dX3_joined_104 : decode cX3_joined 104 = .ok (.imul, 1) := by decide +kernel
theorem dX3_joined_105 : decode cX3_joined 105 = .ok (.ireturn, 1) := by decide +kernel
theorem dX4_init_0 : decode cX4_init 0 = .ok (.aload_n 0, 1) := by decide +kernel
theorem dX4_init_1 : decode cX4_init 1 = .ok (.invokespecial 3, 3) := by decide +kernel
theorem dX4_init_4 : decode cX4_init 4 = .ok (.aload_n 0, 1) := by decide +kernel
theorem dX4_init_5 : decode cX4_init 5 = .ok (.bipush 6, 2) := by decide +kernel
theorem dX4_init_7 : decode cX4_init 7 = .ok (.newarray .int, 2) := by decide +kernel
theorem dX4_init_9 : decode cX4_init 9 = .ok (.putfield 9, 3) := by decide +kernel
theorem dX4_init_12 : decode cX4_init 12 = .ok (.aload_n 0, 1) := by decide +kernel
theorem dX4_init_13 : decode cX4_init 13 = .ok (.bipush 6, 2) := by decide +kernel
theorem dX4_init_15 : decode cX4_init 15 = .ok (.newarray .int, 2) := by decide +kernel
theorem dX4_init_17 : decode cX4_init 17 = .ok (.putfield 15, 3) := by decide +kernel
theorem dX4_init_20 : decode cX4_init 20 = .ok (.aload_n 0, 1) := by decide +kernel
theorem dX4_init_21 : decode cX4_init 21 = .ok (.bipush 6, 2) := by decide +kernel
theorem dX4_init_23 : decode cX4_init 23 = .ok (.newarray .int, 2) := by decide +kernel
theorem dX4_init_25 : decode cX4_init 25 = .ok (.putfield 18, 3) := by decide +kernel
theorem dX4_init_28 : decode cX4_init 28 = .ok (.aload_n 0, 1) := by decide +kernel
theorem dX4_init_29 : decode cX4_init 29 = .ok (.bipush 6, 2) := by decide +kernel
theorem dX4_init_31 : decode cX4_init 31 = .ok (.newarray .int, 2) := by decide +kernel
theorem dX4_init_33 : decode cX4_init 33 = .ok (.putfield 21, 3) := by decide +kernel
theorem dX4_init_36 : decode cX4_init 36 = .ok (.aload_n 0, 1) := by decide +kernel
theorem dX4_init_37 : decode cX4_init 37 = .ok (.bipush 6, 2) := by decide +kernel
theorem dX4_init_39 : decode cX4_init 39 = .ok (.newarray .int, 2) := by decide +kernel
theorem dX4_init_41 : decode cX4_init 41 = .ok (.putfield 24, 3) := by decide +kernel
theorem dX4_init_44 : decode cX4_init 44 = .ok (.aload_n 0, 1) := by decide +kernel
theorem dX4_init_45 : decode cX4_init 45 = .ok (.iconst 0, 1) := by decide +kernel
theorem dX4_init_46 : decode cX4_init 46 = .ok (.putfield 27, 3) := by decide +kernel
theorem dX4_init_49 : decode cX4_init 49 = .ok (.aload_n 0, 1) := by decide +kernel
theorem dX4_init_50 : decode cX4_init 50 = .ok (.iconst 0, 1) := by decide +kernel
theorem dX4_init_51 : decode cX4_init 51 = .ok (.putfield 31, 3) := by decide +kernel
theorem dX4_init_54 : decode cX4_init 54 = .ok (.aload_n 0, 1) := by decide +kernel
theorem dX4_init_55 : decode cX4_init 55 = .ok (.iconst 0, 1) := by decide +kernel
theorem dX4_init_56 : decode cX4_init 56 = .ok (.putfield 34, 3) := by decide +kernel
theorem dX4_init_59 : decode cX4_init 59 = .ok (.aload_n 0, 1) := by decide +kernel
theorem dX4_init_60 : decode cX4_init 60 = .ok (.iconst 0, 1) := by decide +kernel
theorem dX4_init_61 : decode cX4_init 61 = .ok (.putfield 37, 3) := by decide +kernel
theorem dX4_init_64 : decode cX4_init 64 = .ok (.aload_n 0, 1) := by decide +kernel
theorem dX4_init_65 : decode cX4_init 65 = .ok (.iconst 0, 1) := by decide +kernel
theorem dX4_init_66 : decode cX4_init 66 = .ok (.putfield 40, 3) := by decide +kernel
theorem dX4_init_69 : decode cX4_init 69 = .ok (.aload_n 0, 1) := by decide +kernel
theorem dX4_init_70 : decode cX4_init 70 = .ok (.iconst 0, 1) := by decide +kernel
theorem dX4_init_71 : decode cX4_init 71 = .ok (.putfield 43, 3) := by decide +kernel
theorem dX4_init_74 : decode cX4_init 74 = .ok (.aload_n 0, 1) := by decide +kernel
theorem dX4_init_75 : decode cX4_init 75 = .ok (.aload_n 1, 1) := by decide +kernel
theorem dX4_init_76 : decode cX4_init 76 = .ok (.putfield 46, 3) := by decide +kernel
theorem dX4_init_79 : decode cX4_init 79 = .ok (.return_, 1) := by decide +kernel
set_option maxRecDepth 20000 in
theorem ggX4_become_X4_obey : GoodIn wsX4_become wsX4_obey := goodIn_r _ [17, 11, 12, 18, 19, 20, 21, 22, 23, 24, 25, 26, 27, 28, 29] (by decide +kernel) (by decide +kernel)
set_option maxRecDepth 20000 in
theorem gX4_become_X4_obey : GoodIn wsX4_become (wsV RX4 50 RX4 yX4_obey wsX4_obey) := goodIn_app (goodIn_of _ (by decide +kernel)) ggX4_become_X4_obey
theorem dX4_become_0 : decode cX4_become 0 = .ok (.iconst 0, 1) := by decide +kernel
theorem dX4_become_1 : decode cX4_become 1 = .ok (.istore_n 2, 1) := by decide +kernel
theorem dX4_become_2 : decode cX4_become 2 = .ok (.iload_n 2, 1) := by decide +kernel
theorem dX4_become_3 : decode cX4_become 3 = .ok (.bipush 6, 2) := by decide +kernel
theorem dX4_become_5 : decode cX4_become 5 = .ok (.if_icmp .ge 69, 3) := by decide +kernel
theorem dX4_become_8 : decode cX4_become 8 = .ok (.aload_n 0, 1) := by decide +kernel
theorem dX4_become_9 : decode cX4_become 9 = .ok (.getfield 9, 3) := by decide +kernel
theorem dX4_become_12 : decode cX4_become 12 = .ok (.iload_n 2, 1) := by decide +kernel
theorem dX4_become_13 : decode cX4_become 13 = .ok (.aload_n 1, 1) := by decide +kernel
theorem dX4_become_14 : decode cX4_become 14 = .ok (.getfield 9, 3) := by decide +kernel
theorem dX4_become_17 : decode cX4_become 17 = .ok (.iload_n 2, 1) := by decide +kernel
theorem dX4_become_18 : decode cX4_become 18 = .ok (.iaload, 1) := by decide +kernel
theorem dX4_become_19 : decode cX4_become 19 = .ok (.iastore, 1) := by decide +kernel
theorem dX4_become_20 : decode cX4_become 20 = .ok (.aload_n 0, 1) := by decide +kernel
theorem dX4_become_21 : decode cX4_become 21 = .ok (.getfield 15, 3) := by decide +kernel
theorem dX4_become_24 : decode cX4_become 24 = .ok (.iload_n 2, 1) := by decide +kernel
theorem dX4_become_25 : decode cX4_become 25 = .ok (.aload_n 1, 1) := by decide +kernel
theorem dX4_become_26 : decode cX4_become 26 = .ok (.getfield 15, 3) := by decide +kernel
theorem dX4_become_29 : decode cX4_become 29 = .ok (.iload_n 2, 1) := by decide +kernel
theorem dX4_become_30 : decode cX4_become 30 = .ok (.iaload, 1) := by decide +kernel
theorem dX4_become_31 : decode cX4_become 31 = .ok (.iastore, 1) := by decide +kernel
theorem dX4_become_32 : decode cX4_become 32 = .ok (.aload_n 0, 1) := by decide +kernel
theorem dX4_become_33 : decode cX4_become 33 = .ok (.getfield 18, 3) := by decide +kernel
theorem dX4_become_36 : decode cX4_become 36 = .ok (.iload_n 2, 1) := by decide +kernel
theorem dX4_become_37 : decode cX4_become 37 = .ok (.aload_n 1, 1) := by decide +kernel
theorem dX4_become_38 : decode cX4_become 38 = .ok (.getfield 18, 3) := by decide +kernel
theorem dX4_become_41 : decode cX4_become 41 = .ok (.iload_n 2, 1) := by decide +kernel
theorem dX4_become_42 : decode cX4_become 42 = .ok (.iaload, 1) := by decide +kernel
theorem dX4_become_43 : decode cX4_become 43 = .ok (.iastore, 1) := by decide +kernel
theorem dX4_become_44 : decode cX4_become 44 = .ok (.aload_n 0, 1) := by decide +kernel
theorem dX4_become_45 : decode cX4_become 45 = .ok (.getfield 21, 3) := by decide +kernel
theorem dX4_become_48 : decode cX4_become 48 = .ok (.iload_n 2, 1) := by decide +kernel
theorem dX4_become_49 : decode cX4_become 49 = .ok (.aload_n 1, 1) := by decide +kernel
theorem dX4_become_50 : decode cX4_become 50 = .ok (.getfield 21, 3) := by decide +kernel
theorem dX4_become_53 : decode cX4_become 53 = .ok (.iload_n 2, 1) := by decide +kernel
theorem dX4_become_54 : decode cX4_become 54 = .ok (.iaload, 1) := by decide +kernel
theorem dX4_become_55 : decode cX4_become 55 = .ok (.iastore, 1) := by decide +kernel
theorem dX4_become_56 : decode cX4_become 56 = .ok (.aload_n 0, 1) := by decide +kernel
theorem dX4_become_57 : decode cX4_become 57 = .ok (.getfield 24, 3) := by decide +kernel
theorem dX4_become_60 : decode cX4_become 60 = .ok (.iload_n 2, 1) := by decide +kernel
theorem dX4_become_61 : decode cX4_become 61 = .ok (.aload_n 1, 1) := by decide +kernel
theorem dX4_become_62 : decode cX4_become 62 = .ok (.getfield 24, 3) := by decide +kernel
theorem dX4_become_65 : decode cX4_become 65 = .ok (.iload_n 2, 1) := by decide +kernel
theorem dX4_become_66 : decode cX4_become 66 = .ok (.iaload, 1) := by decide +kernel
theorem dX4_become_67 : decode cX4_become 67 = .ok (.iastore, 1) := by decide +kernel
theorem dX4_become_68 : decode cX4_become 68 = .ok (.iinc 2 1, 3) := by decide +kernel
theorem dX4_become_71 : decode cX4_become 71 = .ok (.goto (-69), 3) := by decide +kernel
theorem dX4_become_74 : decode cX4_become 74 = .ok (.aload_n 0, 1) := by decide +kernel
theorem dX4_become_75 : decode cX4_become 75 = .ok (.aload_n 1, 1) := by decide +kernel
theorem dX4_become_76 : decode cX4_become 76 = .ok (.getfield 27, 3) := by decide +kernel
theorem dX4_become_79 : decode cX4_become 79 = .ok (.putfield 27, 3) := by decide +kernel
theorem dX4_become_82 : decode cX4_become 82 = .ok (.aload_n 0, 1) := by decide +kernel
theorem dX4_become_83 : decode cX4_become 83 = .ok (.aload_n 1, 1) := by decide +kernel
theorem dX4_become_84 : decode cX4_become 84 = .ok (.getfield 31, 3) := by decide +kernel
theorem dX4_become_87 : decode cX4_become 87 = .ok (.putfield 31, 3) := by decide +kernel
theorem dX4_become_90 : decode cX4_become 90 = .ok (.aload_n 0, 1) := by decide +kernel
theorem dX4_become_91 : decode cX4_become 91 = .ok (.aload_n 1, 1) := by decide +kernel
theorem dX4_become_92 : decode cX4_become 92 = .ok (.getfield 34, 3) := by decide +kernel
theorem dX4_become_95 : decode cX4_become 95 = .ok (.putfield 34, 3) := by decide +kernel
theorem dX4_become_98 : decode cX4_become 98 = .ok (.aload_n 0, 1) := by decide +kernel
theorem dX4_become_99 : decode cX4_become 99 = .ok (.aload_n 1, 1) := by decide +kernel
theorem dX4_become_100 : decode cX4_become 100 = .ok (.getfield 37, 3) := by decide +kernel
theorem dX4_become_103 : decode cX4_become 103 = .ok (.putfield 37, 3) := by decide +kernel
theorem dX4_become_106 : decode cX4_become 106 = .ok (.aload_n 0, 1) := by decide +kernel
theorem dX4_become_107 : decode cX4_become 107 = .ok (.aload_n 1, 1) := by decide +kernel
theorem dX4_become_108 : decode cX4_become 108 = .ok (.getfield 40, 3) := by decide +kernel
theorem dX4_become_111 : decode cX4_become 111 = .ok (.putfield 40, 3) := by decide +kernel
theorem dX4_become_114 : decode cX4_become 114 = .ok (.aload_n 0, 1) := by decide +kernel
theorem dX4_become_115 : decode cX4_become 115 = .ok (.aload_n 1, 1) := by decide +kernel
theorem dX4_become_116 : decode cX4_become 116 = .ok (.getfield 46, 3) := by decide +kernel
theorem dX4_become_119 : decode cX4_become 119 = .ok (.aload_n 1, 1) := by decide +kernel
theorem dX4_become_120 : decode cX4_become 120 = .ok (.getfield 43, 3) := by decide +kernel
theorem dX4_become_123 : decode cX4_become 123 = .ok (.invokevirtual 50, 3) := by decide +kernel
theorem dX4_become_126 : decode cX4_become 126 = .ok (.return_, 1) := by decide +kernel
theorem dX4_obey_0 : decode cX4_obey 0 = .ok (.aload_n 0, 1) := by decide +kernel
theorem dX4_obey_1 : decode cX4_obey 1 = .ok (.aload_n 1, 1) := by decide +kernel
theorem dX4_obey_2 : decode cX4_obey 2 = .ok (.putfield 46, 3) := by decide +kernel
theorem dX4_obey_5 : decode cX4_obey 5 = .ok (.aload_n 0, 1) := by decide +kernel
theorem dX4_obey_6 : decode cX4_obey 6 = .ok (.iload_n 2, 1) := by decide +kernel
theorem dX4_obey_7 : decode cX4_obey 7 = .ok (.putfield 43, 3) := by decide +kernel
theorem dX4_obey_10 : decode cX4_obey 10 = .ok (.return_, 1) := by decide +kernel
theorem dX4_has_0 : decode cX4_has 0 = .ok (.iload_n 1, 1) := by decide +kernel
theorem dX4_has_1 : decode cX4_has 1 = .ok (.ifCond .lt 21, 3) := by decide +kernel
theorem dX4_has_4 : decode cX4_has 4 = .ok (.iload_n 1, 1) := by decide +kernel
theorem dX4_has_5 : decode cX4_has 5 = .ok (.aload_n 0, 1) := by decide +kernel
theorem dX4_has_6 : decode cX4_has 6 = .ok (.getfield 31, 3) := by decide +kernel
theorem dX4_has_9 : decode cX4_has 9 = .ok (.if_icmp .ge 13, 3) := by decide +kernel
theorem dX4_has_12 : decode cX4_has 12 = .ok (.iload_n 1, 1) := by decide +kernel
theorem dX4_has_13 : decode cX4_has 13 = .ok (.bipush 6, 2) := by decide +kernel
theorem dX4_has_15 : decode cX4_has 15 = .ok (.if_icmp .ge 7, 3) := by decide +kernel
theorem dX4_has_18 : decode cX4_has 18 = .ok (.iconst 1, 1) := by decide +kernel
theorem dX4_has_19 : decode cX4_has 19 = .ok (.goto 4, 3) := by decide +kernel
theorem dX4_has_22 : decode cX4_has 22 = .ok (.iconst 0, 1) := by decide +kernel
theorem dX4_has_23 : decode cX4_has 23 = .ok (.ireturn, 1) := by decide +kernel
set_option maxRecDepth 20000 in
theorem ggX4_join_X5_isWithin : GoodIn wsX4_join wsX5_isWithin := goodIn_r _ [11] (by decide +kernel) (by decide +kernel)
set_option maxRecDepth 20000 in
theorem gX4_join_X5_isWithin_n54 : GoodIn wsX4_join (wsX5_isWithin) := ggX4_join_X5_isWithin
theorem dX4_join_0 : decode cX4_join 0 = .ok (.iload_n 1, 1) := by decide +kernel
theorem dX4_join_1 : decode cX4_join 1 = .ok (.iconst 0, 1) := by decide +kernel
theorem dX4_join_2 : decode cX4_join 2 = .ok (.bipush 59, 2) := by decide +kernel
theorem dX4_join_4 : decode cX4_join 4 = .ok (.invokestatic 54, 3) := by decide +kernel
theorem dX4_join_7 : decode cX4_join 7 = .ok (.ifCond .eq 23, 3) := by decide +kernel
theorem dX4_join_10 : decode cX4_join 10 = .ok (.iload_n 2, 1) := by decide +kernel
theorem dX4_join_11 : decode cX4_join 11 = .ok (.iconst 0, 1) := by decide +kernel
theorem dX4_join_12 : decode cX4_join 12 = .ok (.bipush 99, 2) := by decide +kernel
theorem dX4_join_14 : decode cX4_join 14 = .ok (.invokestatic 54, 3) := by decide +kernel
