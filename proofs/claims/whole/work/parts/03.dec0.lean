theorem dX0_init_0 : decode cX0_init 0 = .ok (.aload_n 0, 1) := by decide +kernel
theorem dX0_init_1 : decode cX0_init 1 = .ok (.invokespecial 3, 3) := by decide +kernel
theorem dX0_init_4 : decode cX0_init 4 = .ok (.aload_n 0, 1) := by decide +kernel
theorem dX0_init_5 : decode cX0_init 5 = .ok (.bipush 24, 2) := by decide +kernel
theorem dX0_init_7 : decode cX0_init 7 = .ok (.newarray .int, 2) := by decide +kernel
theorem dX0_init_9 : decode cX0_init 9 = .ok (.putfield 9, 3) := by decide +kernel
theorem dX0_init_12 : decode cX0_init 12 = .ok (.aload_n 0, 1) := by decide +kernel
theorem dX0_init_13 : decode cX0_init 13 = .ok (.bipush 24, 2) := by decide +kernel
theorem dX0_init_15 : decode cX0_init 15 = .ok (.newarray .int, 2) := by decide +kernel
theorem dX0_init_17 : decode cX0_init 17 = .ok (.putfield 15, 3) := by decide +kernel
theorem dX0_init_20 : decode cX0_init 20 = .ok (.return_, 1) := by decide +kernel
theorem dX0_live_0 : decode cX0_live 0 = .ok (.iconst 0, 1) := by decide +kernel
theorem dX0_live_1 : decode cX0_live 1 = .ok (.istore_n 2, 1) := by decide +kernel
theorem dX0_live_2 : decode cX0_live 2 = .ok (.iload_n 2, 1) := by decide +kernel
theorem dX0_live_3 : decode cX0_live 3 = .ok (.bipush 24, 2) := by decide +kernel
theorem dX0_live_5 : decode cX0_live 5 = .ok (.if_icmp .ge 35, 3) := by decide +kernel
theorem dX0_live_8 : decode cX0_live 8 = .ok (.aload_n 0, 1) := by decide +kernel
theorem dX0_live_9 : decode cX0_live 9 = .ok (.getfield 15, 3) := by decide +kernel
theorem dX0_live_12 : decode cX0_live 12 = .ok (.iload_n 2, 1) := by decide +kernel
theorem dX0_live_13 : decode cX0_live 13 = .ok (.aload_n 1, 1) := by decide +kernel
theorem dX0_live_14 : decode cX0_live 14 = .ok (.invokevirtual 18, 3) := by decide +kernel
theorem dX0_live_17 : decode cX0_live 17 = .ok (.iastore, 1) := by decide +kernel
theorem dX0_live_18 : decode cX0_live 18 = .ok (.aload_n 0, 1) := by decide +kernel
theorem dX0_live_19 : decode cX0_live 19 = .ok (.getfield 9, 3) := by decide +kernel
theorem dX0_live_22 : decode cX0_live 22 = .ok (.iload_n 2, 1) := by decide +kernel
theorem dX0_live_23 : decode cX0_live 23 = .ok (.aload_n 1, 1) := by decide +kernel
theorem dX0_live_24 : decode cX0_live 24 = .ok (.aload_n 0, 1) := by decide +kernel
theorem dX0_live_25 : decode cX0_live 25 = .ok (.getfield 15, 3) := by decide +kernel
theorem dX0_live_28 : decode cX0_live 28 = .ok (.iload_n 2, 1) := by decide +kernel
theorem dX0_live_29 : decode cX0_live 29 = .ok (.iaload, 1) := by decide +kernel
theorem dX0_live_30 : decode cX0_live 30 = .ok (.invokevirtual 23, 3) := by decide +kernel
theorem dX0_live_33 : decode cX0_live 33 = .ok (.iastore, 1) := by decide +kernel
theorem dX0_live_34 : decode cX0_live 34 = .ok (.iinc 2 1, 3) := by decide +kernel
theorem dX0_live_37 : decode cX0_live 37 = .ok (.goto (-35), 3) := by decide +kernel
theorem dX0_live_40 : decode cX0_live 40 = .ok (.return_, 1) := by decide +kernel
theorem dX0_hoursOf_0 : decode cX0_hoursOf 0 = .ok (.iconst 0, 1) := by decide +kernel
theorem dX0_hoursOf_1 : decode cX0_hoursOf 1 = .ok (.istore_n 2, 1) := by decide +kernel
theorem dX0_hoursOf_2 : decode cX0_hoursOf 2 = .ok (.iconst 0, 1) := by decide +kernel
theorem dX0_hoursOf_3 : decode cX0_hoursOf 3 = .ok (.istore_n 3, 1) := by decide +kernel
theorem dX0_hoursOf_4 : decode cX0_hoursOf 4 = .ok (.iload_n 3, 1) := by decide +kernel
theorem dX0_hoursOf_5 : decode cX0_hoursOf 5 = .ok (.bipush 24, 2) := by decide +kernel
theorem dX0_hoursOf_7 : decode cX0_hoursOf 7 = .ok (.if_icmp .ge 22, 3) := by decide +kernel
theorem dX0_hoursOf_10 : decode cX0_hoursOf 10 = .ok (.aload_n 0, 1) := by decide +kernel
theorem dX0_hoursOf_11 : decode cX0_hoursOf 11 = .ok (.getfield 9, 3) := by decide +kernel
theorem dX0_hoursOf_14 : decode cX0_hoursOf 14 = .ok (.iload_n 3, 1) := by decide +kernel
theorem dX0_hoursOf_15 : decode cX0_hoursOf 15 = .ok (.iaload, 1) := by decide +kernel
theorem dX0_hoursOf_16 : decode cX0_hoursOf 16 = .ok (.iload_n 1, 1) := by decide +kernel
theorem dX0_hoursOf_17 : decode cX0_hoursOf 17 = .ok (.if_icmp .ne 6, 3) := by decide +kernel
theorem dX0_hoursOf_20 : decode cX0_hoursOf 20 = .ok (.iinc 2 1, 3) := by decide +kernel
theorem dX0_hoursOf_23 : decode cX0_hoursOf 23 = .ok (.iinc 3 1, 3) := by decide +kernel
theorem dX0_hoursOf_26 : decode cX0_hoursOf 26 = .ok (.goto (-22), 3) := by decide +kernel
theorem dX0_hoursOf_29 : decode cX0_hoursOf 29 = .ok (.iload_n 2, 1) := by decide +kernel
theorem dX0_hoursOf_30 : decode cX0_hoursOf 30 = .ok (.ireturn, 1) := by decide +kernel
theorem dX0_hoursAlone_0 : decode cX0_hoursAlone 0 = .ok (.iconst 0, 1) := by decide +kernel
theorem dX0_hoursAlone_1 : decode cX0_hoursAlone 1 = .ok (.istore_n 1, 1) := by decide +kernel
theorem dX0_hoursAlone_2 : decode cX0_hoursAlone 2 = .ok (.iconst 0, 1) := by decide +kernel
theorem dX0_hoursAlone_3 : decode cX0_hoursAlone 3 = .ok (.istore_n 2, 1) := by decide +kernel
theorem dX0_hoursAlone_4 : decode cX0_hoursAlone 4 = .ok (.iload_n 2, 1) := by decide +kernel
theorem dX0_hoursAlone_5 : decode cX0_hoursAlone 5 = .ok (.bipush 24, 2) := by decide +kernel
theorem dX0_hoursAlone_7 : decode cX0_hoursAlone 7 = .ok (.if_icmp .ge 26, 3) := by decide +kernel
theorem dX0_hoursAlone_10 : decode cX0_hoursAlone 10 = .ok (.aload_n 0, 1) := by decide +kernel
theorem dX0_hoursAlone_11 : decode cX0_hoursAlone 11 = .ok (.aload_n 0, 1) := by decide +kernel
theorem dX0_hoursAlone_12 : decode cX0_hoursAlone 12 = .ok (.getfield 9, 3) := by decide +kernel
theorem dX0_hoursAlone_15 : decode cX0_hoursAlone 15 = .ok (.iload_n 2, 1) := by decide +kernel
theorem dX0_hoursAlone_16 : decode cX0_hoursAlone 16 = .ok (.iaload, 1) := by decide +kernel
theorem dX0_hoursAlone_17 : decode cX0_hoursAlone 17 = .ok (.invokevirtual 27, 3) := by decide +kernel
theorem dX0_hoursAlone_20 : decode cX0_hoursAlone 20 = .ok (.iconst 1, 1) := by decide +kernel
theorem dX0_hoursAlone_21 : decode cX0_hoursAlone 21 = .ok (.if_icmp .ne 6, 3) := by decide +kernel
theorem dX0_hoursAlone_24 : decode cX0_hoursAlone 24 = .ok (.iinc 1 1, 3) := by decide +kernel
theorem dX0_hoursAlone_27 : decode cX0_hoursAlone 27 = .ok (.iinc 2 1, 3) := by decide +kernel
theorem dX0_hoursAlone_30 : decode cX0_hoursAlone 30 = .ok (.goto (-26), 3) := by decide +kernel
theorem dX0_hoursAlone_33 : decode cX0_hoursAlone 33 = .ok (.iload_n 1, 1) := by decide +kernel
theorem dX0_hoursAlone_34 : decode cX0_hoursAlone 34 = .ok (.ireturn, 1) := by decide +kernel
theorem dX0_longestRow_0 : decode cX0_longestRow 0 = .ok (.iconst 1, 1) := by decide +kernel
theorem dX0_longestRow_1 : decode cX0_longestRow 1 = .ok (.istore_n 1, 1) := by decide +kernel
theorem dX0_longestRow_2 : decode cX0_longestRow 2 = .ok (.iconst 1, 1) := by decide +kernel
theorem dX0_longestRow_3 : decode cX0_longestRow 3 = .ok (.istore_n 2, 1) := by decide +kernel
theorem dX0_longestRow_4 : decode cX0_longestRow 4 = .ok (.iconst 1, 1) := by decide +kernel
theorem dX0_longestRow_5 : decode cX0_longestRow 5 = .ok (.istore_n 3, 1) := by decide +kernel
theorem dX0_longestRow_6 : decode cX0_longestRow 6 = .ok (.iload_n 3, 1) := by decide +kernel
theorem dX0_longestRow_7 : decode cX0_longestRow 7 = .ok (.bipush 24, 2) := by decide +kernel
theorem dX0_longestRow_9 : decode cX0_longestRow 9 = .ok (.if_icmp .ge 40, 3) := by decide +kernel
theorem dX0_longestRow_12 : decode cX0_longestRow 12 = .ok (.aload_n 0, 1) := by decide +kernel
theorem dX0_longestRow_13 : decode cX0_longestRow 13 = .ok (.getfield 9, 3) := by decide +kernel
theorem dX0_longestRow_16 : decode cX0_longestRow 16 = .ok (.iload_n 3, 1) := by decide +kernel
theorem dX0_longestRow_17 : decode cX0_longestRow 17 = .ok (.iaload, 1) := by decide +kernel
theorem dX0_longestRow_18 : decode cX0_longestRow 18 = .ok (.aload_n 0, 1) := by decide +kernel
theorem dX0_longestRow_19 : decode cX0_longestRow 19 = .ok (.getfield 9, 3) := by decide +kernel
theorem dX0_longestRow_22 : decode cX0_longestRow 22 = .ok (.iload_n 3, 1) := by decide +kernel
theorem dX0_longestRow_23 : decode cX0_longestRow 23 = .ok (.iconst 1, 1) := by decide +kernel
theorem dX0_longestRow_24 : decode cX0_longestRow 24 = .ok (.isub, 1) := by decide +kernel
theorem dX0_longestRow_25 : decode cX0_longestRow 25 = .ok (.iaload, 1) := by decide +kernel
theorem dX0_longestRow_26 : decode cX0_longestRow 26 = .ok (.if_icmp .ne 9, 3) := by decide +kernel
theorem dX0_longestRow_29 : decode cX0_longestRow 29 = .ok (.iload_n 2, 1) := by decide +kernel
theorem dX0_longestRow_30 : decode cX0_longestRow 30 = .ok (.iconst 1, 1) := by decide +kernel
theorem dX0_longestRow_31 : decode cX0_longestRow 31 = .ok (.iadd, 1) := by decide +kernel
theorem dX0_longestRow_32 : decode cX0_longestRow 32 = .ok (.goto 4, 3) := by decide +kernel
theorem dX0_longestRow_35 : decode cX0_longestRow 35 = .ok (.iconst 1, 1) := by decide +kernel
theorem dX0_longestRow_36 : decode cX0_longestRow 36 = .ok (.istore_n 2, 1) := by decide +kernel
theorem dX0_longestRow_37 : decode cX0_longestRow 37 = .ok (.iload_n 1, 1) := by decide +kernel
theorem dX0_longestRow_38 : decode cX0_longestRow 38 = .ok (.iload_n 2, 1) := by decide +kernel
theorem dX0_longestRow_39 : decode cX0_longestRow 39 = .ok (.invokestatic 30, 3) := by decide +kernel
theorem dX0_longestRow_42 : decode cX0_longestRow 42 = .ok (.istore_n 1, 1) := by decide +kernel
theorem dX0_longestRow_43 : decode cX0_longestRow 43 = .ok (.iinc 3 1, 3) := by decide +kernel
theorem dX0_longestRow_46 : decode cX0_longestRow 46 = .ok (.goto (-40), 3) := by decide +kernel
theorem dX0_longestRow_49 : decode cX0_longestRow 49 = .ok (.iload_n 1, 1) := by decide +kernel
theorem dX0_longestRow_50 : decode cX0_longestRow 50 = .ok (.ireturn, 1) := by decide +kernel
theorem dX0_mostStrikes_0 : decode cX0_mostStrikes 0 = .ok (.iconst 0, 1) := by decide +kernel
theorem dX0_mostStrikes_1 : decode cX0_mostStrikes 1 = .ok (.istore_n 1, 1) := by decide +kernel
theorem dX0_mostStrikes_2 : decode cX0_mostStrikes 2 = .ok (.iconst 0, 1) := by decide +kernel
theorem dX0_mostStrikes_3 : decode cX0_mostStrikes 3 = .ok (.istore_n 2, 1) := by decide +kernel
theorem dX0_mostStrikes_4 : decode cX0_mostStrikes 4 = .ok (.iload_n 2, 1) := by decide +kernel
theorem dX0_mostStrikes_5 : decode cX0_mostStrikes 5 = .ok (.bipush 24, 2) := by decide +kernel
theorem dX0_mostStrikes_7 : decode cX0_mostStrikes 7 = .ok (.if_icmp .ge 20, 3) := by decide +kernel
theorem dX0_mostStrikes_10 : decode cX0_mostStrikes 10 = .ok (.iload_n 1, 1) := by decide +kernel
theorem dX0_mostStrikes_11 : decode cX0_mostStrikes 11 = .ok (.aload_n 0, 1) := by decide +kernel
theorem dX0_mostStrikes_12 : decode cX0_mostStrikes 12 = .ok (.getfield 9, 3) := by decide +kernel
theorem dX0_mostStrikes_15 : decode cX0_mostStrikes 15 = .ok (.iload_n 2, 1) := by decide +kernel
theorem dX0_mostStrikes_16 : decode cX0_mostStrikes 16 = .ok (.iaload, 1) := by decide +kernel
theorem dX0_mostStrikes_17 : decode cX0_mostStrikes 17 = .ok (.invokestatic 30, 3) := by decide +kernel
theorem dX0_mostStrikes_20 : decode cX0_mostStrikes 20 = .ok (.istore_n 1, 1) := by decide +kernel
theorem dX0_mostStrikes_21 : decode cX0_mostStrikes 21 = .ok (.iinc 2 1, 3) := by decide +kernel
theorem dX0_mostStrikes_24 : decode cX0_mostStrikes 24 = .ok (.goto (-20), 3) := by decide +kernel
theorem dX0_mostStrikes_27 : decode cX0_mostStrikes 27 = .ok (.iload_n 1, 1) := by decide +kernel
theorem dX0_mostStrikes_28 : decode cX0_mostStrikes 28 = .ok (.ireturn, 1) := by decide +kernel
theorem dX0_firstOf_0 : decode cX0_firstOf 0 = .ok (.iconst 0, 1) := by decide +kernel
theorem dX0_firstOf_1 : decode cX0_firstOf 1 = .ok (.istore_n 2, 1) := by decide +kernel
theorem dX0_firstOf_2 : decode cX0_firstOf 2 = .ok (.iload_n 2, 1) := by decide +kernel
theorem dX0_firstOf_3 : decode cX0_firstOf 3 = .ok (.bipush 24, 2) := by decide +kernel
theorem dX0_firstOf_5 : decode cX0_firstOf 5 = .ok (.if_icmp .ge 21, 3) := by decide +kernel
theorem dX0_firstOf_8 : decode cX0_firstOf 8 = .ok (.aload_n 0, 1) := by decide +kernel
theorem dX0_firstOf_9 : decode cX0_firstOf 9 = .ok (.getfield 9, 3) := by decide +kernel
theorem dX0_firstOf_12 : decode cX0_firstOf 12 = .ok (.iload_n 2, 1) := by decide +kernel
theorem dX0_firstOf_13 : decode cX0_firstOf 13 = .ok (.iaload, 1) := by decide +kernel
theorem dX0_firstOf_14 : decode cX0_firstOf 14 = .ok (.iload_n 1, 1) := by decide +kernel
theorem dX0_firstOf_15 : decode cX0_firstOf 15 = .ok (.if_icmp .ne 5, 3) := by decide +kernel
theorem dX0_firstOf_18 : decode cX0_firstOf 18 = .ok (.iload_n 2, 1) := by decide +kernel
theorem dX0_firstOf_19 : decode cX0_firstOf 19 = .ok (.ireturn, 1) := by decide +kernel
theorem dX0_firstOf_20 : decode cX0_firstOf 20 = .ok (.iinc 2 1, 3) := by decide +kernel
theorem dX0_firstOf_23 : decode cX0_firstOf 23 = .ok (.goto (-21), 3) := by decide +kernel
theorem dX0_firstOf_26 : decode cX0_firstOf 26 = .ok (.iconst (-1), 1) := by decide +kernel
theorem dX0_firstOf_27 : decode cX0_firstOf 27 = .ok (.ireturn, 1) := by decide +kernel
theorem dX0_hoursOfBoth_0 : decode cX0_hoursOfBoth 0 = .ok (.iconst 0, 1) := by decide +kernel
theorem dX0_hoursOfBoth_1 : decode cX0_hoursOfBoth 1 = .ok (.istore_n 3, 1) := by decide +kernel
theorem dX0_hoursOfBoth_2 : decode cX0_hoursOfBoth 2 = .ok (.iconst 0, 1) := by decide +kernel
theorem dX0_hoursOfBoth_3 : decode cX0_hoursOfBoth 3 = .ok (.istore 4, 2) := by decide +kernel
theorem dX0_hoursOfBoth_5 : decode cX0_hoursOfBoth 5 = .ok (.iload 4, 2) := by decide +kernel
theorem dX0_hoursOfBoth_7 : decode cX0_hoursOfBoth 7 = .ok (.bipush 24, 2) := by decide +kernel
theorem dX0_hoursOfBoth_9 : decode cX0_hoursOfBoth 9 = .ok (.if_icmp .ge 33, 3) := by decide +kernel
theorem dX0_hoursOfBoth_12 : decode cX0_hoursOfBoth 12 = .ok (.iload_n 3, 1) := by decide +kernel
theorem dX0_hoursOfBoth_13 : decode cX0_hoursOfBoth 13 = .ok (.aload_n 0, 1) := by decide +kernel
theorem dX0_hoursOfBoth_14 : decode cX0_hoursOfBoth 14 = .ok (.getfield 15, 3) := by decide +kernel
theorem dX0_hoursOfBoth_17 : decode cX0_hoursOfBoth 17 = .ok (.iload 4, 2) := by decide +kernel
theorem dX0_hoursOfBoth_19 : decode cX0_hoursOfBoth 19 = .ok (.iaload, 1) := by decide +kernel
theorem dX0_hoursOfBoth_20 : decode cX0_hoursOfBoth 20 = .ok (.iload_n 1, 1) := by decide +kernel
theorem dX0_hoursOfBoth_21 : decode cX0_hoursOfBoth 21 = .ok (.ishr, 1) := by decide +kernel
theorem dX0_hoursOfBoth_22 : decode cX0_hoursOfBoth 22 = .ok (.aload_n 0, 1) := by decide +kernel
theorem dX0_hoursOfBoth_23 : decode cX0_hoursOfBoth 23 = .ok (.getfield 15, 3) := by decide +kernel
theorem dX0_hoursOfBoth_26 : decode cX0_hoursOfBoth 26 = .ok (.iload 4, 2) := by decide +kernel
theorem dX0_hoursOfBoth_28 : decode cX0_hoursOfBoth 28 = .ok (.iaload, 1) := by decide +kernel
theorem dX0_hoursOfBoth_29 : decode cX0_hoursOfBoth 29 = .ok (.iload_n 2, 1) := by decide +kernel
theorem dX0_hoursOfBoth_30 : decode cX0_hoursOfBoth 30 = .ok (.ishr, 1) := by decide +kernel
theorem dX0_hoursOfBoth_31 : decode cX0_hoursOfBoth 31 = .ok (.iand, 1) := by decide +kernel
theorem dX0_hoursOfBoth_32 : decode cX0_hoursOfBoth 32 = .ok (.iconst 1, 1) := by decide +kernel
theorem dX0_hoursOfBoth_33 : decode cX0_hoursOfBoth 33 = .ok (.iand, 1) := by decide +kernel
theorem dX0_hoursOfBoth_34 : decode cX0_hoursOfBoth 34 = .ok (.iadd, 1) := by decide +kernel
theorem dX0_hoursOfBoth_35 : decode cX0_hoursOfBoth 35 = .ok (.istore_n 3, 1) := by decide +kernel
theorem dX0_hoursOfBoth_36 : decode cX0_hoursOfBoth 36 = .ok (.iinc 4 1, 3) := by decide +kernel
theorem dX0_hoursOfBoth_39 : decode cX0_hoursOfBoth 39 = .ok (.goto (-34), 3) := by decide +kernel
theorem dX0_hoursOfBoth_42 : decode cX0_hoursOfBoth 42 = .ok (.iload_n 3, 1) := by decide +kernel
theorem dX0_hoursOfBoth_43 : decode cX0_hoursOfBoth 43 = .ok (.ireturn, 1) := by decide +kernel
theorem dX1_init_0 : decode cX1_init 0 = .ok (.aload_n 0, 1) := by decide +kernel
theorem dX1_init_1 : decode cX1_init 1 = .ok (.invokespecial 3, 3) := by decide +kernel
theorem dX1_init_4 : decode cX1_init 4 = .ok (.aload_n 0, 1) := by decide +kernel
theorem dX1_init_5 : decode cX1_init 5 = .ok (.bipush 40, 2) := by decide +kernel
theorem dX1_init_7 : decode cX1_init 7 = .ok (.newarray .int, 2) := by decide +kernel
theorem dX1_init_9 : decode cX1_init 9 = .ok (.putfield 9, 3) := by decide +kernel
theorem dX1_init_12 : decode cX1_init 12 = .ok (.aload_n 0, 1) := by decide +kernel
theorem dX1_init_13 : decode cX1_init 13 = .ok (.iconst (-1), 1) := by decide +kernel
theorem dX1_init_14 : decode cX1_init 14 = .ok (.putfield 15, 3) := by decide +kernel
theorem dX1_init_17 : decode cX1_init 17 = .ok (.aload_n 0, 1) := by decide +kernel
theorem dX1_init_18 : decode cX1_init 18 = .ok (.iconst 0, 1) := by decide +kernel
theorem dX1_init_19 : decode cX1_init 19 = .ok (.putfield 19, 3) := by decide +kernel
theorem dX1_init_22 : decode cX1_init 22 = .ok (.return_, 1) := by decide +kernel
theorem dX1_become_0 : decode cX1_become 0 = .ok (.aload_n 0, 1) := by decide +kernel
theorem dX1_become_1 : decode cX1_become 1 = .ok (.iload_n 1, 1) := by decide +kernel
theorem dX1_become_2 : decode cX1_become 2 = .ok (.putfield 15, 3) := by decide +kernel
theorem dX1_become_5 : decode cX1_become 5 = .ok (.aload_n 0, 1) := by decide +kernel
theorem dX1_become_6 : decode cX1_become 6 = .ok (.iload_n 2, 1) := by decide +kernel
theorem dX1_become_7 : decode cX1_become 7 = .ok (.putfield 19, 3) := by decide +kernel
theorem dX1_become_10 : decode cX1_become 10 = .ok (.iconst 0, 1) := by decide +kernel
theorem dX1_become_11 : decode cX1_become 11 = .ok (.istore_n 3, 1) := by decide +kernel
theorem dX1_become_12 : decode cX1_become 12 = .ok (.iload_n 3, 1) := by decide +kernel
theorem dX1_become_13 : decode cX1_become 13 = .ok (.bipush 40, 2) := by decide +kernel
theorem dX1_become_15 : decode cX1_become 15 = .ok (.if_icmp .ge 16, 3) := by decide +kernel
theorem dX1_become_18 : decode cX1_become 18 = .ok (.aload_n 0, 1) := by decide +kernel
theorem dX1_become_19 : decode cX1_become 19 = .ok (.getfield 9, 3) := by decide +kernel
theorem dX1_become_22 : decode cX1_become 22 = .ok (.iload_n 3, 1) := by decide +kernel
theorem dX1_become_23 : decode cX1_become 23 = .ok (.iconst 0, 1) := by decide +kernel
theorem dX1_become_24 : decode cX1_become 24 = .ok (.iastore, 1) := by decide +kernel
theorem dX1_become_25 : decode cX1_become 25 = .ok (.iinc 3 1, 3) := by decide +kernel
theorem dX1_become_28 : decode cX1_become 28 = .ok (.goto (-16), 3) := by decide +kernel
theorem dX1_become_31 : decode cX1_become 31 = .ok (.return_, 1) := by decide +kernel
theorem dX1_isMissing_0 : decode cX1_isMissing 0 = .ok (.aload_n 0, 1) := by decide +kernel
theorem dX1_isMissing_1 : decode cX1_isMissing 1 = .ok (.getfield 15, 3) := by decide +kernel
theorem dX1_isMissing_4 : decode cX1_isMissing 4 = .ok (.iconst (-1), 1) := by decide +kernel
theorem dX1_isMissing_5 : decode cX1_isMissing 5 = .ok (.if_icmp .ne 7, 3) := by decide +kernel
theorem dX1_isMissing_8 : decode cX1_isMissing 8 = .ok (.iconst 1, 1) := by decide +kernel
theorem dX1_isMissing_9 : decode cX1_isMissing 9 = .ok (.goto 4, 3) := by decide +kernel
theorem dX1_isMissing_12 : decode cX1_isMissing 12 = .ok (.iconst 0, 1) := by decide +kernel
theorem dX1_isMissing_13 : decode cX1_isMissing 13 = .ok (.ireturn, 1) := by decide +kernel
theorem dX1_has_0 : decode cX1_has 0 = .ok (.iload_n 1, 1) := by decide +kernel
theorem dX1_has_1 : decode cX1_has 1 = .ok (.ifCond .lt 29, 3) := by decide +kernel
theorem dX1_has_4 : decode cX1_has 4 = .ok (.iload_n 2, 1) := by decide +kernel
theorem dX1_has_5 : decode cX1_has 5 = .ok (.ifCond .lt 25, 3) := by decide +kernel
theorem dX1_has_8 : decode cX1_has 8 = .ok (.iload_n 1, 1) := by decide +kernel
theorem dX1_has_9 : decode cX1_has 9 = .ok (.aload_n 0, 1) := by decide +kernel
theorem dX1_has_10 : decode cX1_has 10 = .ok (.getfield 19, 3) := by decide +kernel
theorem dX1_has_13 : decode cX1_has 13 = .ok (.if_icmp .gt 17, 3) := by decide +kernel
theorem dX1_has_16 : decode cX1_has 16 = .ok (.iload_n 2, 1) := by decide +kernel
theorem dX1_has_17 : decode cX1_has 17 = .ok (.aload_n 0, 1) := by decide +kernel
theorem dX1_has_18 : decode cX1_has 18 = .ok (.getfield 19, 3) := by decide +kernel
theorem dX1_has_21 : decode cX1_has 21 = .ok (.iload_n 1, 1) := by decide +kernel
theorem dX1_has_22 : decode cX1_has 22 = .ok (.isub, 1) := by decide +kernel
theorem dX1_has_23 : decode cX1_has 23 = .ok (.if_icmp .gt 7, 3) := by decide +kernel
theorem dX1_has_26 : decode cX1_has 26 = .ok (.iconst 1, 1) := by decide +kernel
theorem dX1_has_27 : decode cX1_has 27 = .ok (.goto 4, 3) := by decide +kernel
theorem dX1_has_30 : decode cX1_has 30 = .ok (.iconst 0, 1) := by decide +kernel
theorem dX1_has_31 : decode cX1_has 31 = .ok (.ireturn, 1) := by decide +kernel
theorem dX1_write_0 : decode cX1_write 0 = .ok (.iload_n 1, 1) := by decide +kernel
theorem dX1_write_1 : decode cX1_write 1 = .ok (.ifCond .lt 9, 3) := by decide +kernel
theorem dX1_write_4 : decode cX1_write 4 = .ok (.iload_n 1, 1) := by decide +kernel
theorem dX1_write_5 : decode cX1_write 5 = .ok (.bipush 40, 2) := by decide +kernel
theorem dX1_write_7 : decode cX1_write 7 = .ok (.if_icmp .lt 4, 3) := by decide +kernel
theorem dX1_write_10 : decode cX1_write 10 = .ok (.return_, 1) := by decide +kernel
theorem dX1_write_11 : decode cX1_write 11 = .ok (.aload_n 0, 1) := by decide +kernel
theorem dX1_write_12 : decode cX1_write 12 = .ok (.getfield 9, 3) := by decide +kernel
theorem dX1_write_15 : decode cX1_write 15 = .ok (.iload_n 1, 1) := by decide +kernel
theorem dX1_write_16 : decode cX1_write 16 = .ok (.aload_n 0, 1) := by decide +kernel
theorem dX1_write_17 : decode cX1_write 17 = .ok (.getfield 15, 3) := by decide +kernel
theorem dX1_write_20 : decode cX1_write 20 = .ok (.ifCond .ne 8, 3) := by decide +kernel
theorem dX1_write_23 : decode cX1_write 23 = .ok (.iload_n 2, 1) := by decide +kernel
theorem dX1_write_24 : decode cX1_write 24 = .ok (.i2b, 1) := by decide +kernel
theorem dX1_write_25 : decode cX1_write 25 = .ok (.goto 17, 3) := by decide +kernel
theorem dX1_write_28 : decode cX1_write 28 = .ok (.aload_n 0, 1) := by decide +kernel
theorem dX1_write_29 : decode cX1_write 29 = .ok (.getfield 15, 3) := by decide +kernel
theorem dX1_write_32 : decode cX1_write 32 = .ok (.iconst 1, 1) := by decide +kernel
theorem dX1_write_33 : decode cX1_write 33 = .ok (.if_icmp .ne 8, 3) := by decide +kernel
theorem dX1_write_36 : decode cX1_write 36 = .ok (.iload_n 2, 1) := by decide +kernel
theorem dX1_write_37 : decode cX1_write 37 = .ok (.i2s, 1) := by decide +kernel
theorem dX1_write_38 : decode cX1_write 38 = .ok (.goto 4, 3) := by decide +kernel
theorem dX1_write_41 : decode cX1_write 41 = .ok (.iload_n 2, 1) := by decide +kernel
theorem dX1_write_42 : decode cX1_write 42 = .ok (.iastore, 1) := by decide +kernel
theorem dX1_write_43 : decode cX1_write 43 = .ok (.return_, 1) := by decide +kernel
theorem dX2_init_0 : decode cX2_init 0 = .ok (.aload_n 0, 1) := by decide +kernel
theorem dX2_init_1 : decode cX2_init 1 = .ok (.invokespecial 3, 3) := by decide +kernel
theorem dX2_init_4 : decode cX2_init 4 = .ok (.aload_n 0, 1) := by decide +kernel
theorem dX2_init_5 : decode cX2_init 5 = .ok (.sipush 160, 3) := by decide +kernel
theorem dX2_init_8 : decode cX2_init 8 = .ok (.newarray .int, 2) := by decide +kernel
theorem dX2_init_10 : decode cX2_init 10 = .ok (.putfield 9, 3) := by decide +kernel
theorem dX2_init_13 : decode cX2_init 13 = .ok (.aload_n 0, 1) := by decide +kernel
theorem dX2_init_14 : decode cX2_init 14 = .ok (.iconst 0, 1) := by decide +kernel
theorem dX2_init_15 : decode cX2_init 15 = .ok (.putfield 15, 3) := by decide +kernel
theorem dX2_init_18 : decode cX2_init 18 = .ok (.return_, 1) := by decide +kernel
theorem dX2_add_0 : decode cX2_add 0 = .ok (.aload_n 0, 1) := by decide +kernel
theorem dX2_add_1 : decode cX2_add 1 = .ok (.getfield 15, 3) := by decide +kernel
theorem dX2_add_4 : decode cX2_add 4 = .ok (.sipush 160, 3) := by decide +kernel
theorem dX2_add_7 : decode cX2_add 7 = .ok (.if_icmp .ge 23, 3) := by decide +kernel
theorem dX2_add_10 : decode cX2_add 10 = .ok (.aload_n 0, 1) := by decide +kernel
theorem dX2_add_11 : decode cX2_add 11 = .ok (.getfield 9, 3) := by decide +kernel
theorem dX2_add_14 : decode cX2_add 14 = .ok (.aload_n 0, 1) := by decide +kernel
theorem dX2_add_15 : decode cX2_add 15 = .ok (.getfield 15, 3) := by decide +kernel
theorem dX2_add_18 : decode cX2_add 18 = .ok (.iload_n 1, 1) := by decide +kernel
theorem dX2_add_19 : decode cX2_add 19 = .ok (.iastore, 1) := by decide +kernel
theorem dX2_add_20 : decode cX2_add 20 = .ok (.aload_n 0, 1) := by decide +kernel
theorem dX2_add_21 : decode cX2_add 21 = .ok (.dup, 1) := by decide +kernel
theorem dX2_add_22 : decode cX2_add 22 = .ok (.getfield 15, 3) := by decide +kernel
theorem dX2_add_25 : decode cX2_add 25 = .ok (.iconst 1, 1) := by decide +kernel
theorem dX2_add_26 : decode cX2_add 26 = .ok (.iadd, 1) := by decide +kernel
theorem dX2_add_27 : decode cX2_add 27 = .ok (.putfield 15, 3) := by decide +kernel
theorem dX2_add_30 : decode cX2_add 30 = .ok (.return_, 1) := by decide +kernel
theorem dX2_readInto_0 : decode cX2_readInto 0 = .ok (.aload_n 0, 1) := by decide +kernel
theorem dX2_readInto_1 : decode cX2_readInto 1 = .ok (.iconst 0, 1) := by decide +kernel
theorem dX2_readInto_2 : decode cX2_readInto 2 = .ok (.putfield 19, 3) := by decide +kernel
theorem dX2_readInto_5 : decode cX2_readInto 5 = .ok (.aload_n 0, 1) := by decide +kernel
theorem dX2_readInto_6 : decode cX2_readInto 6 = .ok (.iconst (-1), 1) := by decide +kernel
theorem dX2_readInto_7 : decode cX2_readInto 7 = .ok (.putfield 22, 3) := by decide +kernel
theorem dX2_readInto_10 : decode cX2_readInto 10 = .ok (.aload_n 1, 1) := by decide +kernel
theorem dX2_readInto_11 : decode cX2_readInto 11 = .ok (.invokevirtual 25, 3) := by decide +kernel
theorem dX2_readInto_14 : decode cX2_readInto 14 = .ok (.aload_n 0, 1) := by decide +kernel
theorem dX2_readInto_15 : decode cX2_readInto 15 = .ok (.invokevirtual 30, 3) := by decide +kernel
theorem dX2_readInto_18 : decode cX2_readInto 18 = .ok (.iconst 0, 1) := by decide +kernel
theorem dX2_readInto_19 : decode cX2_readInto 19 = .ok (.istore_n 2, 1) := by decide +kernel
theorem dX2_readInto_20 : decode cX2_readInto 20 = .ok (.iload_n 2, 1) := by decide +kernel
theorem dX2_readInto_21 : decode cX2_readInto 21 = .ok (.iconst 2, 1) := by decide +kernel
theorem dX2_readInto_22 : decode cX2_readInto 22 = .ok (.if_icmp .gt 35, 3) := by decide +kernel
theorem dX2_readInto_25 : decode cX2_readInto 25 = .ok (.aload_n 0, 1) := by decide +kernel
theorem dX2_readInto_26 : decode cX2_readInto 26 = .ok (.sipush 256, 3) := by decide +kernel
theorem dX2_readInto_29 : decode cX2_readInto 29 = .ok (.iload_n 2, 1) := by decide +kernel
theorem dX2_readInto_30 : decode cX2_readInto 30 = .ok (.iadd, 1) := by decide +kernel
theorem dX2_readInto_31 : decode cX2_readInto 31 = .ok (.invokevirtual 33, 3) := by decide +kernel
theorem dX2_readInto_34 : decode cX2_readInto 34 = .ok (.aload_n 0, 1) := by decide +kernel
theorem dX2_readInto_35 : decode cX2_readInto 35 = .ok (.aload_n 1, 1) := by decide +kernel
theorem dX2_readInto_36 : decode cX2_readInto 36 = .ok (.iconst 0, 1) := by decide +kernel
theorem dX2_readInto_37 : decode cX2_readInto 37 = .ok (.invokevirtual 37, 3) := by decide +kernel
theorem dX2_readInto_40 : decode cX2_readInto 40 = .ok (.aload_n 0, 1) := by decide +kernel
theorem dX2_readInto_41 : decode cX2_readInto 41 = .ok (.bipush 59, 2) := by decide +kernel
theorem dX2_readInto_43 : decode cX2_readInto 43 = .ok (.invokevirtual 33, 3) := by decide +kernel
theorem dX2_readInto_46 : decode cX2_readInto 46 = .ok (.aload_n 1, 1) := by decide +kernel
theorem dX2_readInto_47 : decode cX2_readInto 47 = .ok (.iload_n 2, 1) := by decide +kernel
theorem dX2_readInto_48 : decode cX2_readInto 48 = .ok (.invokevirtual 41, 3) := by decide +kernel
theorem dX2_readInto_51 : decode cX2_readInto 51 = .ok (.iinc 2 1, 3) := by decide +kernel
theorem dX2_readInto_54 : decode cX2_readInto 54 = .ok (.goto (-34), 3) := by decide +kernel
theorem dX2_readInto_57 : decode cX2_readInto 57 = .ok (.aload_n 0, 1) := by decide +kernel
theorem dX2_readInto_58 : decode cX2_readInto 58 = .ok (.getfield 44, 3) := by decide +kernel
theorem dX2_readInto_61 : decode cX2_readInto 61 = .ok (.ifCond .eq 7, 3) := by decide +kernel
theorem dX2_readInto_64 : decode cX2_readInto 64 = .ok (.aload_n 0, 1) := by decide +kernel
theorem dX2_readInto_65 : decode cX2_readInto 65 = .ok (.invokevirtual 47, 3) := by decide +kernel
theorem dX2_readInto_68 : decode cX2_readInto 68 = .ok (.aload_n 0, 1) := by decide +kernel
theorem dX2_readInto_69 : decode cX2_readInto 69 = .ok (.iconst 0, 1) := by decide +kernel
theorem dX2_readInto_70 : decode cX2_readInto 70 = .ok (.putfield 15, 3) := by decide +kernel
theorem dX2_readInto_73 : decode cX2_readInto 73 = .ok (.aload_n 0, 1) := by decide +kernel
theorem dX2_readInto_74 : decode cX2_readInto 74 = .ok (.getfield 22, 3) := by decide +kernel
theorem dX2_readInto_77 : decode cX2_readInto 77 = .ok (.ireturn, 1) := by decide +kernel
theorem dX2_expect_0 : decode cX2_expect 0 = .ok (.aload_n 0, 1) := by decide +kernel
theorem dX2_expect_1 : decode cX2_expect 1 = .ok (.getfield 44, 3) := by decide +kernel
theorem dX2_expect_4 : decode cX2_expect 4 = .ok (.iload_n 1, 1) := by decide +kernel
theorem dX2_expect_5 : decode cX2_expect 5 = .ok (.if_icmp .ne 10, 3) := by decide +kernel
theorem dX2_expect_8 : decode cX2_expect 8 = .ok (.aload_n 0, 1) := by decide +kernel
theorem dX2_expect_9 : decode cX2_expect 9 = .ok (.invokevirtual 30, 3) := by decide +kernel
theorem dX2_expect_12 : decode cX2_expect 12 = .ok (.goto 7, 3) := by decide +kernel
theorem dX2_expect_15 : decode cX2_expect 15 = .ok (.aload_n 0, 1) := by decide +kernel
theorem dX2_expect_16 : decode cX2_expect 16 = .ok (.invokevirtual 47, 3) := by decide +kernel
theorem dX2_expect_19 : decode cX2_expect 19 = .ok (.return_, 1) := by decide +kernel
theorem dX2_fail_0 : decode cX2_fail 0 = .ok (.aload_n 0, 1) := by decide +kernel
theorem dX2_fail_1 : decode cX2_fail 1 = .ok (.getfield 22, 3) := by decide +kernel
theorem dX2_fail_4 : decode cX2_fail 4 = .ok (.ifCond .ge 11, 3) := by decide +kernel
theorem dX2_fail_7 : decode cX2_fail 7 = .ok (.aload_n 0, 1) := by decide +kernel
theorem dX2_fail_8 : decode cX2_fail 8 = .ok (.aload_n 0, 1) := by decide +kernel
theorem dX2_fail_9 : decode cX2_fail 9 = .ok (.getfield 50, 3) := by decide +kernel
theorem dX2_fail_12 : decode cX2_fail 12 = .ok (.putfield 22, 3) := by decide +kernel
theorem dX2_fail_15 : decode cX2_fail 15 = .ok (.aload_n 0, 1) := by decide +kernel
theorem dX2_fail_16 : decode cX2_fail 16 = .ok (.iconst 1, 1) := by decide +kernel
theorem dX2_fail_17 : decode cX2_fail 17 = .ok (.putfield 44, 3) := by decide +kernel
theorem dX2_fail_20 : decode cX2_fail 20 = .ok (.return_, 1) := by decide +kernel
theorem dX2_readEither_0 : decode cX2_readEither 0 = .ok (.aload_n 0, 1) := by decide +kernel
theorem dX2_readEither_1 : decode cX2_readEither 1 = .ok (.aload_n 1, 1) := by decide +kernel
theorem dX2_readEither_2 : decode cX2_readEither 2 = .ok (.iload_n 2, 1) := by decide +kernel
theorem dX2_readEither_3 : decode cX2_readEither 3 = .ok (.invokevirtual 53, 3) := by decide +kernel
theorem dX2_readEither_6 : decode cX2_readEither 6 = .ok (.iconst 0, 1) := by decide +kernel
theorem dX2_readEither_7 : decode cX2_readEither 7 = .ok (.istore_n 3, 1) := by decide +kernel
theorem dX2_readEither_8 : decode cX2_readEither 8 = .ok (.iload_n 3, 1) := by decide +kernel
theorem dX2_readEither_9 : decode cX2_readEither 9 = .ok (.sipush 160, 3) := by decide +kernel
theorem dX2_readEither_12 : decode cX2_readEither 12 = .ok (.if_icmp .ge 35, 3) := by decide +kernel
theorem dX2_readEither_15 : decode cX2_readEither 15 = .ok (.aload_n 0, 1) := by decide +kernel
theorem dX2_readEither_16 : decode cX2_readEither 16 = .ok (.getfield 44, 3) := by decide +kernel
theorem dX2_readEither_19 : decode cX2_readEither 19 = .ok (.sipush 259, 3) := by decide +kernel
theorem dX2_readEither_22 : decode cX2_readEither 22 = .ok (.if_icmp .ne 25, 3) := by decide +kernel
theorem dX2_readEither_25 : decode cX2_readEither 25 = .ok (.aload_n 0, 1) := by decide +kernel
theorem dX2_readEither_26 : decode cX2_readEither 26 = .ok (.invokevirtual 30, 3) := by decide +kernel
theorem dX2_readEither_29 : decode cX2_readEither 29 = .ok (.aload_n 0, 1) := by decide +kernel
theorem dX2_readEither_30 : decode cX2_readEither 30 = .ok (.aload_n 1, 1) := by decide +kernel
theorem dX2_readEither_31 : decode cX2_readEither 31 = .ok (.iload_n 2, 1) := by decide +kernel
theorem dX2_readEither_32 : decode cX2_readEither 32 = .ok (.invokevirtual 53, 3) := by decide +kernel
theorem dX2_readEither_35 : decode cX2_readEither 35 = .ok (.aload_n 1, 1) := by decide +kernel
theorem dX2_readEither_36 : decode cX2_readEither 36 = .ok (.bipush (-7), 2) := by decide +kernel
theorem dX2_readEither_38 : decode cX2_readEither 38 = .ok (.invokevirtual 56, 3) := by decide +kernel
theorem dX2_readEither_41 : decode cX2_readEither 41 = .ok (.iinc 3 1, 3) := by decide +kernel
theorem dX2_readEither_44 : decode cX2_readEither 44 = .ok (.goto (-36), 3) := by decide +kernel
theorem dX2_readEither_47 : decode cX2_readEither 47 = .ok (.return_, 1) := by decide +kernel
theorem dX2_readBoth_0 : decode cX2_readBoth 0 = .ok (.aload_n 0, 1) := by decide +kernel
theorem dX2_readBoth_1 : decode cX2_readBoth 1 = .ok (.aload_n 1, 1) := by decide +kernel
theorem dX2_readBoth_2 : decode cX2_readBoth 2 = .ok (.iload_n 2, 1) := by decide +kernel
theorem dX2_readBoth_3 : decode cX2_readBoth 3 = .ok (.invokevirtual 59, 3) := by decide +kernel
theorem dX2_readBoth_6 : decode cX2_readBoth 6 = .ok (.iconst 0, 1) := by decide +kernel
theorem dX2_readBoth_7 : decode cX2_readBoth 7 = .ok (.istore_n 3, 1) := by decide +kernel
theorem dX2_readBoth_8 : decode cX2_readBoth 8 = .ok (.iload_n 3, 1) := by decide +kernel
theorem dX2_readBoth_9 : decode cX2_readBoth 9 = .ok (.sipush 160, 3) := by decide +kernel
theorem dX2_readBoth_12 : decode cX2_readBoth 12 = .ok (.if_icmp .ge 35, 3) := by decide +kernel
theorem dX2_readBoth_15 : decode cX2_readBoth 15 = .ok (.aload_n 0, 1) := by decide +kernel
theorem dX2_readBoth_16 : decode cX2_readBoth 16 = .ok (.getfield 44, 3) := by decide +kernel
theorem dX2_readBoth_19 : decode cX2_readBoth 19 = .ok (.sipush 260, 3) := by decide +kernel
theorem dX2_readBoth_22 : decode cX2_readBoth 22 = .ok (.if_icmp .ne 25, 3) := by decide +kernel
theorem dX2_readBoth_25 : decode cX2_readBoth 25 = .ok (.aload_n 0, 1) := by decide +kernel
theorem dX2_readBoth_26 : decode cX2_readBoth 26 = .ok (.invokevirtual 30, 3) := by decide +kernel
theorem dX2_readBoth_29 : decode cX2_readBoth 29 = .ok (.aload_n 0, 1) := by decide +kernel
theorem dX2_readBoth_30 : decode cX2_readBoth 30 = .ok (.aload_n 1, 1) := by decide +kernel
theorem dX2_readBoth_31 : decode cX2_readBoth 31 = .ok (.iload_n 2, 1) := by decide +kernel
theorem dX2_readBoth_32 : decode cX2_readBoth 32 = .ok (.invokevirtual 59, 3) := by decide +kernel
theorem dX2_readBoth_35 : decode cX2_readBoth 35 = .ok (.aload_n 1, 1) := by decide +kernel
theorem dX2_readBoth_36 : decode cX2_readBoth 36 = .ok (.bipush (-8), 2) := by decide +kernel
theorem dX2_readBoth_38 : decode cX2_readBoth 38 = .ok (.invokevirtual 56, 3) := by decide +kernel
theorem dX2_readBoth_41 : decode cX2_readBoth 41 = .ok (.iinc 3 1, 3) := by decide +kernel
theorem dX2_readBoth_44 : decode cX2_readBoth 44 = .ok (.goto (-36), 3) := by decide +kernel
theorem dX2_readBoth_47 : decode cX2_readBoth 47 = .ok (.return_, 1) := by decide +kernel
theorem dX2_readNot_0 : decode cX2_readNot 0 = .ok (.aload_n 0, 1) := by decide +kernel
theorem dX2_readNot_1 : decode cX2_readNot 1 = .ok (.getfield 44, 3) := by decide +kernel
theorem dX2_readNot_4 : decode cX2_readNot 4 = .ok (.sipush 261, 3) := by decide +kernel
theorem dX2_readNot_7 : decode cX2_readNot 7 = .ok (.if_icmp .ne 30, 3) := by decide +kernel
theorem dX2_readNot_10 : decode cX2_readNot 10 = .ok (.aload_n 0, 1) := by decide +kernel
theorem dX2_readNot_11 : decode cX2_readNot 11 = .ok (.iload_n 2, 1) := by decide +kernel
theorem dX2_readNot_12 : decode cX2_readNot 12 = .ok (.invokevirtual 62, 3) := by decide +kernel
theorem dX2_readNot_15 : decode cX2_readNot 15 = .ok (.ifCond .eq 21, 3) := by decide +kernel
theorem dX2_readNot_18 : decode cX2_readNot 18 = .ok (.aload_n 0, 1) := by decide +kernel
theorem dX2_readNot_19 : decode cX2_readNot 19 = .ok (.invokevirtual 30, 3) := by decide +kernel
theorem dX2_readNot_22 : decode cX2_readNot 22 = .ok (.aload_n 0, 1) := by decide +kernel
theorem dX2_readNot_23 : decode cX2_readNot 23 = .ok (.aload_n 1, 1) := by decide +kernel
theorem dX2_readNot_24 : decode cX2_readNot 24 = .ok (.iload_n 2, 1) := by decide +kernel
theorem dX2_readNot_25 : decode cX2_readNot 25 = .ok (.iconst 1, 1) := by decide +kernel
theorem dX2_readNot_26 : decode cX2_readNot 26 = .ok (.iadd, 1) := by decide +kernel
theorem dX2_readNot_27 : decode cX2_readNot 27 = .ok (.invokevirtual 59, 3) := by decide +kernel
theorem dX2_readNot_30 : decode cX2_readNot 30 = .ok (.aload_n 1, 1) := by decide +kernel
theorem dX2_readNot_31 : decode cX2_readNot 31 = .ok (.bipush (-9), 2) := by decide +kernel
theorem dX2_readNot_33 : decode cX2_readNot 33 = .ok (.invokevirtual 56, 3) := by decide +kernel
theorem dX2_readNot_36 : decode cX2_readNot 36 = .ok (.return_, 1) := by decide +kernel
theorem dX2_readNot_37 : decode cX2_readNot 37 = .ok (.aload_n 0, 1) := by decide +kernel
theorem dX2_readNot_38 : decode cX2_readNot 38 = .ok (.aload_n 1, 1) := by decide +kernel
theorem dX2_readNot_39 : decode cX2_readNot 39 = .ok (.iload_n 2, 1) := by decide +kernel
theorem dX2_readNot_40 : decode cX2_readNot 40 = .ok (.invokevirtual 66, 3) := by decide +kernel
theorem dX2_readNot_43 : decode cX2_readNot 43 = .ok (.aload_n 0, 1) := by decide +kernel
theorem dX2_readNot_44 : decode cX2_readNot 44 = .ok (.getfield 44, 3) := by decide +kernel
theorem dX2_readNot_47 : decode cX2_readNot 47 = .ok (.bipush 60, 2) := by decide +kernel
theorem dX2_readNot_49 : decode cX2_readNot 49 = .ok (.if_icmp .eq 12, 3) := by decide +kernel
theorem dX2_readNot_52 : decode cX2_readNot 52 = .ok (.aload_n 0, 1) := by decide +kernel
theorem dX2_readNot_53 : decode cX2_readNot 53 = .ok (.getfield 44, 3) := by decide +kernel
theorem dX2_readNot_56 : decode cX2_readNot 56 = .ok (.bipush 61, 2) := by decide +kernel
theorem dX2_readNot_58 : decode cX2_readNot 58 = .ok (.if_icmp .ne 35, 3) := by decide +kernel
theorem dX2_readNot_61 : decode cX2_readNot 61 = .ok (.aload_n 0, 1) := by decide +kernel
theorem dX2_readNot_62 : decode cX2_readNot 62 = .ok (.getfield 44, 3) := by decide +kernel
theorem dX2_readNot_65 : decode cX2_readNot 65 = .ok (.bipush 60, 2) := by decide +kernel
theorem dX2_readNot_67 : decode cX2_readNot 67 = .ok (.if_icmp .ne 8, 3) := by decide +kernel
theorem dX2_readNot_70 : decode cX2_readNot 70 = .ok (.bipush (-10), 2) := by decide +kernel
theorem dX2_readNot_72 : decode cX2_readNot 72 = .ok (.goto 5, 3) := by decide +kernel
theorem dX2_readNot_75 : decode cX2_readNot 75 = .ok (.bipush (-11), 2) := by decide +kernel
theorem dX2_readNot_77 : decode cX2_readNot 77 = .ok (.istore_n 3, 1) := by decide +kernel
theorem dX2_readNot_78 : decode cX2_readNot 78 = .ok (.aload_n 0, 1) := by decide +kernel
theorem dX2_readNot_79 : decode cX2_readNot 79 = .ok (.invokevirtual 30, 3) := by decide +kernel
theorem dX2_readNot_82 : decode cX2_readNot 82 = .ok (.aload_n 0, 1) := by decide +kernel
theorem dX2_readNot_83 : decode cX2_readNot 83 = .ok (.aload_n 1, 1) := by decide +kernel
theorem dX2_readNot_84 : decode cX2_readNot 84 = .ok (.iload_n 2, 1) := by decide +kernel
theorem dX2_readNot_85 : decode cX2_readNot 85 = .ok (.invokevirtual 66, 3) := by decide +kernel
theorem dX2_readNot_88 : decode cX2_readNot 88 = .ok (.aload_n 1, 1) := by decide +kernel
theorem dX2_readNot_89 : decode cX2_readNot 89 = .ok (.iload_n 3, 1) := by decide +kernel
theorem dX2_readNot_90 : decode cX2_readNot 90 = .ok (.invokevirtual 56, 3) := by decide +kernel
theorem dX2_readNot_93 : decode cX2_readNot 93 = .ok (.return_, 1) := by decide +kernel
theorem dX2_readSum_0 : decode cX2_readSum 0 = .ok (.aload_n 0, 1) := by decide +kernel
theorem dX2_readSum_1 : decode cX2_readSum 1 = .ok (.aload_n 1, 1) := by decide +kernel
theorem dX2_readSum_2 : decode cX2_readSum 2 = .ok (.iload_n 2, 1) := by decide +kernel
theorem dX2_readSum_3 : decode cX2_readSum 3 = .ok (.invokevirtual 69, 3) := by decide +kernel
theorem dX2_readSum_6 : decode cX2_readSum 6 = .ok (.iconst 0, 1) := by decide +kernel
theorem dX2_readSum_7 : decode cX2_readSum 7 = .ok (.istore_n 3, 1) := by decide +kernel
theorem dX2_readSum_8 : decode cX2_readSum 8 = .ok (.iload_n 3, 1) := by decide +kernel
theorem dX2_readSum_9 : decode cX2_readSum 9 = .ok (.sipush 160, 3) := by decide +kernel
theorem dX2_readSum_12 : decode cX2_readSum 12 = .ok (.if_icmp .ge 61, 3) := by decide +kernel
theorem dX2_readSum_15 : decode cX2_readSum 15 = .ok (.aload_n 0, 1) := by decide +kernel
theorem dX2_readSum_16 : decode cX2_readSum 16 = .ok (.getfield 44, 3) := by decide +kernel
theorem dX2_readSum_19 : decode cX2_readSum 19 = .ok (.bipush 43, 2) := by decide +kernel
theorem dX2_readSum_21 : decode cX2_readSum 21 = .ok (.if_icmp .eq 12, 3) := by decide +kernel
theorem dX2_readSum_24 : decode cX2_readSum 24 = .ok (.aload_n 0, 1) := by decide +kernel
theorem dX2_readSum_25 : decode cX2_readSum 25 = .ok (.getfield 44, 3) := by decide +kernel
theorem dX2_readSum_28 : decode cX2_readSum 28 = .ok (.bipush 45, 2) := by decide +kernel
theorem dX2_readSum_30 : decode cX2_readSum 30 = .ok (.if_icmp .ne 43, 3) := by decide +kernel
theorem dX2_readSum_33 : decode cX2_readSum 33 = .ok (.aload_n 0, 1) := by decide +kernel
theorem dX2_readSum_34 : decode cX2_readSum 34 = .ok (.getfield 44, 3) := by decide +kernel
theorem dX2_readSum_37 : decode cX2_readSum 37 = .ok (.bipush 43, 2) := by decide +kernel
theorem dX2_readSum_39 : decode cX2_readSum 39 = .ok (.if_icmp .ne 8, 3) := by decide +kernel
theorem dX2_readSum_42 : decode cX2_readSum 42 = .ok (.bipush (-12), 2) := by decide +kernel
theorem dX2_readSum_44 : decode cX2_readSum 44 = .ok (.goto 5, 3) := by decide +kernel
theorem dX2_readSum_47 : decode cX2_readSum 47 = .ok (.bipush (-13), 2) := by decide +kernel
theorem dX2_readSum_49 : decode cX2_readSum 49 = .ok (.istore 4, 2) := by decide +kernel
theorem dX2_readSum_51 : decode cX2_readSum 51 = .ok (.aload_n 0, 1) := by decide +kernel
theorem dX2_readSum_52 : decode cX2_readSum 52 = .ok (.invokevirtual 30, 3) := by decide +kernel
theorem dX2_readSum_55 : decode cX2_readSum 55 = .ok (.aload_n 0, 1) := by decide +kernel
theorem dX2_readSum_56 : decode cX2_readSum 56 = .ok (.aload_n 1, 1) := by decide +kernel
theorem dX2_readSum_57 : decode cX2_readSum 57 = .ok (.iload_n 2, 1) := by decide +kernel
theorem dX2_readSum_58 : decode cX2_readSum 58 = .ok (.invokevirtual 69, 3) := by decide +kernel
theorem dX2_readSum_61 : decode cX2_readSum 61 = .ok (.aload_n 1, 1) := by decide +kernel
theorem dX2_readSum_62 : decode cX2_readSum 62 = .ok (.iload 4, 2) := by decide +kernel
theorem dX2_readSum_64 : decode cX2_readSum 64 = .ok (.invokevirtual 56, 3) := by decide +kernel
theorem dX2_readSum_67 : decode cX2_readSum 67 = .ok (.iinc 3 1, 3) := by decide +kernel
theorem dX2_readSum_70 : decode cX2_readSum 70 = .ok (.goto (-62), 3) := by decide +kernel
theorem dX2_readSum_73 : decode cX2_readSum 73 = .ok (.return_, 1) := by decide +kernel
theorem dX2_readTerm_0 : decode cX2_readTerm 0 = .ok (.aload_n 0, 1) := by decide +kernel
theorem dX2_readTerm_1 : decode cX2_readTerm 1 = .ok (.aload_n 1, 1) := by decide +kernel
theorem dX2_readTerm_2 : decode cX2_readTerm 2 = .ok (.iload_n 2, 1) := by decide +kernel
theorem dX2_readTerm_3 : decode cX2_readTerm 3 = .ok (.invokevirtual 72, 3) := by decide +kernel
theorem dX2_readTerm_6 : decode cX2_readTerm 6 = .ok (.iconst 0, 1) := by decide +kernel
theorem dX2_readTerm_7 : decode cX2_readTerm 7 = .ok (.istore_n 3, 1) := by decide +kernel
theorem dX2_readTerm_8 : decode cX2_readTerm 8 = .ok (.iload_n 3, 1) := by decide +kernel
theorem dX2_readTerm_9 : decode cX2_readTerm 9 = .ok (.sipush 160, 3) := by decide +kernel
theorem dX2_readTerm_12 : decode cX2_readTerm 12 = .ok (.if_icmp .ge 34, 3) := by decide +kernel
theorem dX2_readTerm_15 : decode cX2_readTerm 15 = .ok (.aload_n 0, 1) := by decide +kernel
theorem dX2_readTerm_16 : decode cX2_readTerm 16 = .ok (.getfield 44, 3) := by decide +kernel
theorem dX2_readTerm_19 : decode cX2_readTerm 19 = .ok (.bipush 42, 2) := by decide +kernel
theorem dX2_readTerm_21 : decode cX2_readTerm 21 = .ok (.if_icmp .ne 25, 3) := by decide +kernel
theorem dX2_readTerm_24 : decode cX2_readTerm 24 = .ok (.aload_n 0, 1) := by decide +kernel
theorem dX2_readTerm_25 : decode cX2_readTerm 25 = .ok (.invokevirtual 30, 3) := by decide +kernel
theorem dX2_readTerm_28 : decode cX2_readTerm 28 = .ok (.aload_n 0, 1) := by decide +kernel
theorem dX2_readTerm_29 : decode cX2_readTerm 29 = .ok (.aload_n 1, 1) := by decide +kernel
theorem dX2_readTerm_30 : decode cX2_readTerm 30 = .ok (.iload_n 2, 1) := by decide +kernel
theorem dX2_readTerm_31 : decode cX2_readTerm 31 = .ok (.invokevirtual 72, 3) := by decide +kernel
theorem dX2_readTerm_34 : decode cX2_readTerm 34 = .ok (.aload_n 1, 1) := by decide +kernel
theorem dX2_readTerm_35 : decode cX2_readTerm 35 = .ok (.bipush (-14), 2) := by decide +kernel
theorem dX2_readTerm_37 : decode cX2_readTerm 37 = .ok (.invokevirtual 56, 3) := by decide +kernel
theorem dX2_readTerm_40 : decode cX2_readTerm 40 = .ok (.iinc 3 1, 3) := by decide +kernel
theorem dX2_readTerm_43 : decode cX2_readTerm 43 = .ok (.goto (-35), 3) := by decide +kernel
theorem dX2_readTerm_46 : decode cX2_readTerm 46 = .ok (.return_, 1) := by decide +kernel
theorem dX2_readOne_0 : decode cX2_readOne 0 = .ok (.aload_n 0, 1) := by decide +kernel
theorem dX2_readOne_1 : decode cX2_readOne 1 = .ok (.getfield 44, 3) := by decide +kernel
theorem dX2_readOne_4 : decode cX2_readOne 4 = .ok (.iconst 2, 1) := by decide +kernel
theorem dX2_readOne_5 : decode cX2_readOne 5 = .ok (.if_icmp .ne 18, 3) := by decide +kernel
theorem dX2_readOne_8 : decode cX2_readOne 8 = .ok (.aload_n 1, 1) := by decide +kernel
theorem dX2_readOne_9 : decode cX2_readOne 9 = .ok (.aload_n 0, 1) := by decide +kernel
theorem dX2_readOne_10 : decode cX2_readOne 10 = .ok (.getfield 75, 3) := by decide +kernel
theorem dX2_readOne_13 : decode cX2_readOne 13 = .ok (.invokevirtual 56, 3) := by decide +kernel
theorem dX2_readOne_16 : decode cX2_readOne 16 = .ok (.aload_n 0, 1) := by decide +kernel
theorem dX2_readOne_17 : decode cX2_readOne 17 = .ok (.invokevirtual 30, 3) := by decide +kernel
theorem dX2_readOne_20 : decode cX2_readOne 20 = .ok (.goto 105, 3) := by decide +kernel
theorem dX2_readOne_23 : decode cX2_readOne 23 = .ok (.aload_n 0, 1) := by decide +kernel
theorem dX2_readOne_24 : decode cX2_readOne 24 = .ok (.getfield 44, 3) := by decide +kernel
theorem dX2_readOne_27 : decode cX2_readOne 27 = .ok (.ifCond .ge 18, 3) := by decide +kernel
theorem dX2_readOne_30 : decode cX2_readOne 30 = .ok (.aload_n 1, 1) := by decide +kernel
theorem dX2_readOne_31 : decode cX2_readOne 31 = .ok (.aload_n 0, 1) := by decide +kernel
theorem dX2_readOne_32 : decode cX2_readOne 32 = .ok (.getfield 44, 3) := by decide +kernel
theorem dX2_readOne_35 : decode cX2_readOne 35 = .ok (.invokevirtual 56, 3) := by decide +kernel
theorem dX2_readOne_38 : decode cX2_readOne 38 = .ok (.aload_n 0, 1) := by decide +kernel
theorem dX2_readOne_39 : decode cX2_readOne 39 = .ok (.invokevirtual 30, 3) := by decide +kernel
theorem dX2_readOne_42 : decode cX2_readOne 42 = .ok (.goto 83, 3) := by decide +kernel
theorem dX2_readOne_45 : decode cX2_readOne 45 = .ok (.aload_n 0, 1) := by decide +kernel
theorem dX2_readOne_46 : decode cX2_readOne 46 = .ok (.getfield 44, 3) := by decide +kernel
theorem dX2_readOne_49 : decode cX2_readOne 49 = .ok (.bipush 45, 2) := by decide +kernel
theorem dX2_readOne_51 : decode cX2_readOne 51 = .ok (.if_icmp .ne 32, 3) := by decide +kernel
theorem dX2_readOne_54 : decode cX2_readOne 54 = .ok (.aload_n 0, 1) := by decide +kernel
theorem dX2_readOne_55 : decode cX2_readOne 55 = .ok (.iload_n 2, 1) := by decide +kernel
theorem dX2_readOne_56 : decode cX2_readOne 56 = .ok (.invokevirtual 62, 3) := by decide +kernel
theorem dX2_readOne_59 : decode cX2_readOne 59 = .ok (.ifCond .eq 66, 3) := by decide +kernel
theorem dX2_readOne_62 : decode cX2_readOne 62 = .ok (.aload_n 0, 1) := by decide +kernel
theorem dX2_readOne_63 : decode cX2_readOne 63 = .ok (.invokevirtual 30, 3) := by decide +kernel
theorem dX2_readOne_66 : decode cX2_readOne 66 = .ok (.aload_n 0, 1) := by decide +kernel
theorem dX2_readOne_67 : decode cX2_readOne 67 = .ok (.aload_n 1, 1) := by decide +kernel
theorem dX2_readOne_68 : decode cX2_readOne 68 = .ok (.iload_n 2, 1) := by decide +kernel
theorem dX2_readOne_69 : decode cX2_readOne 69 = .ok (.iconst 1, 1) := by decide +kernel
theorem dX2_readOne_70 : decode cX2_readOne 70 = .ok (.iadd, 1) := by decide +kernel
theorem dX2_readOne_71 : decode cX2_readOne 71 = .ok (.invokevirtual 72, 3) := by decide +kernel
theorem dX2_readOne_74 : decode cX2_readOne 74 = .ok (.aload_n 1, 1) := by decide +kernel
theorem dX2_readOne_75 : decode cX2_readOne 75 = .ok (.bipush (-15), 2) := by decide +kernel
theorem dX2_readOne_77 : decode cX2_readOne 77 = .ok (.invokevirtual 56, 3) := by decide +kernel
theorem dX2_readOne_80 : decode cX2_readOne 80 = .ok (.goto 45, 3) := by decide +kernel
theorem dX2_readOne_83 : decode cX2_readOne 83 = .ok (.aload_n 0, 1) := by decide +kernel
theorem dX2_readOne_84 : decode cX2_readOne 84 = .ok (.getfield 44, 3) := by decide +kernel
theorem dX2_readOne_87 : decode cX2_readOne 87 = .ok (.bipush 40, 2) := by decide +kernel
theorem dX2_readOne_89 : decode cX2_readOne 89 = .ok (.if_icmp .ne 32, 3) := by decide +kernel
theorem dX2_readOne_92 : decode cX2_readOne 92 = .ok (.aload_n 0, 1) := by decide +kernel
theorem dX2_readOne_93 : decode cX2_readOne 93 = .ok (.iload_n 2, 1) := by decide +kernel
theorem dX2_readOne_94 : decode cX2_readOne 94 = .ok (.invokevirtual 62, 3) := by decide +kernel
theorem dX2_readOne_97 : decode cX2_readOne 97 = .ok (.ifCond .eq 28, 3) := by decide +kernel
theorem dX2_readOne_100 : decode cX2_readOne 100 = .ok (.aload_n 0, 1) := by decide +kernel
theorem dX2_readOne_101 : decode cX2_readOne 101 = .ok (.invokevirtual 30, 3) := by decide +kernel
theorem dX2_readOne_104 : decode cX2_readOne 104 = .ok (.aload_n 0, 1) := by decide +kernel
theorem dX2_readOne_105 : decode cX2_readOne 105 = .ok (.aload_n 1, 1) := by decide +kernel
theorem dX2_readOne_106 : decode cX2_readOne 106 = .ok (.iload_n 2, 1) := by decide +kernel
theorem dX2_readOne_107 : decode cX2_readOne 107 = .ok (.iconst 1, 1) := by decide +kernel
theorem dX2_readOne_108 : decode cX2_readOne 108 = .ok (.iadd, 1) := by decide +kernel
theorem dX2_readOne_109 : decode cX2_readOne 109 = .ok (.invokevirtual 37, 3) := by decide +kernel
theorem dX2_readOne_112 : decode cX2_readOne 112 = .ok (.aload_n 0, 1) := by decide +kernel
theorem dX2_readOne_113 : decode cX2_readOne 113 = .ok (.bipush 41, 2) := by decide +kernel
theorem dX2_readOne_115 : decode cX2_readOne 115 = .ok (.invokevirtual 33, 3) := by decide +kernel
theorem dX2_readOne_118 : decode cX2_readOne 118 = .ok (.goto 7, 3) := by decide +kernel
theorem dX2_readOne_121 : decode cX2_readOne 121 = .ok (.aload_n 0, 1) := by decide +kernel
theorem dX2_readOne_122 : decode cX2_readOne 122 = .ok (.invokevirtual 47, 3) := by decide +kernel
theorem dX2_readOne_125 : decode cX2_readOne 125 = .ok (.return_, 1) := by decide +kernel
theorem dX2_mayOpen_0 : decode cX2_mayOpen 0 = .ok (.iload_n 1, 1) := by decide +kernel
theorem dX2_mayOpen_1 : decode cX2_mayOpen 1 = .ok (.iconst 5, 1) := by decide +kernel
theorem dX2_mayOpen_2 : decode cX2_mayOpen 2 = .ok (.if_icmp .lt 9, 3) := by decide +kernel
theorem dX2_mayOpen_5 : decode cX2_mayOpen 5 = .ok (.aload_n 0, 1) := by decide +kernel
theorem dX2_mayOpen_6 : decode cX2_mayOpen 6 = .ok (.invokevirtual 47, 3) := by decide +kernel
theorem dX2_mayOpen_9 : decode cX2_mayOpen 9 = .ok (.iconst 0, 1) := by decide +kernel
theorem dX2_mayOpen_10 : decode cX2_mayOpen 10 = .ok (.ireturn, 1) := by decide +kernel
theorem dX2_mayOpen_11 : decode cX2_mayOpen 11 = .ok (.iconst 1, 1) := by decide +kernel
theorem dX2_mayOpen_12 : decode cX2_mayOpen 12 = .ok (.ireturn, 1) := by decide +kernel
theorem dX2_byteAt_0 : decode cX2_byteAt 0 = .ok (.iload_n 1, 1) := by decide +kernel
theorem dX2_byteAt_1 : decode cX2_byteAt 1 = .ok (.ifCond .lt 27, 3) := by decide +kernel
theorem dX2_byteAt_4 : decode cX2_byteAt 4 = .ok (.iload_n 1, 1) := by decide +kernel
theorem dX2_byteAt_5 : decode cX2_byteAt 5 = .ok (.aload_n 0, 1) := by decide +kernel
theorem dX2_byteAt_6 : decode cX2_byteAt 6 = .ok (.getfield 15, 3) := by decide +kernel
theorem dX2_byteAt_9 : decode cX2_byteAt 9 = .ok (.if_icmp .ge 19, 3) := by decide +kernel
theorem dX2_byteAt_12 : decode cX2_byteAt 12 = .ok (.iload_n 1, 1) := by decide +kernel
theorem dX2_byteAt_13 : decode cX2_byteAt 13 = .ok (.sipush 160, 3) := by decide +kernel
theorem dX2_byteAt_16 : decode cX2_byteAt 16 = .ok (.if_icmp .ge 12, 3) := by decide +kernel
theorem dX2_byteAt_19 : decode cX2_byteAt 19 = .ok (.aload_n 0, 1) := by decide +kernel
theorem dX2_byteAt_20 : decode cX2_byteAt 20 = .ok (.getfield 9, 3) := by decide +kernel
theorem dX2_byteAt_23 : decode cX2_byteAt 23 = .ok (.iload_n 1, 1) := by decide +kernel
theorem dX2_byteAt_24 : decode cX2_byteAt 24 = .ok (.iaload, 1) := by decide +kernel
theorem dX2_byteAt_25 : decode cX2_byteAt 25 = .ok (.goto 4, 3) := by decide +kernel
theorem dX2_byteAt_28 : decode cX2_byteAt 28 = .ok (.iconst 0, 1) := by decide +kernel
theorem dX2_byteAt_29 : decode cX2_byteAt 29 = .ok (.ireturn, 1) := by decide +kernel
theorem dX2_step_0 : decode cX2_step 0 = .ok (.aload_n 0, 1) := by decide +kernel
theorem dX2_step_1 : decode cX2_step 1 = .ok (.getfield 19, 3) := by decide +kernel
theorem dX2_step_4 : decode cX2_step 4 = .ok (.aload_n 0, 1) := by decide +kernel
theorem dX2_step_5 : decode cX2_step 5 = .ok (.getfield 15, 3) := by decide +kernel
theorem dX2_step_8 : decode cX2_step 8 = .ok (.if_icmp .ge 42, 3) := by decide +kernel
theorem dX2_step_11 : decode cX2_step 11 = .ok (.aload_n 0, 1) := by decide +kernel
theorem dX2_step_12 : decode cX2_step 12 = .ok (.aload_n 0, 1) := by decide +kernel
theorem dX2_step_13 : decode cX2_step 13 = .ok (.getfield 19, 3) := by decide +kernel
theorem dX2_step_16 : decode cX2_step 16 = .ok (.invokevirtual 78, 3) := by decide +kernel
theorem dX2_step_19 : decode cX2_step 19 = .ok (.bipush 32, 2) := by decide +kernel
theorem dX2_step_21 : decode cX2_step 21 = .ok (.if_icmp .eq 16, 3) := by decide +kernel
theorem dX2_step_24 : decode cX2_step 24 = .ok (.aload_n 0, 1) := by decide +kernel
theorem dX2_step_25 : decode cX2_step 25 = .ok (.aload_n 0, 1) := by decide +kernel
theorem dX2_step_26 : decode cX2_step 26 = .ok (.getfield 19, 3) := by decide +kernel
theorem dX2_step_29 : decode cX2_step 29 = .ok (.invokevirtual 78, 3) := by decide +kernel
theorem dX2_step_32 : decode cX2_step 32 = .ok (.bipush 10, 2) := by decide +kernel
theorem dX2_step_34 : decode cX2_step 34 = .ok (.if_icmp .ne 16, 3) := by decide +kernel
theorem dX2_step_37 : decode cX2_step 37 = .ok (.aload_n 0, 1) := by decide +kernel
theorem dX2_step_38 : decode cX2_step 38 = .ok (.dup, 1) := by decide +kernel
theorem dX2_step_39 : decode cX2_step 39 = .ok (.getfield 19, 3) := by decide +kernel
theorem dX2_step_42 : decode cX2_step 42 = .ok (.iconst 1, 1) := by decide +kernel
theorem dX2_step_43 : decode cX2_step 43 = .ok (.iadd, 1) := by decide +kernel
theorem dX2_step_44 : decode cX2_step 44 = .ok (.putfield 19, 3) := by decide +kernel
theorem dX2_step_47 : decode cX2_step 47 = .ok (.goto (-47), 3) := by decide +kernel
theorem dX2_step_50 : decode cX2_step 50 = .ok (.aload_n 0, 1) := by decide +kernel
theorem dX2_step_51 : decode cX2_step 51 = .ok (.aload_n 0, 1) := by decide +kernel
theorem dX2_step_52 : decode cX2_step 52 = .ok (.getfield 19, 3) := by decide +kernel
theorem dX2_step_55 : decode cX2_step 55 = .ok (.putfield 50, 3) := by decide +kernel
theorem dX2_step_58 : decode cX2_step 58 = .ok (.aload_n 0, 1) := by decide +kernel
theorem dX2_step_59 : decode cX2_step 59 = .ok (.aload_n 0, 1) := by decide +kernel
theorem dX2_step_60 : decode cX2_step 60 = .ok (.getfield 19, 3) := by decide +kernel
theorem dX2_step_63 : decode cX2_step 63 = .ok (.invokevirtual 78, 3) := by decide +kernel
theorem dX2_step_66 : decode cX2_step 66 = .ok (.istore_n 1, 1) := by decide +kernel
theorem dX2_step_67 : decode cX2_step 67 = .ok (.aload_n 0, 1) := by decide +kernel
theorem dX2_step_68 : decode cX2_step 68 = .ok (.getfield 19, 3) := by decide +kernel
theorem dX2_step_71 : decode cX2_step 71 = .ok (.aload_n 0, 1) := by decide +kernel
theorem dX2_step_72 : decode cX2_step 72 = .ok (.getfield 15, 3) := by decide +kernel
theorem dX2_step_75 : decode cX2_step 75 = .ok (.if_icmp .lt 11, 3) := by decide +kernel
theorem dX2_step_78 : decode cX2_step 78 = .ok (.aload_n 0, 1) := by decide +kernel
theorem dX2_step_79 : decode cX2_step 79 = .ok (.iconst 0, 1) := by decide +kernel
theorem dX2_step_80 : decode cX2_step 80 = .ok (.putfield 44, 3) := by decide +kernel
theorem dX2_step_83 : decode cX2_step 83 = .ok (.goto 57, 3) := by decide +kernel
theorem dX2_step_86 : decode cX2_step 86 = .ok (.iload_n 1, 1) := by decide +kernel
theorem dX2_step_87 : decode cX2_step 87 = .ok (.invokestatic 82, 3) := by decide +kernel
theorem dX2_step_90 : decode cX2_step 90 = .ok (.ifCond .eq 10, 3) := by decide +kernel
theorem dX2_step_93 : decode cX2_step 93 = .ok (.aload_n 0, 1) := by decide +kernel
theorem dX2_step_94 : decode cX2_step 94 = .ok (.invokevirtual 85, 3) := by decide +kernel
theorem dX2_step_97 : decode cX2_step 97 = .ok (.goto 43, 3) := by decide +kernel
theorem dX2_step_100 : decode cX2_step 100 = .ok (.iload_n 1, 1) := by decide +kernel
theorem dX2_step_101 : decode cX2_step 101 = .ok (.invokestatic 88, 3) := by decide +kernel
theorem dX2_step_104 : decode cX2_step 104 = .ok (.ifCond .eq 10, 3) := by decide +kernel
theorem dX2_step_107 : decode cX2_step 107 = .ok (.aload_n 0, 1) := by decide +kernel
theorem dX2_step_108 : decode cX2_step 108 = .ok (.invokevirtual 91, 3) := by decide +kernel
theorem dX2_step_111 : decode cX2_step 111 = .ok (.goto 29, 3) := by decide +kernel
theorem dX2_step_114 : decode cX2_step 114 = .ok (.aload_n 0, 1) := by decide +kernel
theorem dX2_step_115 : decode cX2_step 115 = .ok (.iload_n 1, 1) := by decide +kernel
theorem dX2_step_116 : decode cX2_step 116 = .ok (.invokestatic 94, 3) := by decide +kernel
theorem dX2_step_119 : decode cX2_step 119 = .ok (.ifCond .eq 7, 3) := by decide +kernel
theorem dX2_step_122 : decode cX2_step 122 = .ok (.iload_n 1, 1) := by decide +kernel
theorem dX2_step_123 : decode cX2_step 123 = .ok (.goto 4, 3) := by decide +kernel
theorem dX2_step_126 : decode cX2_step 126 = .ok (.iconst 1, 1) := by decide +kernel
theorem dX2_step_127 : decode cX2_step 127 = .ok (.putfield 44, 3) := by decide +kernel
theorem dX2_step_130 : decode cX2_step 130 = .ok (.aload_n 0, 1) := by decide +kernel
theorem dX2_step_131 : decode cX2_step 131 = .ok (.dup, 1) := by decide +kernel
theorem dX2_step_132 : decode cX2_step 132 = .ok (.getfield 19, 3) := by decide +kernel
theorem dX2_step_135 : decode cX2_step 135 = .ok (.iconst 1, 1) := by decide +kernel
theorem dX2_step_136 : decode cX2_step 136 = .ok (.iadd, 1) := by decide +kernel
theorem dX2_step_137 : decode cX2_step 137 = .ok (.putfield 19, 3) := by decide +kernel
theorem dX2_step_140 : decode cX2_step 140 = .ok (.return_, 1) := by decide +kernel
theorem dX2_takeWord_0 : decode cX2_takeWord 0 = .ok (.aload_n 0, 1) := by decide +kernel
theorem dX2_takeWord_1 : decode cX2_takeWord 1 = .ok (.getfield 19, 3) := by decide +kernel
theorem dX2_takeWord_4 : decode cX2_takeWord 4 = .ok (.aload_n 0, 1) := by decide +kernel
theorem dX2_takeWord_5 : decode cX2_takeWord 5 = .ok (.getfield 15, 3) := by decide +kernel
theorem dX2_takeWord_8 : decode cX2_takeWord 8 = .ok (.if_icmp .ge 30, 3) := by decide +kernel
theorem dX2_takeWord_11 : decode cX2_takeWord 11 = .ok (.aload_n 0, 1) := by decide +kernel
theorem dX2_takeWord_12 : decode cX2_takeWord 12 = .ok (.aload_n 0, 1) := by decide +kernel
theorem dX2_takeWord_13 : decode cX2_takeWord 13 = .ok (.getfield 19, 3) := by decide +kernel
theorem dX2_takeWord_16 : decode cX2_takeWord 16 = .ok (.invokevirtual 78, 3) := by decide +kernel
theorem dX2_takeWord_19 : decode cX2_takeWord 19 = .ok (.invokestatic 82, 3) := by decide +kernel
theorem dX2_takeWord_22 : decode cX2_takeWord 22 = .ok (.ifCond .eq 16, 3) := by decide +kernel
theorem dX2_takeWord_25 : decode cX2_takeWord 25 = .ok (.aload_n 0, 1) := by decide +kernel
theorem dX2_takeWord_26 : decode cX2_takeWord 26 = .ok (.dup, 1) := by decide +kernel
theorem dX2_takeWord_27 : decode cX2_takeWord 27 = .ok (.getfield 19, 3) := by decide +kernel
theorem dX2_takeWord_30 : decode cX2_takeWord 30 = .ok (.iconst 1, 1) := by decide +kernel
theorem dX2_takeWord_31 : decode cX2_takeWord 31 = .ok (.iadd, 1) := by decide +kernel
theorem dX2_takeWord_32 : decode cX2_takeWord 32 = .ok (.putfield 19, 3) := by decide +kernel
theorem dX2_takeWord_35 : decode cX2_takeWord 35 = .ok (.goto (-35), 3) := by decide +kernel
theorem dX2_takeWord_38 : decode cX2_takeWord 38 = .ok (.aload_n 0, 1) := by decide +kernel
theorem dX2_takeWord_39 : decode cX2_takeWord 39 = .ok (.iconst 1, 1) := by decide +kernel
theorem dX2_takeWord_40 : decode cX2_takeWord 40 = .ok (.putfield 44, 3) := by decide +kernel
theorem dX2_takeWord_43 : decode cX2_takeWord 43 = .ok (.bipush (-6), 2) := by decide +kernel
theorem dX2_takeWord_45 : decode cX2_takeWord 45 = .ok (.istore_n 1, 1) := by decide +kernel
theorem dX2_takeWord_46 : decode cX2_takeWord 46 = .ok (.iload_n 1, 1) := by decide +kernel
theorem dX2_takeWord_47 : decode cX2_takeWord 47 = .ok (.iconst (-1), 1) := by decide +kernel
theorem dX2_takeWord_48 : decode cX2_takeWord 48 = .ok (.if_icmp .gt 25, 3) := by decide +kernel
theorem dX2_takeWord_51 : decode cX2_takeWord 51 = .ok (.aload_n 0, 1) := by decide +kernel
theorem dX2_takeWord_52 : decode cX2_takeWord 52 = .ok (.iload_n 1, 1) := by decide +kernel
theorem dX2_takeWord_53 : decode cX2_takeWord 53 = .ok (.invokestatic 97, 3) := by decide +kernel
theorem dX2_takeWord_56 : decode cX2_takeWord 56 = .ok (.invokevirtual 101, 3) := by decide +kernel
theorem dX2_takeWord_59 : decode cX2_takeWord 59 = .ok (.ifCond .eq 8, 3) := by decide +kernel
theorem dX2_takeWord_62 : decode cX2_takeWord 62 = .ok (.aload_n 0, 1) := by decide +kernel
theorem dX2_takeWord_63 : decode cX2_takeWord 63 = .ok (.iload_n 1, 1) := by decide +kernel
theorem dX2_takeWord_64 : decode cX2_takeWord 64 = .ok (.putfield 44, 3) := by decide +kernel
theorem dX2_takeWord_67 : decode cX2_takeWord 67 = .ok (.iinc 1 1, 3) := by decide +kernel
theorem dX2_takeWord_70 : decode cX2_takeWord 70 = .ok (.goto (-24), 3) := by decide +kernel
theorem dX2_takeWord_73 : decode cX2_takeWord 73 = .ok (.sipush 256, 3) := by decide +kernel
theorem dX2_takeWord_76 : decode cX2_takeWord 76 = .ok (.istore_n 1, 1) := by decide +kernel
theorem dX2_takeWord_77 : decode cX2_takeWord 77 = .ok (.iload_n 1, 1) := by decide +kernel
theorem dX2_takeWord_78 : decode cX2_takeWord 78 = .ok (.sipush 261, 3) := by decide +kernel
theorem dX2_takeWord_81 : decode cX2_takeWord 81 = .ok (.if_icmp .gt 25, 3) := by decide +kernel
theorem dX2_takeWord_84 : decode cX2_takeWord 84 = .ok (.aload_n 0, 1) := by decide +kernel
theorem dX2_takeWord_85 : decode cX2_takeWord 85 = .ok (.iload_n 1, 1) := by decide +kernel
theorem dX2_takeWord_86 : decode cX2_takeWord 86 = .ok (.invokestatic 97, 3) := by decide +kernel
theorem dX2_takeWord_89 : decode cX2_takeWord 89 = .ok (.invokevirtual 101, 3) := by decide +kernel
theorem dX2_takeWord_92 : decode cX2_takeWord 92 = .ok (.ifCond .eq 8, 3) := by decide +kernel
theorem dX2_takeWord_95 : decode cX2_takeWord 95 = .ok (.aload_n 0, 1) := by decide +kernel
theorem dX2_takeWord_96 : decode cX2_takeWord 96 = .ok (.iload_n 1, 1) := by decide +kernel
theorem dX2_takeWord_97 : decode cX2_takeWord 97 = .ok (.putfield 44, 3) := by decide +kernel
theorem dX2_takeWord_100 : decode cX2_takeWord 100 = .ok (.iinc 1 1, 3) := by decide +kernel
theorem dX2_takeWord_103 : decode cX2_takeWord 103 = .ok (.goto (-26), 3) := by decide +kernel
theorem dX2_takeWord_106 : decode cX2_takeWord 106 = .ok (.return_, 1) := by decide +kernel
theorem dX2_takeNumber_0 : decode cX2_takeNumber 0 = .ok (.aload_n 0, 1) := by decide +kernel
theorem dX2_takeNumber_1 : decode cX2_takeNumber 1 = .ok (.iconst 0, 1) := by decide +kernel
theorem dX2_takeNumber_2 : decode cX2_takeNumber 2 = .ok (.putfield 75, 3) := by decide +kernel
theorem dX2_takeNumber_5 : decode cX2_takeNumber 5 = .ok (.aload_n 0, 1) := by decide +kernel
theorem dX2_takeNumber_6 : decode cX2_takeNumber 6 = .ok (.getfield 19, 3) := by decide +kernel
theorem dX2_takeNumber_9 : decode cX2_takeNumber 9 = .ok (.aload_n 0, 1) := by decide +kernel
theorem dX2_takeNumber_10 : decode cX2_takeNumber 10 = .ok (.getfield 15, 3) := by decide +kernel
theorem dX2_takeNumber_13 : decode cX2_takeNumber 13 = .ok (.if_icmp .ge 53, 3) := by decide +kernel
theorem dX2_takeNumber_16 : decode cX2_takeNumber 16 = .ok (.aload_n 0, 1) := by decide +kernel
theorem dX2_takeNumber_17 : decode cX2_takeNumber 17 = .ok (.aload_n 0, 1) := by decide +kernel
theorem dX2_takeNumber_18 : decode cX2_takeNumber 18 = .ok (.getfield 19, 3) := by decide +kernel
theorem dX2_takeNumber_21 : decode cX2_takeNumber 21 = .ok (.invokevirtual 78, 3) := by decide +kernel
theorem dX2_takeNumber_24 : decode cX2_takeNumber 24 = .ok (.invokestatic 88, 3) := by decide +kernel
theorem dX2_takeNumber_27 : decode cX2_takeNumber 27 = .ok (.ifCond .eq 39, 3) := by decide +kernel
theorem dX2_takeNumber_30 : decode cX2_takeNumber 30 = .ok (.aload_n 0, 1) := by decide +kernel
theorem dX2_takeNumber_31 : decode cX2_takeNumber 31 = .ok (.aload_n 0, 1) := by decide +kernel
theorem dX2_takeNumber_32 : decode cX2_takeNumber 32 = .ok (.getfield 75, 3) := by decide +kernel
theorem dX2_takeNumber_35 : decode cX2_takeNumber 35 = .ok (.bipush 10, 2) := by decide +kernel
theorem dX2_takeNumber_37 : decode cX2_takeNumber 37 = .ok (.imul, 1) := by decide +kernel
theorem dX2_takeNumber_38 : decode cX2_takeNumber 38 = .ok (.aload_n 0, 1) := by decide +kernel
theorem dX2_takeNumber_39 : decode cX2_takeNumber 39 = .ok (.aload_n 0, 1) := by decide +kernel
theorem dX2_takeNumber_40 : decode cX2_takeNumber 40 = .ok (.getfield 19, 3) := by decide +kernel
theorem dX2_takeNumber_43 : decode cX2_takeNumber 43 = .ok (.invokevirtual 78, 3) := by decide +kernel
theorem dX2_takeNumber_46 : decode cX2_takeNumber 46 = .ok (.iadd, 1) := by decide +kernel
theorem dX2_takeNumber_47 : decode cX2_takeNumber 47 = .ok (.bipush 48, 2) := by decide +kernel
theorem dX2_takeNumber_49 : decode cX2_takeNumber 49 = .ok (.isub, 1) := by decide +kernel
theorem dX2_takeNumber_50 : decode cX2_takeNumber 50 = .ok (.putfield 75, 3) := by decide +kernel
theorem dX2_takeNumber_53 : decode cX2_takeNumber 53 = .ok (.aload_n 0, 1) := by decide +kernel
theorem dX2_takeNumber_54 : decode cX2_takeNumber 54 = .ok (.dup, 1) := by decide +kernel
theorem dX2_takeNumber_55 : decode cX2_takeNumber 55 = .ok (.getfield 19, 3) := by decide +kernel
theorem dX2_takeNumber_58 : decode cX2_takeNumber 58 = .ok (.iconst 1, 1) := by decide +kernel
theorem dX2_takeNumber_59 : decode cX2_takeNumber 59 = .ok (.iadd, 1) := by decide +kernel
theorem dX2_takeNumber_60 : decode cX2_takeNumber 60 = .ok (.putfield 19, 3) := by decide +kernel
theorem dX2_takeNumber_63 : decode cX2_takeNumber 63 = .ok (.goto (-58), 3) := by decide +kernel
theorem dX2_takeNumber_66 : decode cX2_takeNumber 66 = .ok (.aload_n 0, 1) := by decide +kernel
theorem dX2_takeNumber_67 : decode cX2_takeNumber 67 = .ok (.aload_n 0, 1) := by decide +kernel
theorem dX2_takeNumber_68 : decode cX2_takeNumber 68 = .ok (.getfield 19, 3) := by decide +kernel
theorem dX2_takeNumber_71 : decode cX2_takeNumber 71 = .ok (.aload_n 0, 1) := by decide +kernel
theorem dX2_takeNumber_72 : decode cX2_takeNumber 72 = .ok (.getfield 50, 3) := by decide +kernel
theorem dX2_takeNumber_75 : decode cX2_takeNumber 75 = .ok (.isub, 1) := by decide +kernel
theorem dX2_takeNumber_76 : decode cX2_takeNumber 76 = .ok (.iconst 4, 1) := by decide +kernel
theorem dX2_takeNumber_77 : decode cX2_takeNumber 77 = .ok (.if_icmp .le 7, 3) := by decide +kernel
theorem dX2_takeNumber_80 : decode cX2_takeNumber 80 = .ok (.iconst 1, 1) := by decide +kernel
theorem dX2_takeNumber_81 : decode cX2_takeNumber 81 = .ok (.goto 4, 3) := by decide +kernel
theorem dX2_takeNumber_84 : decode cX2_takeNumber 84 = .ok (.iconst 2, 1) := by decide +kernel
theorem dX2_takeNumber_85 : decode cX2_takeNumber 85 = .ok (.putfield 44, 3) := by decide +kernel
theorem dX2_takeNumber_88 : decode cX2_takeNumber 88 = .ok (.return_, 1) := by decide +kernel
theorem dX2_isWord_0 : decode cX2_isWord 0 = .ok (.aload_n 0, 1) := by decide +kernel
theorem dX2_isWord_1 : decode cX2_isWord 1 = .ok (.getfield 19, 3) := by decide +kernel
theorem dX2_isWord_4 : decode cX2_isWord 4 = .ok (.aload_n 0, 1) := by decide +kernel
theorem dX2_isWord_5 : decode cX2_isWord 5 = .ok (.getfield 50, 3) := by decide +kernel
theorem dX2_isWord_8 : decode cX2_isWord 8 = .ok (.isub, 1) := by decide +kernel
theorem dX2_isWord_9 : decode cX2_isWord 9 = .ok (.aload_n 1, 1) := by decide +kernel
theorem dX2_isWord_10 : decode cX2_isWord 10 = .ok (.invokevirtual 105, 3) := by decide +kernel
theorem dX2_isWord_13 : decode cX2_isWord 13 = .ok (.if_icmp .eq 5, 3) := by decide +kernel
theorem dX2_isWord_16 : decode cX2_isWord 16 = .ok (.iconst 0, 1) := by decide +kernel
theorem dX2_isWord_17 : decode cX2_isWord 17 = .ok (.ireturn, 1) := by decide +kernel
theorem dX2_isWord_18 : decode cX2_isWord 18 = .ok (.iconst 0, 1) := by decide +kernel
theorem dX2_isWord_19 : decode cX2_isWord 19 = .ok (.istore_n 2, 1) := by decide +kernel
theorem dX2_isWord_20 : decode cX2_isWord 20 = .ok (.iload_n 2, 1) := by decide +kernel
theorem dX2_isWord_21 : decode cX2_isWord 21 = .ok (.aload_n 1, 1) := by decide +kernel
theorem dX2_isWord_22 : decode cX2_isWord 22 = .ok (.invokevirtual 105, 3) := by decide +kernel
theorem dX2_isWord_25 : decode cX2_isWord 25 = .ok (.if_icmp .ge 29, 3) := by decide +kernel
theorem dX2_isWord_28 : decode cX2_isWord 28 = .ok (.aload_n 0, 1) := by decide +kernel
theorem dX2_isWord_29 : decode cX2_isWord 29 = .ok (.aload_n 0, 1) := by decide +kernel
theorem dX2_isWord_30 : decode cX2_isWord 30 = .ok (.getfield 50, 3) := by decide +kernel
theorem dX2_isWord_33 : decode cX2_isWord 33 = .ok (.iload_n 2, 1) := by decide +kernel
theorem dX2_isWord_34 : decode cX2_isWord 34 = .ok (.iadd, 1) := by decide +kernel
theorem dX2_isWord_35 : decode cX2_isWord 35 = .ok (.invokevirtual 78, 3) := by decide +kernel
theorem dX2_isWord_38 : decode cX2_isWord 38 = .ok (.aload_n 1, 1) := by decide +kernel
theorem dX2_isWord_39 : decode cX2_isWord 39 = .ok (.iload_n 2, 1) := by decide +kernel
theorem dX2_isWord_40 : decode cX2_isWord 40 = .ok (.invokevirtual 111, 3) := by decide +kernel
theorem dX2_isWord_43 : decode cX2_isWord 43 = .ok (.if_icmp .eq 5, 3) := by decide +kernel
theorem dX2_isWord_46 : decode cX2_isWord 46 = .ok (.iconst 0, 1) := by decide +kernel
theorem dX2_isWord_47 : decode cX2_isWord 47 = .ok (.ireturn, 1) := by decide +kernel
theorem dX2_isWord_48 : decode cX2_isWord 48 = .ok (.iinc 2 1, 3) := by decide +kernel
theorem dX2_isWord_51 : decode cX2_isWord 51 = .ok (.goto (-31), 3) := by decide +kernel
theorem dX2_isWord_54 : decode cX2_isWord 54 = .ok (.iconst 1, 1) := by decide +kernel
theorem dX2_isWord_55 : decode cX2_isWord 55 = .ok (.ireturn, 1) := by decide +kernel
theorem dX2_wordOf_0 : decode cX2_wordOf 0 = .ok (.iload_n 0, 1) := by decide +kernel
theorem dX2_wordOf_1 : decode cX2_wordOf 1 = .ok (.lookupswitch 132 #[(-6, 114), (-5, 111), (-4, 108), (-3, 105), (-2, 102), (-1, 99), (256, 117), (257, 120), (258, 123), (259, 126), (260, 129)], 99) := by decide +kernel
theorem dX2_wordOf_100 : decode cX2_wordOf 100 = .ok (.ldc 115, 2) := by decide +kernel
theorem dX2_wordOf_102 : decode cX2_wordOf 102 = .ok (.areturn, 1) := by decide +kernel
theorem dX2_wordOf_103 : decode cX2_wordOf 103 = .ok (.ldc 117, 2) := by decide +kernel
theorem dX2_wordOf_105 : decode cX2_wordOf 105 = .ok (.areturn, 1) := by decide +kernel
theorem dX2_wordOf_106 : decode cX2_wordOf 106 = .ok (.ldc 119, 2) := by decide +kernel
theorem dX2_wordOf_108 : decode cX2_wordOf 108 = .ok (.areturn, 1) := by decide +kernel
theorem dX2_wordOf_109 : decode cX2_wordOf 109 = .ok (.ldc 121, 2) := by decide +kernel
theorem dX2_wordOf_111 : decode cX2_wordOf 111 = .ok (.areturn, 1) := by decide +kernel
theorem dX2_wordOf_112 : decode cX2_wordOf 112 = .ok (.ldc 123, 2) := by decide +kernel
theorem dX2_wordOf_114 : decode cX2_wordOf 114 = .ok (.areturn, 1) := by decide +kernel
theorem dX2_wordOf_115 : decode cX2_wordOf 115 = .ok (.ldc 125, 2) := by decide +kernel
theorem dX2_wordOf_117 : decode cX2_wordOf 117 = .ok (.areturn, 1) := by decide +kernel
theorem dX2_wordOf_118 : decode cX2_wordOf 118 = .ok (.ldc 127, 2) := by decide +kernel
theorem dX2_wordOf_120 : decode cX2_wordOf 120 = .ok (.areturn, 1) := by decide +kernel
theorem dX2_wordOf_121 : decode cX2_wordOf 121 = .ok (.ldc 129, 2) := by decide +kernel
theorem dX2_wordOf_123 : decode cX2_wordOf 123 = .ok (.areturn, 1) := by decide +kernel
theorem dX2_wordOf_124 : decode cX2_wordOf 124 = .ok (.ldc 131, 2) := by decide +kernel
theorem dX2_wordOf_126 : decode cX2_wordOf 126 = .ok (.areturn, 1) := by decide +kernel
theorem dX2_wordOf_127 : decode cX2_wordOf 127 = .ok (.ldc 133, 2) := by decide +kernel
theorem dX2_wordOf_129 : decode cX2_wordOf 129 = .ok (.areturn, 1) := by decide +kernel
theorem dX2_wordOf_130 : decode cX2_wordOf 130 = .ok (.ldc 135, 2) := by decide +kernel
theorem dX2_wordOf_132 : decode cX2_wordOf 132 = .ok (.areturn, 1) := by decide +kernel
theorem dX2_wordOf_133 : decode cX2_wordOf 133 = .ok (.ldc 137, 2) := by decide +kernel
theorem dX2_wordOf_135 : decode cX2_wordOf 135 = .ok (.areturn, 1) := by decide +kernel
theorem dX2_isLetter_0 : decode cX2_isLetter 0 = .ok (.iload_n 0, 1) := by decide +kernel
theorem dX2_isLetter_1 : decode cX2_isLetter 1 = .ok (.bipush 97, 2) := by decide +kernel
theorem dX2_isLetter_3 : decode cX2_isLetter 3 = .ok (.if_icmp .lt 13, 3) := by decide +kernel
theorem dX2_isLetter_6 : decode cX2_isLetter 6 = .ok (.iload_n 0, 1) := by decide +kernel
theorem dX2_isLetter_7 : decode cX2_isLetter 7 = .ok (.bipush 122, 2) := by decide +kernel
theorem dX2_isLetter_9 : decode cX2_isLetter 9 = .ok (.if_icmp .gt 7, 3) := by decide +kernel
theorem dX2_isLetter_12 : decode cX2_isLetter 12 = .ok (.iconst 1, 1) := by decide +kernel
theorem dX2_isLetter_13 : decode cX2_isLetter 13 = .ok (.goto 4, 3) := by decide +kernel
theorem dX2_isLetter_16 : decode cX2_isLetter 16 = .ok (.iconst 0, 1) := by decide +kernel
theorem dX2_isLetter_17 : decode cX2_isLetter 17 = .ok (.ireturn, 1) := by decide +kernel
theorem dX2_isDigit_0 : decode cX2_isDigit 0 = .ok (.iload_n 0, 1) := by decide +kernel
theorem dX2_isDigit_1 : decode cX2_isDigit 1 = .ok (.bipush 48, 2) := by decide +kernel
theorem dX2_isDigit_3 : decode cX2_isDigit 3 = .ok (.if_icmp .lt 13, 3) := by decide +kernel
theorem dX2_isDigit_6 : decode cX2_isDigit 6 = .ok (.iload_n 0, 1) := by decide +kernel
theorem dX2_isDigit_7 : decode cX2_isDigit 7 = .ok (.bipush 57, 2) := by decide +kernel
theorem dX2_isDigit_9 : decode cX2_isDigit 9 = .ok (.if_icmp .gt 7, 3) := by decide +kernel
theorem dX2_isDigit_12 : decode cX2_isDigit 12 = .ok (.iconst 1, 1) := by decide +kernel
theorem dX2_isDigit_13 : decode cX2_isDigit 13 = .ok (.goto 4, 3) := by decide +kernel
theorem dX2_isDigit_16 : decode cX2_isDigit 16 = .ok (.iconst 0, 1) := by decide +kernel
theorem dX2_isDigit_17 : decode cX2_isDigit 17 = .ok (.ireturn, 1) := by decide +kernel
theorem dX2_isSign_0 : decode cX2_isSign 0 = .ok (.iload_n 0, 1) := by decide +kernel
theorem dX2_isSign_1 : decode cX2_isSign 1 = .ok (.bipush 40, 2) := by decide +kernel
theorem dX2_isSign_3 : decode cX2_isSign 3 = .ok (.if_icmp .eq 45, 3) := by decide +kernel
theorem dX2_isSign_6 : decode cX2_isSign 6 = .ok (.iload_n 0, 1) := by decide +kernel
theorem dX2_isSign_7 : decode cX2_isSign 7 = .ok (.bipush 41, 2) := by decide +kernel
theorem dX2_isSign_9 : decode cX2_isSign 9 = .ok (.if_icmp .eq 39, 3) := by decide +kernel
theorem dX2_isSign_12 : decode cX2_isSign 12 = .ok (.iload_n 0, 1) := by decide +kernel
theorem dX2_isSign_13 : decode cX2_isSign 13 = .ok (.bipush 59, 2) := by decide +kernel
theorem dX2_isSign_15 : decode cX2_isSign 15 = .ok (.if_icmp .eq 33, 3) := by decide +kernel
theorem dX2_isSign_18 : decode cX2_isSign 18 = .ok (.iload_n 0, 1) := by decide +kernel
theorem dX2_isSign_19 : decode cX2_isSign 19 = .ok (.bipush 43, 2) := by decide +kernel
theorem dX2_isSign_21 : decode cX2_isSign 21 = .ok (.if_icmp .eq 27, 3) := by decide +kernel
theorem dX2_isSign_24 : decode cX2_isSign 24 = .ok (.iload_n 0, 1) := by decide +kernel
theorem dX2_isSign_25 : decode cX2_isSign 25 = .ok (.bipush 45, 2) := by decide +kernel
theorem dX2_isSign_27 : decode cX2_isSign 27 = .ok (.if_icmp .eq 21, 3) := by decide +kernel
theorem dX2_isSign_30 : decode cX2_isSign 30 = .ok (.iload_n 0, 1) := by decide +kernel
theorem dX2_isSign_31 : decode cX2_isSign 31 = .ok (.bipush 42, 2) := by decide +kernel
theorem dX2_isSign_33 : decode cX2_isSign 33 = .ok (.if_icmp .eq 15, 3) := by decide +kernel
theorem dX2_isSign_36 : decode cX2_isSign 36 = .ok (.iload_n 0, 1) := by decide +kernel
theorem dX2_isSign_37 : decode cX2_isSign 37 = .ok (.bipush 60, 2) := by decide +kernel
theorem dX2_isSign_39 : decode cX2_isSign 39 = .ok (.if_icmp .eq 9, 3) := by decide +kernel
theorem dX2_isSign_42 : decode cX2_isSign 42 = .ok (.iload_n 0, 1) := by decide +kernel
theorem dX2_isSign_43 : decode cX2_isSign 43 = .ok (.bipush 61, 2) := by decide +kernel
theorem dX2_isSign_45 : decode cX2_isSign 45 = .ok (.if_icmp .ne 7, 3) := by decide +kernel
theorem dX2_isSign_48 : decode cX2_isSign 48 = .ok (.iconst 1, 1) := by decide +kernel
theorem dX2_isSign_49 : decode cX2_isSign 49 = .ok (.goto 4, 3) := by decide +kernel
theorem dX2_isSign_52 : decode cX2_isSign 52 = .ok (.iconst 0, 1) := by decide +kernel
theorem dX2_isSign_53 : decode cX2_isSign 53 = .ok (.ireturn, 1) := by decide +kernel
theorem dX3_init_0 : decode cX3_init 0 = .ok (.aload_n 0, 1) := by decide +kernel
theorem dX3_init_1 : decode cX3_init 1 = .ok (.invokespecial 3, 3) := by decide +kernel
theorem dX3_init_4 : decode cX3_init 4 = .ok (.aload_n 0, 1) := by decide +kernel
theorem dX3_init_5 : decode cX3_init 5 = .ok (.sipush 160, 3) := by decide +kernel
theorem dX3_init_8 : decode cX3_init 8 = .ok (.newarray .int, 2) := by decide +kernel
theorem dX3_init_10 : decode cX3_init 10 = .ok (.putfield 9, 3) := by decide +kernel
theorem dX3_init_13 : decode cX3_init 13 = .ok (.aload_n 0, 1) := by decide +kernel
theorem dX3_init_14 : decode cX3_init 14 = .ok (.sipush 160, 3) := by decide +kernel
theorem dX3_init_17 : decode cX3_init 17 = .ok (.newarray .int, 2) := by decide +kernel
theorem dX3_init_19 : decode cX3_init 19 = .ok (.putfield 15, 3) := by decide +kernel
theorem dX3_init_22 : decode cX3_init 22 = .ok (.aload_n 0, 1) := by decide +kernel
theorem dX3_init_23 : decode cX3_init 23 = .ok (.iconst 3, 1) := by decide +kernel
theorem dX3_init_24 : decode cX3_init 24 = .ok (.newarray .int, 2) := by decide +kernel
theorem dX3_init_26 : decode cX3_init 26 = .ok (.putfield 18, 3) := by decide +kernel
theorem dX3_init_29 : decode cX3_init 29 = .ok (.aload_n 0, 1) := by decide +kernel
theorem dX3_init_30 : decode cX3_init 30 = .ok (.iconst 0, 1) := by decide +kernel
theorem dX3_init_31 : decode cX3_init 31 = .ok (.putfield 21, 3) := by decide +kernel
theorem dX3_init_34 : decode cX3_init 34 = .ok (.return_, 1) := by decide +kernel
theorem dX3_becomeFirstLaw_0 : decode cX3_becomeFirstLaw 0 = .ok (.aload_n 0, 1) := by decide +kernel
theorem dX3_becomeFirstLaw_1 : decode cX3_becomeFirstLaw 1 = .ok (.invokevirtual 25, 3) := by decide +kernel
theorem dX3_becomeFirstLaw_4 : decode cX3_becomeFirstLaw 4 = .ok (.aload_n 0, 1) := by decide +kernel
theorem dX3_becomeFirstLaw_5 : decode cX3_becomeFirstLaw 5 = .ok (.iconst (-1), 1) := by decide +kernel
theorem dX3_becomeFirstLaw_6 : decode cX3_becomeFirstLaw 6 = .ok (.invokevirtual 28, 3) := by decide +kernel
theorem dX3_becomeFirstLaw_9 : decode cX3_becomeFirstLaw 9 = .ok (.aload_n 0, 1) := by decide +kernel
theorem dX3_becomeFirstLaw_10 : decode cX3_becomeFirstLaw 10 = .ok (.iconst 0, 1) := by decide +kernel
theorem dX3_becomeFirstLaw_11 : decode cX3_becomeFirstLaw 11 = .ok (.invokevirtual 32, 3) := by decide +kernel
theorem dX3_becomeFirstLaw_14 : decode cX3_becomeFirstLaw 14 = .ok (.aload_n 0, 1) := by decide +kernel
theorem dX3_becomeFirstLaw_15 : decode cX3_becomeFirstLaw 15 = .ok (.iconst 1, 1) := by decide +kernel
theorem dX3_becomeFirstLaw_16 : decode cX3_becomeFirstLaw 16 = .ok (.invokevirtual 28, 3) := by decide +kernel
theorem dX3_becomeFirstLaw_19 : decode cX3_becomeFirstLaw 19 = .ok (.aload_n 0, 1) := by decide +kernel
theorem dX3_becomeFirstLaw_20 : decode cX3_becomeFirstLaw 20 = .ok (.iconst 1, 1) := by decide +kernel
theorem dX3_becomeFirstLaw_21 : decode cX3_becomeFirstLaw 21 = .ok (.invokevirtual 32, 3) := by decide +kernel
theorem dX3_becomeFirstLaw_24 : decode cX3_becomeFirstLaw 24 = .ok (.aload_n 0, 1) := by decide +kernel
theorem dX3_becomeFirstLaw_25 : decode cX3_becomeFirstLaw 25 = .ok (.iconst 1, 1) := by decide +kernel
theorem dX3_becomeFirstLaw_26 : decode cX3_becomeFirstLaw 26 = .ok (.invokevirtual 28, 3) := by decide +kernel
theorem dX3_becomeFirstLaw_29 : decode cX3_becomeFirstLaw 29 = .ok (.aload_n 0, 1) := by decide +kernel
theorem dX3_becomeFirstLaw_30 : decode cX3_becomeFirstLaw 30 = .ok (.iconst 2, 1) := by decide +kernel
theorem dX3_becomeFirstLaw_31 : decode cX3_becomeFirstLaw 31 = .ok (.invokevirtual 32, 3) := by decide +kernel
theorem dX3_becomeFirstLaw_34 : decode cX3_becomeFirstLaw 34 = .ok (.return_, 1) := by decide +kernel
theorem dX3_empty_0 : decode cX3_empty 0 = .ok (.aload_n 0, 1) := by decide +kernel
theorem dX3_empty_1 : decode cX3_empty 1 = .ok (.iconst 0, 1) := by decide +kernel
theorem dX3_empty_2 : decode cX3_empty 2 = .ok (.putfield 21, 3) := by decide +kernel
theorem dX3_empty_5 : decode cX3_empty 5 = .ok (.return_, 1) := by decide +kernel
theorem dX3_add_0 : decode cX3_add 0 = .ok (.aload_n 0, 1) := by decide +kernel
theorem dX3_add_1 : decode cX3_add 1 = .ok (.getfield 21, 3) := by decide +kernel
theorem dX3_add_4 : decode cX3_add 4 = .ok (.sipush 160, 3) := by decide +kernel
theorem dX3_add_7 : decode cX3_add 7 = .ok (.if_icmp .ge 23, 3) := by decide +kernel
theorem dX3_add_10 : decode cX3_add 10 = .ok (.aload_n 0, 1) := by decide +kernel
theorem dX3_add_11 : decode cX3_add 11 = .ok (.getfield 9, 3) := by decide +kernel
theorem dX3_add_14 : decode cX3_add 14 = .ok (.aload_n 0, 1) := by decide +kernel
theorem dX3_add_15 : decode cX3_add 15 = .ok (.getfield 21, 3) := by decide +kernel
theorem dX3_add_18 : decode cX3_add 18 = .ok (.iload_n 1, 1) := by decide +kernel
theorem dX3_add_19 : decode cX3_add 19 = .ok (.iastore, 1) := by decide +kernel
theorem dX3_add_20 : decode cX3_add 20 = .ok (.aload_n 0, 1) := by decide +kernel
theorem dX3_add_21 : decode cX3_add 21 = .ok (.dup, 1) := by decide +kernel
theorem dX3_add_22 : decode cX3_add 22 = .ok (.getfield 21, 3) := by decide +kernel
theorem dX3_add_25 : decode cX3_add 25 = .ok (.iconst 1, 1) := by decide +kernel
theorem dX3_add_26 : decode cX3_add 26 = .ok (.iadd, 1) := by decide +kernel
theorem dX3_add_27 : decode cX3_add 27 = .ok (.putfield 21, 3) := by decide +kernel
theorem dX3_add_30 : decode cX3_add 30 = .ok (.return_, 1) := by decide +kernel
theorem dX3_endPart_0 : decode cX3_endPart 0 = .ok (.aload_n 0, 1) := by decide +kernel
theorem dX3_endPart_1 : decode cX3_endPart 1 = .ok (.getfield 18, 3) := by decide +kernel
theorem dX3_endPart_4 : decode cX3_endPart 4 = .ok (.iload_n 1, 1) := by decide +kernel
theorem dX3_endPart_5 : decode cX3_endPart 5 = .ok (.aload_n 0, 1) := by decide +kernel
theorem dX3_endPart_6 : decode cX3_endPart 6 = .ok (.getfield 21, 3) := by decide +kernel
theorem dX3_endPart_9 : decode cX3_endPart 9 = .ok (.iastore, 1) := by decide +kernel
theorem dX3_endPart_10 : decode cX3_endPart 10 = .ok (.return_, 1) := by decide +kernel
theorem dX3_says_0 : decode cX3_says 0 = .ok (.iload_n 1, 1) := by decide +kernel
theorem dX3_says_1 : decode cX3_says 1 = .ok (.ifCond .lt 16, 3) := by decide +kernel
theorem dX3_says_4 : decode cX3_says 4 = .ok (.iload_n 1, 1) := by decide +kernel
theorem dX3_says_5 : decode cX3_says 5 = .ok (.iconst 2, 1) := by decide +kernel
theorem dX3_says_6 : decode cX3_says 6 = .ok (.if_icmp .gt 11, 3) := by decide +kernel
theorem dX3_says_9 : decode cX3_says 9 = .ok (.aload_n 2, 1) := by decide +kernel
theorem dX3_says_10 : decode cX3_says 10 = .ok (.iload_n 3, 1) := by decide +kernel
theorem dX3_says_11 : decode cX3_says 11 = .ok (.invokevirtual 35, 3) := by decide +kernel
theorem dX3_says_14 : decode cX3_says 14 = .ok (.ifCond .ne 5, 3) := by decide +kernel
theorem dX3_says_17 : decode cX3_says 17 = .ok (.iconst 0, 1) := by decide +kernel
theorem dX3_says_18 : decode cX3_says 18 = .ok (.ireturn, 1) := by decide +kernel
theorem dX3_says_19 : decode cX3_says 19 = .ok (.iconst 0, 1) := by decide +kernel
theorem dX3_says_20 : decode cX3_says 20 = .ok (.istore 4, 2) := by decide +kernel
theorem dX3_says_22 : decode cX3_says 22 = .ok (.iload_n 1, 1) := by decide +kernel
theorem dX3_says_23 : decode cX3_says 23 = .ok (.ifCond .ne 7, 3) := by decide +kernel
theorem dX3_says_26 : decode cX3_says 26 = .ok (.iconst 0, 1) := by decide +kernel
theorem dX3_says_27 : decode cX3_says 27 = .ok (.goto 11, 3) := by decide +kernel
theorem dX3_says_30 : decode cX3_says 30 = .ok (.aload_n 0, 1) := by decide +kernel
theorem dX3_says_31 : decode cX3_says 31 = .ok (.getfield 18, 3) := by decide +kernel
theorem dX3_says_34 : decode cX3_says 34 = .ok (.iload_n 1, 1) := by decide +kernel
theorem dX3_says_35 : decode cX3_says 35 = .ok (.iconst 1, 1) := by decide +kernel
theorem dX3_says_36 : decode cX3_says 36 = .ok (.isub, 1) := by decide +kernel
theorem dX3_says_37 : decode cX3_says 37 = .ok (.iaload, 1) := by decide +kernel
theorem dX3_says_38 : decode cX3_says 38 = .ok (.istore 5, 2) := by decide +kernel
theorem dX3_says_40 : decode cX3_says 40 = .ok (.iload 5, 2) := by decide +kernel
theorem dX3_says_42 : decode cX3_says 42 = .ok (.aload_n 0, 1) := by decide +kernel
theorem dX3_says_43 : decode cX3_says 43 = .ok (.getfield 18, 3) := by decide +kernel
theorem dX3_says_46 : decode cX3_says 46 = .ok (.iload_n 1, 1) := by decide +kernel
theorem dX3_says_47 : decode cX3_says 47 = .ok (.iaload, 1) := by decide +kernel
theorem dX3_says_48 : decode cX3_says 48 = .ok (.if_icmp .ge 182, 3) := by decide +kernel
theorem dX3_says_51 : decode cX3_says 51 = .ok (.iload 5, 2) := by decide +kernel
theorem dX3_says_53 : decode cX3_says 53 = .ok (.sipush 160, 3) := by decide +kernel
theorem dX3_says_56 : decode cX3_says 56 = .ok (.if_icmp .ge 174, 3) := by decide +kernel
theorem dX3_says_59 : decode cX3_says 59 = .ok (.aload_n 0, 1) := by decide +kernel
theorem dX3_says_60 : decode cX3_says 60 = .ok (.getfield 9, 3) := by decide +kernel
theorem dX3_says_63 : decode cX3_says 63 = .ok (.iload 5, 2) := by decide +kernel
theorem dX3_says_65 : decode cX3_says 65 = .ok (.iaload, 1) := by decide +kernel
theorem dX3_says_66 : decode cX3_says 66 = .ok (.istore 6, 2) := by decide +kernel
theorem dX3_says_68 : decode cX3_says 68 = .ok (.iload 6, 2) := by decide +kernel
theorem dX3_says_70 : decode cX3_says 70 = .ok (.bipush (-6), 2) := by decide +kernel
theorem dX3_says_72 : decode cX3_says 72 = .ok (.if_icmp .lt 43, 3) := by decide +kernel
theorem dX3_says_75 : decode cX3_says 75 = .ok (.iload 4, 2) := by decide +kernel
theorem dX3_says_77 : decode cX3_says 77 = .ok (.sipush 160, 3) := by decide +kernel
theorem dX3_says_80 : decode cX3_says 80 = .ok (.if_icmp .lt 5, 3) := by decide +kernel
theorem dX3_says_83 : decode cX3_says 83 = .ok (.iconst 0, 1) := by decide +kernel
theorem dX3_says_84 : decode cX3_says 84 = .ok (.ireturn, 1) := by decide +kernel
theorem dX3_says_85 : decode cX3_says 85 = .ok (.aload_n 0, 1) := by decide +kernel
theorem dX3_says_86 : decode cX3_says 86 = .ok (.getfield 15, 3) := by decide +kernel
theorem dX3_says_89 : decode cX3_says 89 = .ok (.iload 4, 2) := by decide +kernel
theorem dX3_says_91 : decode cX3_says 91 = .ok (.iload 6, 2) := by decide +kernel
theorem dX3_says_93 : decode cX3_says 93 = .ok (.ifCond .lt 8, 3) := by decide +kernel
theorem dX3_says_96 : decode cX3_says 96 = .ok (.iload 6, 2) := by decide +kernel
theorem dX3_says_98 : decode cX3_says 98 = .ok (.goto 10, 3) := by decide +kernel
theorem dX3_says_101 : decode cX3_says 101 = .ok (.aload_n 2, 1) := by decide +kernel
theorem dX3_says_102 : decode cX3_says 102 = .ok (.iload 6, 2) := by decide +kernel
theorem dX3_says_104 : decode cX3_says 104 = .ok (.iload_n 3, 1) := by decide +kernel
theorem dX3_says_105 : decode cX3_says 105 = .ok (.invokevirtual 41, 3) := by decide +kernel
theorem dX3_says_108 : decode cX3_says 108 = .ok (.iastore, 1) := by decide +kernel
theorem dX3_says_109 : decode cX3_says 109 = .ok (.iinc 4 1, 3) := by decide +kernel
theorem dX3_says_112 : decode cX3_says 112 = .ok (.goto 112, 3) := by decide +kernel
theorem dX3_says_115 : decode cX3_says 115 = .ok (.iload 6, 2) := by decide +kernel
theorem dX3_says_117 : decode cX3_says 117 = .ok (.bipush (-9), 2) := by decide +kernel
theorem dX3_says_119 : decode cX3_says 119 = .ok (.if_icmp .eq 10, 3) := by decide +kernel
theorem dX3_says_122 : decode cX3_says 122 = .ok (.iload 6, 2) := by decide +kernel
theorem dX3_says_124 : decode cX3_says 124 = .ok (.bipush (-15), 2) := by decide +kernel
theorem dX3_says_126 : decode cX3_says 126 = .ok (.if_icmp .ne 57, 3) := by decide +kernel
theorem dX3_says_129 : decode cX3_says 129 = .ok (.iload 4, 2) := by decide +kernel
theorem dX3_says_131 : decode cX3_says 131 = .ok (.iconst 1, 1) := by decide +kernel
theorem dX3_says_132 : decode cX3_says 132 = .ok (.if_icmp .ge 5, 3) := by decide +kernel
theorem dX3_says_135 : decode cX3_says 135 = .ok (.iconst 0, 1) := by decide +kernel
theorem dX3_says_136 : decode cX3_says 136 = .ok (.ireturn, 1) := by decide +kernel
theorem dX3_says_137 : decode cX3_says 137 = .ok (.aload_n 0, 1) := by decide +kernel
theorem dX3_says_138 : decode cX3_says 138 = .ok (.getfield 15, 3) := by decide +kernel
theorem dX3_says_141 : decode cX3_says 141 = .ok (.iload 4, 2) := by decide +kernel
theorem dX3_says_143 : decode cX3_says 143 = .ok (.iconst 1, 1) := by decide +kernel
theorem dX3_says_144 : decode cX3_says 144 = .ok (.isub, 1) := by decide +kernel
theorem dX3_says_145 : decode cX3_says 145 = .ok (.iaload, 1) := by decide +kernel
theorem dX3_says_146 : decode cX3_says 146 = .ok (.istore 7, 2) := by decide +kernel
theorem dX3_says_148 : decode cX3_says 148 = .ok (.aload_n 0, 1) := by decide +kernel
theorem dX3_says_149 : decode cX3_says 149 = .ok (.getfield 15, 3) := by decide +kernel
theorem dX3_says_152 : decode cX3_says 152 = .ok (.iload 4, 2) := by decide +kernel
theorem dX3_says_154 : decode cX3_says 154 = .ok (.iconst 1, 1) := by decide +kernel
theorem dX3_says_155 : decode cX3_says 155 = .ok (.isub, 1) := by decide +kernel
theorem dX3_says_156 : decode cX3_says 156 = .ok (.iload 6, 2) := by decide +kernel
theorem dX3_says_158 : decode cX3_says 158 = .ok (.bipush (-15), 2) := by decide +kernel
theorem dX3_says_160 : decode cX3_says 160 = .ok (.if_icmp .ne 9, 3) := by decide +kernel
theorem dX3_says_163 : decode cX3_says 163 = .ok (.iload 7, 2) := by decide +kernel
theorem dX3_says_165 : decode cX3_says 165 = .ok (.ineg, 1) := by decide +kernel
theorem dX3_says_166 : decode cX3_says 166 = .ok (.goto 13, 3) := by decide +kernel
theorem dX3_says_169 : decode cX3_says 169 = .ok (.iload 7, 2) := by decide +kernel
theorem dX3_says_171 : decode cX3_says 171 = .ok (.ifCond .ne 7, 3) := by decide +kernel
theorem dX3_says_174 : decode cX3_says 174 = .ok (.iconst 1, 1) := by decide +kernel
theorem dX3_says_175 : decode cX3_says 175 = .ok (.goto 4, 3) := by decide +kernel
theorem dX3_says_178 : decode cX3_says 178 = .ok (.iconst 0, 1) := by decide +kernel
theorem dX3_says_179 : decode cX3_says 179 = .ok (.iastore, 1) := by decide +kernel
theorem dX3_says_180 : decode cX3_says 180 = .ok (.goto 44, 3) := by decide +kernel
theorem dX3_says_183 : decode cX3_says 183 = .ok (.iload 4, 2) := by decide +kernel
theorem dX3_says_185 : decode cX3_says 185 = .ok (.iconst 2, 1) := by decide +kernel
theorem dX3_says_186 : decode cX3_says 186 = .ok (.if_icmp .ge 5, 3) := by decide +kernel
theorem dX3_says_189 : decode cX3_says 189 = .ok (.iconst 0, 1) := by decide +kernel
theorem dX3_says_190 : decode cX3_says 190 = .ok (.ireturn, 1) := by decide +kernel
theorem dX3_says_191 : decode cX3_says 191 = .ok (.iinc 4 (-1), 3) := by decide +kernel
theorem dX3_says_194 : decode cX3_says 194 = .ok (.aload_n 0, 1) := by decide +kernel
theorem dX3_says_195 : decode cX3_says 195 = .ok (.getfield 15, 3) := by decide +kernel
theorem dX3_says_198 : decode cX3_says 198 = .ok (.iload 4, 2) := by decide +kernel
theorem dX3_says_200 : decode cX3_says 200 = .ok (.iconst 1, 1) := by decide +kernel
theorem dX3_says_201 : decode cX3_says 201 = .ok (.isub, 1) := by decide +kernel
theorem dX3_says_202 : decode cX3_says 202 = .ok (.iload 6, 2) := by decide +kernel
theorem dX3_says_204 : decode cX3_says 204 = .ok (.aload_n 0, 1) := by decide +kernel
theorem dX3_says_205 : decode cX3_says 205 = .ok (.getfield 15, 3) := by decide +kernel
theorem dX3_says_208 : decode cX3_says 208 = .ok (.iload 4, 2) := by decide +kernel
theorem dX3_says_210 : decode cX3_says 210 = .ok (.iconst 1, 1) := by decide +kernel
theorem dX3_says_211 : decode cX3_says 211 = .ok (.isub, 1) := by decide +kernel
theorem dX3_says_212 : decode cX3_says 212 = .ok (.iaload, 1) := by decide +kernel
theorem dX3_says_213 : decode cX3_says 213 = .ok (.aload_n 0, 1) := by decide +kernel
theorem dX3_says_214 : decode cX3_says 214 = .ok (.getfield 15, 3) := by decide +kernel
theorem dX3_says_217 : decode cX3_says 217 = .ok (.iload 4, 2) := by decide +kernel
theorem dX3_says_219 : decode cX3_says 219 = .ok (.iaload, 1) := by decide +kernel
theorem dX3_says_220 : decode cX3_says 220 = .ok (.invokestatic 45, 3) := by decide +kernel
theorem dX3_says_223 : decode cX3_says 223 = .ok (.iastore, 1) := by decide +kernel
theorem dX3_says_224 : decode cX3_says 224 = .ok (.iinc 5 1, 3) := by decide +kernel
theorem dX3_says_227 : decode cX3_says 227 = .ok (.goto (-187), 3) := by decide +kernel
theorem dX3_says_230 : decode cX3_says 230 = .ok (.iload_n 1, 1) := by decide +kernel
theorem dX3_says_231 : decode cX3_says 231 = .ok (.iconst 1, 1) := by decide +kernel
theorem dX3_says_232 : decode cX3_says 232 = .ok (.if_icmp .ne 8, 3) := by decide +kernel
theorem dX3_says_235 : decode cX3_says 235 = .ok (.bipush (-99), 2) := by decide +kernel
theorem dX3_says_237 : decode cX3_says 237 = .ok (.goto 4, 3) := by decide +kernel
theorem dX3_says_240 : decode cX3_says 240 = .ok (.iconst 0, 1) := by decide +kernel
theorem dX3_says_241 : decode cX3_says 241 = .ok (.bipush 99, 2) := by decide +kernel
theorem dX3_says_243 : decode cX3_says 243 = .ok (.aload_n 0, 1) := by decide +kernel
theorem dX3_says_244 : decode cX3_says 244 = .ok (.getfield 15, 3) := by decide +kernel
theorem dX3_says_247 : decode cX3_says 247 = .ok (.iconst 0, 1) := by decide +kernel
theorem dX3_says_248 : decode cX3_says 248 = .ok (.iaload, 1) := by decide +kernel
theorem dX3_says_249 : decode cX3_says 249 = .ok (.invokestatic 49, 3) := by decide +kernel
theorem dX3_says_252 : decode cX3_says 252 = .ok (.invokestatic 54, 3) := by decide +kernel
theorem dX3_says_255 : decode cX3_says 255 = .ok (.ireturn, 1) := by decide +kernel
theorem dX3_joined_0 : decode cX3_joined 0 = .ok (.iload_n 0, 1) := by decide +kernel
theorem dX3_joined_1 : decode cX3_joined 1 = .ok (.tableswitch 101 (-13) (-7) #[97, 93, 82, 71, 101, 57, 43], 43) := by decide +kernel
theorem dX3_joined_44 : decode cX3_joined 44 = .ok (.iload_n 1, 1) := by decide +kernel
theorem dX3_joined_45 : decode cX3_joined 45 = .ok (.ifCond .ne 7, 3) := by decide +kernel
theorem dX3_joined_48 : decode cX3_joined 48 = .ok (.iload_n 2, 1) := by decide +kernel
theorem dX3_joined_49 : decode cX3_joined 49 = .ok (.ifCond .eq 7, 3) := by decide +kernel
theorem dX3_joined_52 : decode cX3_joined 52 = .ok (.iconst 1, 1) := by decide +kernel
theorem dX3_joined_53 : decode cX3_joined 53 = .ok (.goto 4, 3) := by decide +kernel
theorem dX3_joined_56 : decode cX3_joined 56 = .ok (.iconst 0, 1) := by decide +kernel
theorem dX3_joined_57 : decode cX3_joined 57 = .ok (.ireturn, 1) := by decide +kernel
theorem dX3_joined_58 : decode cX3_joined 58 = .ok (.iload_n 1, 1) := by decide +kernel
theorem dX3_joined_59 : decode cX3_joined 59 = .ok (.ifCond .eq 11, 3) := by decide +kernel
theorem dX3_joined_62 : decode cX3_joined 62 = .ok (.iload_n 2, 1) := by decide +kernel
theorem dX3_joined_63 : decode cX3_joined 63 = .ok (.ifCond .eq 7, 3) := by decide +kernel
theorem dX3_joined_66 : decode cX3_joined 66 = .ok (.iconst 1, 1) := by decide +kernel
theorem dX3_joined_67 : decode cX3_joined 67 = .ok (.goto 4, 3) := by decide +kernel
theorem dX3_joined_70 : decode cX3_joined 70 = .ok (.iconst 0, 1) := by decide +kernel
theorem dX3_joined_71 : decode cX3_joined 71 = .ok (.ireturn, 1) := by decide +kernel
theorem dX3_joined_72 : decode cX3_joined 72 = .ok (.iload_n 1, 1) := by decide +kernel
theorem dX3_joined_73 : decode cX3_joined 73 = .ok (.iload_n 2, 1) := by decide +kernel
theorem dX3_joined_74 : decode cX3_joined 74 = .ok (.if_icmp .ge 7, 3) := by decide +kernel
theorem dX3_joined_77 : decode cX3_joined 77 = .ok (.iconst 1, 1) := by decide +kernel
theorem dX3_joined_78 : decode cX3_joined 78 = .ok (.goto 4, 3) := by decide +kernel
theorem dX3_joined_81 : decode cX3_joined 81 = .ok (.iconst 0, 1) := by decide +kernel
theorem dX3_joined_82 : decode cX3_joined 82 = .ok (.ireturn, 1) := by decide +kernel
theorem dX3_joined_83 : decode cX3_joined 83 = .ok (.iload_n 1, 1) := by decide +kernel
theorem dX3_joined_84 : decode cX3_joined 84 = .ok (.iload_n 2, 1) := by decide +kernel
theorem dX3_joined_85 : decode cX3_joined 85 = .ok (.if_icmp .ne 7, 3) := by decide +kernel
theorem dX3_joined_88 : decode cX3_joined 88 = .ok (.iconst 1, 1) := by decide +kernel
theorem dX3_joined_89 : decode cX3_joined 89 = .ok (.goto 4, 3) := by decide +kernel
theorem dX3_joined_92 : decode cX3_joined 92 = .ok (.iconst 0, 1) := by decide +kernel
theorem dX3_joined_93 : decode cX3_joined 93 = .ok (.ireturn, 1) := by decide +kernel
theorem dX3_joined_94 : decode cX3_joined 94 = .ok (.iload_n 1, 1) := by decide +kernel
theorem dX3_joined_95 : decode cX3_joined 95 = .ok (.iload_n 2, 1) := by decide +kernel
theorem dX3_joined_96 : decode cX3_joined 96 = .ok (.iadd, 1) := by decide +kernel
theorem dX3_joined_97 : decode cX3_joined 97 = .ok (.ireturn, 1) := by decide +kernel
theorem dX3_joined_98 : decode cX3_joined 98 = .ok (.iload_n 1, 1) := by decide +kernel
theorem dX3_joined_99 : decode cX3_joined 99 = .ok (.iload_n 2, 1) := by decide +kernel
theorem dX3_joined_100 : decode cX3_joined 100 = .ok (.isub, 1) := by decide +kernel
theorem dX3_joined_101 : decode cX3_joined 101 = .ok (.ireturn, 1) := by decide +kernel
theorem dX3_joined_102 : decode cX3_joined 102 = .ok (.iload_n 1, 1) := by decide +kernel
theorem dX3_joined_103 : decode cX3_joined 103 = .ok (.iload_n 2, 1) := by decide +kernel
theorem dX3_joined_104 : decode cX3_joined 104 = .ok (.imul, 1) := by decide +kernel
theorem dX3_joined_105 : decode cX3_joined 105 = .ok (.ireturn, 1) := by decide +kernel
theorem dX4_init_0 : decode cX4_init 0 = .ok (.aload_n 0, 1) := by decide +kernel
theorem dX4_init_1 : decode cX4_init 1 = .ok (.invokespecial 3, 3) := by decide +kernel
theorem dX4_init_4 : decode cX4_init 4 = .ok (.aload_n 0, 1) := by decide +kernel
theorem dX4_init_5 : decode cX4_init 5 = .ok (.bipush 6, 2) := by decide +kernel
theorem dX4_init_7 : decode cX4_init 7 = .ok (.newarray .int, 2) := by decide +kernel
theorem dX4_init_9 : decode cX4_init 9 = .ok (.putfield 9, 3) := by decide +kernel
theorem dX4_init_12 : decode cX4_init 12 = .ok (.aload_n 0, 1) := by decide +kernel
theorem dX4_init_13 : decode cX4_init 13 = .ok (.bipush 6, 2) := by decide +kernel
theorem dX4_init_15 : decode cX4_init 15 = .ok (.newarray .int, 2) := by decide +kernel
theorem dX4_init_17 : decode cX4_init 17 = .ok (.putfield 15, 3) := by decide +kernel
theorem dX4_init_20 : decode cX4_init 20 = .ok (.aload_n 0, 1) := by decide +kernel
theorem dX4_init_21 : decode cX4_init 21 = .ok (.bipush 6, 2) := by decide +kernel
theorem dX4_init_23 : decode cX4_init 23 = .ok (.newarray .int, 2) := by decide +kernel
theorem dX4_init_25 : decode cX4_init 25 = .ok (.putfield 18, 3) := by decide +kernel
theorem dX4_init_28 : decode cX4_init 28 = .ok (.aload_n 0, 1) := by decide +kernel
theorem dX4_init_29 : decode cX4_init 29 = .ok (.bipush 6, 2) := by decide +kernel
theorem dX4_init_31 : decode cX4_init 31 = .ok (.newarray .int, 2) := by decide +kernel
theorem dX4_init_33 : decode cX4_init 33 = .ok (.putfield 21, 3) := by decide +kernel
theorem dX4_init_36 : decode cX4_init 36 = .ok (.aload_n 0, 1) := by decide +kernel
theorem dX4_init_37 : decode cX4_init 37 = .ok (.bipush 6, 2) := by decide +kernel
theorem dX4_init_39 : decode cX4_init 39 = .ok (.newarray .int, 2) := by decide +kernel
theorem dX4_init_41 : decode cX4_init 41 = .ok (.putfield 24, 3) := by decide +kernel
theorem dX4_init_44 : decode cX4_init 44 = .ok (.aload_n 0, 1) := by decide +kernel
theorem dX4_init_45 : decode cX4_init 45 = .ok (.iconst 0, 1) := by decide +kernel
theorem dX4_init_46 : decode cX4_init 46 = .ok (.putfield 27, 3) := by decide +kernel
theorem dX4_init_49 : decode cX4_init 49 = .ok (.aload_n 0, 1) := by decide +kernel
theorem dX4_init_50 : decode cX4_init 50 = .ok (.iconst 0, 1) := by decide +kernel
theorem dX4_init_51 : decode cX4_init 51 = .ok (.putfield 31, 3) := by decide +kernel
theorem dX4_init_54 : decode cX4_init 54 = .ok (.aload_n 0, 1) := by decide +kernel
theorem dX4_init_55 : decode cX4_init 55 = .ok (.iconst 0, 1) := by decide +kernel
theorem dX4_init_56 : decode cX4_init 56 = .ok (.putfield 34, 3) := by decide +kernel
theorem dX4_init_59 : decode cX4_init 59 = .ok (.aload_n 0, 1) := by decide +kernel
theorem dX4_init_60 : decode cX4_init 60 = .ok (.iconst 0, 1) := by decide +kernel
theorem dX4_init_61 : decode cX4_init 61 = .ok (.putfield 37, 3) := by decide +kernel
theorem dX4_init_64 : decode cX4_init 64 = .ok (.aload_n 0, 1) := by decide +kernel
theorem dX4_init_65 : decode cX4_init 65 = .ok (.iconst 0, 1) := by decide +kernel
theorem dX4_init_66 : decode cX4_init 66 = .ok (.putfield 40, 3) := by decide +kernel
theorem dX4_init_69 : decode cX4_init 69 = .ok (.aload_n 0, 1) := by decide +kernel
theorem dX4_init_70 : decode cX4_init 70 = .ok (.iconst 0, 1) := by decide +kernel
theorem dX4_init_71 : decode cX4_init 71 = .ok (.putfield 43, 3) := by decide +kernel
theorem dX4_init_74 : decode cX4_init 74 = .ok (.aload_n 0, 1) := by decide +kernel
theorem dX4_init_75 : decode cX4_init 75 = .ok (.aload_n 1, 1) := by decide +kernel
theorem dX4_init_76 : decode cX4_init 76 = .ok (.putfield 46, 3) := by decide +kernel
theorem dX4_init_79 : decode cX4_init 79 = .ok (.return_, 1) := by decide +kernel
theorem dX4_become_0 : decode cX4_become 0 = .ok (.iconst 0, 1) := by decide +kernel
theorem dX4_become_1 : decode cX4_become 1 = .ok (.istore_n 2, 1) := by decide +kernel
theorem dX4_become_2 : decode cX4_become 2 = .ok (.iload_n 2, 1) := by decide +kernel
theorem dX4_become_3 : decode cX4_become 3 = .ok (.bipush 6, 2) := by decide +kernel
theorem dX4_become_5 : decode cX4_become 5 = .ok (.if_icmp .ge 69, 3) := by decide +kernel
theorem dX4_become_8 : decode cX4_become 8 = .ok (.aload_n 0, 1) := by decide +kernel
theorem dX4_become_9 : decode cX4_become 9 = .ok (.getfield 9, 3) := by decide +kernel
theorem dX4_become_12 : decode cX4_become 12 = .ok (.iload_n 2, 1) := by decide +kernel
theorem dX4_become_13 : decode cX4_become 13 = .ok (.aload_n 1, 1) := by decide +kernel
theorem dX4_become_14 : decode cX4_become 14 = .ok (.getfield 9, 3) := by decide +kernel
theorem dX4_become_17 : decode cX4_become 17 = .ok (.iload_n 2, 1) := by decide +kernel
theorem dX4_become_18 : decode cX4_become 18 = .ok (.iaload, 1) := by decide +kernel
theorem dX4_become_19 : decode cX4_become 19 = .ok (.iastore, 1) := by decide +kernel
theorem dX4_become_20 : decode cX4_become 20 = .ok (.aload_n 0, 1) := by decide +kernel
theorem dX4_become_21 : decode cX4_become 21 = .ok (.getfield 15, 3) := by decide +kernel
theorem dX4_become_24 : decode cX4_become 24 = .ok (.iload_n 2, 1) := by decide +kernel
theorem dX4_become_25 : decode cX4_become 25 = .ok (.aload_n 1, 1) := by decide +kernel
theorem dX4_become_26 : decode cX4_become 26 = .ok (.getfield 15, 3) := by decide +kernel
theorem dX4_become_29 : decode cX4_become 29 = .ok (.iload_n 2, 1) := by decide +kernel
theorem dX4_become_30 : decode cX4_become 30 = .ok (.iaload, 1) := by decide +kernel
theorem dX4_become_31 : decode cX4_become 31 = .ok (.iastore, 1) := by decide +kernel
theorem dX4_become_32 : decode cX4_become 32 = .ok (.aload_n 0, 1) := by decide +kernel
theorem dX4_become_33 : decode cX4_become 33 = .ok (.getfield 18, 3) := by decide +kernel
theorem dX4_become_36 : decode cX4_become 36 = .ok (.iload_n 2, 1) := by decide +kernel
theorem dX4_become_37 : decode cX4_become 37 = .ok (.aload_n 1, 1) := by decide +kernel
theorem dX4_become_38 : decode cX4_become 38 = .ok (.getfield 18, 3) := by decide +kernel
theorem dX4_become_41 : decode cX4_become 41 = .ok (.iload_n 2, 1) := by decide +kernel
theorem dX4_become_42 : decode cX4_become 42 = .ok (.iaload, 1) := by decide +kernel
theorem dX4_become_43 : decode cX4_become 43 = .ok (.iastore, 1) := by decide +kernel
theorem dX4_become_44 : decode cX4_become 44 = .ok (.aload_n 0, 1) := by decide +kernel
theorem dX4_become_45 : decode cX4_become 45 = .ok (.getfield 21, 3) := by decide +kernel
theorem dX4_become_48 : decode cX4_become 48 = .ok (.iload_n 2, 1) := by decide +kernel
theorem dX4_become_49 : decode cX4_become 49 = .ok (.aload_n 1, 1) := by decide +kernel
theorem dX4_become_50 : decode cX4_become 50 = .ok (.getfield 21, 3) := by decide +kernel
theorem dX4_become_53 : decode cX4_become 53 = .ok (.iload_n 2, 1) := by decide +kernel
theorem dX4_become_54 : decode cX4_become 54 = .ok (.iaload, 1) := by decide +kernel
theorem dX4_become_55 : decode cX4_become 55 = .ok (.iastore, 1) := by decide +kernel
theorem dX4_become_56 : decode cX4_become 56 = .ok (.aload_n 0, 1) := by decide +kernel
theorem dX4_become_57 : decode cX4_become 57 = .ok (.getfield 24, 3) := by decide +kernel
theorem dX4_become_60 : decode cX4_become 60 = .ok (.iload_n 2, 1) := by decide +kernel
theorem dX4_become_61 : decode cX4_become 61 = .ok (.aload_n 1, 1) := by decide +kernel
theorem dX4_become_62 : decode cX4_become 62 = .ok (.getfield 24, 3) := by decide +kernel
theorem dX4_become_65 : decode cX4_become 65 = .ok (.iload_n 2, 1) := by decide +kernel
theorem dX4_become_66 : decode cX4_become 66 = .ok (.iaload, 1) := by decide +kernel
theorem dX4_become_67 : decode cX4_become 67 = .ok (.iastore, 1) := by decide +kernel
theorem dX4_become_68 : decode cX4_become 68 = .ok (.iinc 2 1, 3) := by decide +kernel
theorem dX4_become_71 : decode cX4_become 71 = .ok (.goto (-69), 3) := by decide +kernel
theorem dX4_become_74 : decode cX4_become 74 = .ok (.aload_n 0, 1) := by decide +kernel
theorem dX4_become_75 : decode cX4_become 75 = .ok (.aload_n 1, 1) := by decide +kernel
theorem dX4_become_76 : decode cX4_become 76 = .ok (.getfield 27, 3) := by decide +kernel
theorem dX4_become_79 : decode cX4_become 79 = .ok (.putfield 27, 3) := by decide +kernel
theorem dX4_become_82 : decode cX4_become 82 = .ok (.aload_n 0, 1) := by decide +kernel
theorem dX4_become_83 : decode cX4_become 83 = .ok (.aload_n 1, 1) := by decide +kernel
theorem dX4_become_84 : decode cX4_become 84 = .ok (.getfield 31, 3) := by decide +kernel
theorem dX4_become_87 : decode cX4_become 87 = .ok (.putfield 31, 3) := by decide +kernel
theorem dX4_become_90 : decode cX4_become 90 = .ok (.aload_n 0, 1) := by decide +kernel
theorem dX4_become_91 : decode cX4_become 91 = .ok (.aload_n 1, 1) := by decide +kernel
theorem dX4_become_92 : decode cX4_become 92 = .ok (.getfield 34, 3) := by decide +kernel
theorem dX4_become_95 : decode cX4_become 95 = .ok (.putfield 34, 3) := by decide +kernel
theorem dX4_become_98 : decode cX4_become 98 = .ok (.aload_n 0, 1) := by decide +kernel
theorem dX4_become_99 : decode cX4_become 99 = .ok (.aload_n 1, 1) := by decide +kernel
theorem dX4_become_100 : decode cX4_become 100 = .ok (.getfield 37, 3) := by decide +kernel
theorem dX4_become_103 : decode cX4_become 103 = .ok (.putfield 37, 3) := by decide +kernel
theorem dX4_become_106 : decode cX4_become 106 = .ok (.aload_n 0, 1) := by decide +kernel
theorem dX4_become_107 : decode cX4_become 107 = .ok (.aload_n 1, 1) := by decide +kernel
theorem dX4_become_108 : decode cX4_become 108 = .ok (.getfield 40, 3) := by decide +kernel
theorem dX4_become_111 : decode cX4_become 111 = .ok (.putfield 40, 3) := by decide +kernel
theorem dX4_become_114 : decode cX4_become 114 = .ok (.aload_n 0, 1) := by decide +kernel
theorem dX4_become_115 : decode cX4_become 115 = .ok (.aload_n 1, 1) := by decide +kernel
theorem dX4_become_116 : decode cX4_become 116 = .ok (.getfield 46, 3) := by decide +kernel
theorem dX4_become_119 : decode cX4_become 119 = .ok (.aload_n 1, 1) := by decide +kernel
theorem dX4_become_120 : decode cX4_become 120 = .ok (.getfield 43, 3) := by decide +kernel
theorem dX4_become_123 : decode cX4_become 123 = .ok (.invokevirtual 50, 3) := by decide +kernel
theorem dX4_become_126 : decode cX4_become 126 = .ok (.return_, 1) := by decide +kernel
theorem dX4_obey_0 : decode cX4_obey 0 = .ok (.aload_n 0, 1) := by decide +kernel
theorem dX4_obey_1 : decode cX4_obey 1 = .ok (.aload_n 1, 1) := by decide +kernel
theorem dX4_obey_2 : decode cX4_obey 2 = .ok (.putfield 46, 3) := by decide +kernel
theorem dX4_obey_5 : decode cX4_obey 5 = .ok (.aload_n 0, 1) := by decide +kernel
theorem dX4_obey_6 : decode cX4_obey 6 = .ok (.iload_n 2, 1) := by decide +kernel
theorem dX4_obey_7 : decode cX4_obey 7 = .ok (.putfield 43, 3) := by decide +kernel
theorem dX4_obey_10 : decode cX4_obey 10 = .ok (.return_, 1) := by decide +kernel
theorem dX4_has_0 : decode cX4_has 0 = .ok (.iload_n 1, 1) := by decide +kernel
theorem dX4_has_1 : decode cX4_has 1 = .ok (.ifCond .lt 21, 3) := by decide +kernel
theorem dX4_has_4 : decode cX4_has 4 = .ok (.iload_n 1, 1) := by decide +kernel
theorem dX4_has_5 : decode cX4_has 5 = .ok (.aload_n 0, 1) := by decide +kernel
theorem dX4_has_6 : decode cX4_has 6 = .ok (.getfield 31, 3) := by decide +kernel
theorem dX4_has_9 : decode cX4_has 9 = .ok (.if_icmp .ge 13, 3) := by decide +kernel
theorem dX4_has_12 : decode cX4_has 12 = .ok (.iload_n 1, 1) := by decide +kernel
theorem dX4_has_13 : decode cX4_has 13 = .ok (.bipush 6, 2) := by decide +kernel
theorem dX4_has_15 : decode cX4_has 15 = .ok (.if_icmp .ge 7, 3) := by decide +kernel
theorem dX4_has_18 : decode cX4_has 18 = .ok (.iconst 1, 1) := by decide +kernel
theorem dX4_has_19 : decode cX4_has 19 = .ok (.goto 4, 3) := by decide +kernel
theorem dX4_has_22 : decode cX4_has 22 = .ok (.iconst 0, 1) := by decide +kernel
theorem dX4_has_23 : decode cX4_has 23 = .ok (.ireturn, 1) := by decide +kernel
theorem dX4_join_0 : decode cX4_join 0 = .ok (.iload_n 1, 1) := by decide +kernel
theorem dX4_join_1 : decode cX4_join 1 = .ok (.iconst 0, 1) := by decide +kernel
theorem dX4_join_2 : decode cX4_join 2 = .ok (.bipush 59, 2) := by decide +kernel
theorem dX4_join_4 : decode cX4_join 4 = .ok (.invokestatic 54, 3) := by decide +kernel
theorem dX4_join_7 : decode cX4_join 7 = .ok (.ifCond .eq 23, 3) := by decide +kernel
theorem dX4_join_10 : decode cX4_join 10 = .ok (.iload_n 2, 1) := by decide +kernel
theorem dX4_join_11 : decode cX4_join 11 = .ok (.iconst 0, 1) := by decide +kernel
theorem dX4_join_12 : decode cX4_join 12 = .ok (.bipush 99, 2) := by decide +kernel
theorem dX4_join_14 : decode cX4_join 14 = .ok (.invokestatic 54, 3) := by decide +kernel
theorem dX4_join_17 : decode cX4_join 17 = .ok (.ifCond .eq 13, 3) := by decide +kernel
theorem dX4_join_20 : decode cX4_join 20 = .ok (.iload_n 3, 1) := by decide +kernel
theorem dX4_join_21 : decode cX4_join 21 = .ok (.iconst 0, 1) := by decide +kernel
theorem dX4_join_22 : decode cX4_join 22 = .ok (.ldc 58, 2) := by decide +kernel
theorem dX4_join_24 : decode cX4_join 24 = .ok (.invokestatic 54, 3) := by decide +kernel
theorem dX4_join_27 : decode cX4_join 27 = .ok (.ifCond .ne 6, 3) := by decide +kernel
theorem dX4_join_30 : decode cX4_join 30 = .ok (.bipush (-2), 2) := by decide +kernel
theorem dX4_join_32 : decode cX4_join 32 = .ok (.ireturn, 1) := by decide +kernel
theorem dX4_join_33 : decode cX4_join 33 = .ok (.aload_n 0, 1) := by decide +kernel
theorem dX4_join_34 : decode cX4_join 34 = .ok (.getfield 31, 3) := by decide +kernel
theorem dX4_join_37 : decode cX4_join 37 = .ok (.bipush 6, 2) := by decide +kernel
theorem dX4_join_39 : decode cX4_join 39 = .ok (.if_icmp .lt 6, 3) := by decide +kernel
theorem dX4_join_42 : decode cX4_join 42 = .ok (.bipush (-4), 2) := by decide +kernel
theorem dX4_join_44 : decode cX4_join 44 = .ok (.ireturn, 1) := by decide +kernel
theorem dX4_join_45 : decode cX4_join 45 = .ok (.aload_n 0, 1) := by decide +kernel
theorem dX4_join_46 : decode cX4_join 46 = .ok (.getfield 31, 3) := by decide +kernel
theorem dX4_join_49 : decode cX4_join 49 = .ok (.istore 4, 2) := by decide +kernel
theorem dX4_join_51 : decode cX4_join 51 = .ok (.aload_n 0, 1) := by decide +kernel
theorem dX4_join_52 : decode cX4_join 52 = .ok (.getfield 9, 3) := by decide +kernel
theorem dX4_join_55 : decode cX4_join 55 = .ok (.iload 4, 2) := by decide +kernel
theorem dX4_join_57 : decode cX4_join 57 = .ok (.iload_n 1, 1) := by decide +kernel
theorem dX4_join_58 : decode cX4_join 58 = .ok (.bipush 10, 2) := by decide +kernel
theorem dX4_join_60 : decode cX4_join 60 = .ok (.idiv, 1) := by decide +kernel
theorem dX4_join_61 : decode cX4_join 61 = .ok (.iastore, 1) := by decide +kernel
theorem dX4_join_62 : decode cX4_join 62 = .ok (.aload_n 0, 1) := by decide +kernel
theorem dX4_join_63 : decode cX4_join 63 = .ok (.getfield 15, 3) := by decide +kernel
theorem dX4_join_66 : decode cX4_join 66 = .ok (.iload 4, 2) := by decide +kernel
theorem dX4_join_68 : decode cX4_join 68 = .ok (.iload_n 1, 1) := by decide +kernel
theorem dX4_join_69 : decode cX4_join 69 = .ok (.bipush 10, 2) := by decide +kernel
theorem dX4_join_71 : decode cX4_join 71 = .ok (.irem, 1) := by decide +kernel
theorem dX4_join_72 : decode cX4_join 72 = .ok (.iastore, 1) := by decide +kernel
theorem dX4_join_73 : decode cX4_join 73 = .ok (.aload_n 0, 1) := by decide +kernel
theorem dX4_join_74 : decode cX4_join 74 = .ok (.getfield 18, 3) := by decide +kernel
theorem dX4_join_77 : decode cX4_join 77 = .ok (.iload 4, 2) := by decide +kernel
theorem dX4_join_79 : decode cX4_join 79 = .ok (.iload_n 2, 1) := by decide +kernel
theorem dX4_join_80 : decode cX4_join 80 = .ok (.iastore, 1) := by decide +kernel
theorem dX4_join_81 : decode cX4_join 81 = .ok (.aload_n 0, 1) := by decide +kernel
theorem dX4_join_82 : decode cX4_join 82 = .ok (.getfield 21, 3) := by decide +kernel
theorem dX4_join_85 : decode cX4_join 85 = .ok (.iload 4, 2) := by decide +kernel
theorem dX4_join_87 : decode cX4_join 87 = .ok (.iconst 0, 1) := by decide +kernel
theorem dX4_join_88 : decode cX4_join 88 = .ok (.iastore, 1) := by decide +kernel
theorem dX4_join_89 : decode cX4_join 89 = .ok (.aload_n 0, 1) := by decide +kernel
theorem dX4_join_90 : decode cX4_join 90 = .ok (.getfield 24, 3) := by decide +kernel
theorem dX4_join_93 : decode cX4_join 93 = .ok (.iload 4, 2) := by decide +kernel
theorem dX4_join_95 : decode cX4_join 95 = .ok (.iload_n 3, 1) := by decide +kernel
theorem dX4_join_96 : decode cX4_join 96 = .ok (.iastore, 1) := by decide +kernel
theorem dX4_join_97 : decode cX4_join 97 = .ok (.aload_n 0, 1) := by decide +kernel
theorem dX4_join_98 : decode cX4_join 98 = .ok (.dup, 1) := by decide +kernel
theorem dX4_join_99 : decode cX4_join 99 = .ok (.getfield 27, 3) := by decide +kernel
theorem dX4_join_102 : decode cX4_join 102 = .ok (.iconst 1, 1) := by decide +kernel
theorem dX4_join_103 : decode cX4_join 103 = .ok (.iload 4, 2) := by decide +kernel
theorem dX4_join_105 : decode cX4_join 105 = .ok (.ishl, 1) := by decide +kernel
theorem dX4_join_106 : decode cX4_join 106 = .ok (.iconst (-1), 1) := by decide +kernel
theorem dX4_join_107 : decode cX4_join 107 = .ok (.ixor, 1) := by decide +kernel
theorem dX4_join_108 : decode cX4_join 108 = .ok (.iand, 1) := by decide +kernel
theorem dX4_join_109 : decode cX4_join 109 = .ok (.putfield 27, 3) := by decide +kernel
theorem dX4_join_112 : decode cX4_join 112 = .ok (.aload_n 0, 1) := by decide +kernel
theorem dX4_join_113 : decode cX4_join 113 = .ok (.dup, 1) := by decide +kernel
theorem dX4_join_114 : decode cX4_join 114 = .ok (.getfield 31, 3) := by decide +kernel
theorem dX4_join_117 : decode cX4_join 117 = .ok (.iconst 1, 1) := by decide +kernel
theorem dX4_join_118 : decode cX4_join 118 = .ok (.iadd, 1) := by decide +kernel
theorem dX4_join_119 : decode cX4_join 119 = .ok (.putfield 31, 3) := by decide +kernel
theorem dX4_join_122 : decode cX4_join 122 = .ok (.iload 4, 2) := by decide +kernel
theorem dX4_join_124 : decode cX4_join 124 = .ok (.ireturn, 1) := by decide +kernel
theorem dX4_isVowed_0 : decode cX4_isVowed 0 = .ok (.aload_n 0, 1) := by decide +kernel
theorem dX4_isVowed_1 : decode cX4_isVowed 1 = .ok (.getfield 27, 3) := by decide +kernel
theorem dX4_isVowed_4 : decode cX4_isVowed 4 = .ok (.iload_n 1, 1) := by decide +kernel
theorem dX4_isVowed_5 : decode cX4_isVowed 5 = .ok (.ishr, 1) := by decide +kernel
theorem dX4_isVowed_6 : decode cX4_isVowed 6 = .ok (.iconst 1, 1) := by decide +kernel
theorem dX4_isVowed_7 : decode cX4_isVowed 7 = .ok (.iand, 1) := by decide +kernel
theorem dX4_isVowed_8 : decode cX4_isVowed 8 = .ok (.iconst 1, 1) := by decide +kernel
theorem dX4_isVowed_9 : decode cX4_isVowed 9 = .ok (.if_icmp .ne 7, 3) := by decide +kernel
theorem dX4_isVowed_12 : decode cX4_isVowed 12 = .ok (.iconst 1, 1) := by decide +kernel
theorem dX4_isVowed_13 : decode cX4_isVowed 13 = .ok (.goto 4, 3) := by decide +kernel
theorem dX4_isVowed_16 : decode cX4_isVowed 16 = .ok (.iconst 0, 1) := by decide +kernel
theorem dX4_isVowed_17 : decode cX4_isVowed 17 = .ok (.ireturn, 1) := by decide +kernel
theorem dX4_turnVow_0 : decode cX4_turnVow 0 = .ok (.aload_n 0, 1) := by decide +kernel
theorem dX4_turnVow_1 : decode cX4_turnVow 1 = .ok (.iload_n 1, 1) := by decide +kernel
theorem dX4_turnVow_2 : decode cX4_turnVow 2 = .ok (.invokevirtual 59, 3) := by decide +kernel
theorem dX4_turnVow_5 : decode cX4_turnVow 5 = .ok (.ifCond .eq 15, 3) := by decide +kernel
theorem dX4_turnVow_8 : decode cX4_turnVow 8 = .ok (.aload_n 0, 1) := by decide +kernel
theorem dX4_turnVow_9 : decode cX4_turnVow 9 = .ok (.dup, 1) := by decide +kernel
theorem dX4_turnVow_10 : decode cX4_turnVow 10 = .ok (.getfield 27, 3) := by decide +kernel
theorem dX4_turnVow_13 : decode cX4_turnVow 13 = .ok (.iconst 1, 1) := by decide +kernel
theorem dX4_turnVow_14 : decode cX4_turnVow 14 = .ok (.iload_n 1, 1) := by decide +kernel
theorem dX4_turnVow_15 : decode cX4_turnVow 15 = .ok (.ishl, 1) := by decide +kernel
theorem dX4_turnVow_16 : decode cX4_turnVow 16 = .ok (.ixor, 1) := by decide +kernel
theorem dX4_turnVow_17 : decode cX4_turnVow 17 = .ok (.putfield 27, 3) := by decide +kernel
theorem dX4_turnVow_20 : decode cX4_turnVow 20 = .ok (.return_, 1) := by decide +kernel
theorem dX4_turnHour_0 : decode cX4_turnHour 0 = .ok (.aload_n 0, 1) := by decide +kernel
theorem dX4_turnHour_1 : decode cX4_turnHour 1 = .ok (.iload_n 1, 1) := by decide +kernel
theorem dX4_turnHour_2 : decode cX4_turnHour 2 = .ok (.invokevirtual 59, 3) := by decide +kernel
theorem dX4_turnHour_5 : decode cX4_turnHour 5 = .ok (.ifCond .eq 15, 3) := by decide +kernel
theorem dX4_turnHour_8 : decode cX4_turnHour 8 = .ok (.aload_n 0, 1) := by decide +kernel
theorem dX4_turnHour_9 : decode cX4_turnHour 9 = .ok (.getfield 24, 3) := by decide +kernel
theorem dX4_turnHour_12 : decode cX4_turnHour 12 = .ok (.iload_n 1, 1) := by decide +kernel
theorem dX4_turnHour_13 : decode cX4_turnHour 13 = .ok (.dup2, 1) := by decide +kernel
theorem dX4_turnHour_14 : decode cX4_turnHour 14 = .ok (.iaload, 1) := by decide +kernel
theorem dX4_turnHour_15 : decode cX4_turnHour 15 = .ok (.iconst 1, 1) := by decide +kernel
theorem dX4_turnHour_16 : decode cX4_turnHour 16 = .ok (.iload_n 2, 1) := by decide +kernel
theorem dX4_turnHour_17 : decode cX4_turnHour 17 = .ok (.ishl, 1) := by decide +kernel
theorem dX4_turnHour_18 : decode cX4_turnHour 18 = .ok (.ixor, 1) := by decide +kernel
theorem dX4_turnHour_19 : decode cX4_turnHour 19 = .ok (.iastore, 1) := by decide +kernel
theorem dX4_turnHour_20 : decode cX4_turnHour 20 = .ok (.return_, 1) := by decide +kernel
theorem dX4_known_0 : decode cX4_known 0 = .ok (.aload_n 0, 1) := by decide +kernel
theorem dX4_known_1 : decode cX4_known 1 = .ok (.iload_n 1, 1) := by decide +kernel
theorem dX4_known_2 : decode cX4_known 2 = .ok (.invokevirtual 59, 3) := by decide +kernel
theorem dX4_known_5 : decode cX4_known 5 = .ok (.ifCond .ne 5, 3) := by decide +kernel
theorem dX4_known_8 : decode cX4_known 8 = .ok (.iconst 0, 1) := by decide +kernel
theorem dX4_known_9 : decode cX4_known 9 = .ok (.ireturn, 1) := by decide +kernel
theorem dX4_known_10 : decode cX4_known 10 = .ok (.iload_n 2, 1) := by decide +kernel
theorem dX4_known_11 : decode cX4_known 11 = .ok (.tableswitch 46 0 2 #[25, 32, 39], 25) := by decide +kernel
theorem dX4_known_36 : decode cX4_known 36 = .ok (.aload_n 0, 1) := by decide +kernel
theorem dX4_known_37 : decode cX4_known 37 = .ok (.getfield 18, 3) := by decide +kernel
theorem dX4_known_40 : decode cX4_known 40 = .ok (.iload_n 1, 1) := by decide +kernel
theorem dX4_known_41 : decode cX4_known 41 = .ok (.iaload, 1) := by decide +kernel
theorem dX4_known_42 : decode cX4_known 42 = .ok (.ireturn, 1) := by decide +kernel
theorem dX4_known_43 : decode cX4_known 43 = .ok (.aload_n 0, 1) := by decide +kernel
theorem dX4_known_44 : decode cX4_known 44 = .ok (.getfield 21, 3) := by decide +kernel
theorem dX4_known_47 : decode cX4_known 47 = .ok (.iload_n 1, 1) := by decide +kernel
theorem dX4_known_48 : decode cX4_known 48 = .ok (.iaload, 1) := by decide +kernel
theorem dX4_known_49 : decode cX4_known 49 = .ok (.ireturn, 1) := by decide +kernel
theorem dX4_known_50 : decode cX4_known 50 = .ok (.aload_n 0, 1) := by decide +kernel
theorem dX4_known_51 : decode cX4_known 51 = .ok (.getfield 24, 3) := by decide +kernel
theorem dX4_known_54 : decode cX4_known 54 = .ok (.iload_n 1, 1) := by decide +kernel
theorem dX4_known_55 : decode cX4_known 55 = .ok (.iaload, 1) := by decide +kernel
theorem dX4_known_56 : decode cX4_known 56 = .ok (.ireturn, 1) := by decide +kernel
theorem dX4_known_57 : decode cX4_known 57 = .ok (.aload_n 0, 1) := by decide +kernel
theorem dX4_known_58 : decode cX4_known 58 = .ok (.iload_n 1, 1) := by decide +kernel
theorem dX4_known_59 : decode cX4_known 59 = .ok (.invokevirtual 63, 3) := by decide +kernel
theorem dX4_known_62 : decode cX4_known 62 = .ok (.ifCond .eq 7, 3) := by decide +kernel
theorem dX4_known_65 : decode cX4_known 65 = .ok (.iconst 1, 1) := by decide +kernel
theorem dX4_known_66 : decode cX4_known 66 = .ok (.goto 4, 3) := by decide +kernel
theorem dX4_known_69 : decode cX4_known 69 = .ok (.iconst 0, 1) := by decide +kernel
theorem dX4_known_70 : decode cX4_known 70 = .ok (.ireturn, 1) := by decide +kernel
theorem dX4_change_0 : decode cX4_change 0 = .ok (.aload_n 0, 1) := by decide +kernel
theorem dX4_change_1 : decode cX4_change 1 = .ok (.iload_n 1, 1) := by decide +kernel
theorem dX4_change_2 : decode cX4_change 2 = .ok (.invokevirtual 59, 3) := by decide +kernel
theorem dX4_change_5 : decode cX4_change 5 = .ok (.ifCond .ne 4, 3) := by decide +kernel
theorem dX4_change_8 : decode cX4_change 8 = .ok (.return_, 1) := by decide +kernel
theorem dX4_change_9 : decode cX4_change 9 = .ok (.iload_n 2, 1) := by decide +kernel
theorem dX4_change_10 : decode cX4_change 10 = .ok (.tableswitch 56 0 2 #[26, 36, 46], 26) := by decide +kernel
theorem dX4_change_36 : decode cX4_change 36 = .ok (.aload_n 0, 1) := by decide +kernel
theorem dX4_change_37 : decode cX4_change 37 = .ok (.getfield 18, 3) := by decide +kernel
theorem dX4_change_40 : decode cX4_change 40 = .ok (.iload_n 1, 1) := by decide +kernel
theorem dX4_change_41 : decode cX4_change 41 = .ok (.iload_n 3, 1) := by decide +kernel
theorem dX4_change_42 : decode cX4_change 42 = .ok (.iastore, 1) := by decide +kernel
theorem dX4_change_43 : decode cX4_change 43 = .ok (.goto 46, 3) := by decide +kernel
theorem dX4_change_46 : decode cX4_change 46 = .ok (.aload_n 0, 1) := by decide +kernel
theorem dX4_change_47 : decode cX4_change 47 = .ok (.getfield 21, 3) := by decide +kernel
theorem dX4_change_50 : decode cX4_change 50 = .ok (.iload_n 1, 1) := by decide +kernel
theorem dX4_change_51 : decode cX4_change 51 = .ok (.iload_n 3, 1) := by decide +kernel
theorem dX4_change_52 : decode cX4_change 52 = .ok (.iastore, 1) := by decide +kernel
theorem dX4_change_53 : decode cX4_change 53 = .ok (.goto 36, 3) := by decide +kernel
theorem dX4_change_56 : decode cX4_change 56 = .ok (.aload_n 0, 1) := by decide +kernel
theorem dX4_change_57 : decode cX4_change 57 = .ok (.getfield 24, 3) := by decide +kernel
theorem dX4_change_60 : decode cX4_change 60 = .ok (.iload_n 1, 1) := by decide +kernel
theorem dX4_change_61 : decode cX4_change 61 = .ok (.iload_n 3, 1) := by decide +kernel
theorem dX4_change_62 : decode cX4_change 62 = .ok (.iastore, 1) := by decide +kernel
theorem dX4_change_63 : decode cX4_change 63 = .ok (.goto 26, 3) := by decide +kernel
theorem dX4_change_66 : decode cX4_change 66 = .ok (.aload_n 0, 1) := by decide +kernel
theorem dX4_change_67 : decode cX4_change 67 = .ok (.iload_n 1, 1) := by decide +kernel
theorem dX4_change_68 : decode cX4_change 68 = .ok (.invokevirtual 63, 3) := by decide +kernel
theorem dX4_change_71 : decode cX4_change 71 = .ok (.iload_n 3, 1) := by decide +kernel
theorem dX4_change_72 : decode cX4_change 72 = .ok (.iconst 1, 1) := by decide +kernel
theorem dX4_change_73 : decode cX4_change 73 = .ok (.if_icmp .ne 7, 3) := by decide +kernel
theorem dX4_change_76 : decode cX4_change 76 = .ok (.iconst 1, 1) := by decide +kernel
theorem dX4_change_77 : decode cX4_change 77 = .ok (.goto 4, 3) := by decide +kernel
theorem dX4_change_80 : decode cX4_change 80 = .ok (.iconst 0, 1) := by decide +kernel
theorem dX4_change_81 : decode cX4_change 81 = .ok (.if_icmp .eq 8, 3) := by decide +kernel
theorem dX4_change_84 : decode cX4_change 84 = .ok (.aload_n 0, 1) := by decide +kernel
theorem dX4_change_85 : decode cX4_change 85 = .ok (.iload_n 1, 1) := by decide +kernel
theorem dX4_change_86 : decode cX4_change 86 = .ok (.invokevirtual 66, 3) := by decide +kernel
theorem dX4_change_89 : decode cX4_change 89 = .ok (.return_, 1) := by decide +kernel
theorem dX4_named_0 : decode cX4_named 0 = .ok (.aload_n 0, 1) := by decide +kernel
theorem dX4_named_1 : decode cX4_named 1 = .ok (.iload_n 2, 1) := by decide +kernel
theorem dX4_named_2 : decode cX4_named 2 = .ok (.invokevirtual 59, 3) := by decide +kernel
theorem dX4_named_5 : decode cX4_named 5 = .ok (.ifCond .ne 5, 3) := by decide +kernel
theorem dX4_named_8 : decode cX4_named 8 = .ok (.iconst 0, 1) := by decide +kernel
theorem dX4_named_9 : decode cX4_named 9 = .ok (.ireturn, 1) := by decide +kernel
theorem dX4_named_10 : decode cX4_named 10 = .ok (.iload_n 1, 1) := by decide +kernel
theorem dX4_named_11 : decode cX4_named 11 = .ok (.tableswitch 70 (-5) (-1) #[65, 60, 52, 40, 33], 33) := by decide +kernel
theorem dX4_named_44 : decode cX4_named 44 = .ok (.aload_n 0, 1) := by decide +kernel
theorem dX4_named_45 : decode cX4_named 45 = .ok (.getfield 18, 3) := by decide +kernel
theorem dX4_named_48 : decode cX4_named 48 = .ok (.iload_n 2, 1) := by decide +kernel
theorem dX4_named_49 : decode cX4_named 49 = .ok (.iaload, 1) := by decide +kernel
theorem dX4_named_50 : decode cX4_named 50 = .ok (.ireturn, 1) := by decide +kernel
theorem dX4_named_51 : decode cX4_named 51 = .ok (.aload_n 0, 1) := by decide +kernel
theorem dX4_named_52 : decode cX4_named 52 = .ok (.getfield 21, 3) := by decide +kernel
theorem dX4_named_55 : decode cX4_named 55 = .ok (.iload_n 2, 1) := by decide +kernel
theorem dX4_named_56 : decode cX4_named 56 = .ok (.iaload, 1) := by decide +kernel
theorem dX4_named_57 : decode cX4_named 57 = .ok (.bipush 99, 2) := by decide +kernel
theorem dX4_named_59 : decode cX4_named 59 = .ok (.invokestatic 70, 3) := by decide +kernel
theorem dX4_named_62 : decode cX4_named 62 = .ok (.ireturn, 1) := by decide +kernel
theorem dX4_named_63 : decode cX4_named 63 = .ok (.aload_n 0, 1) := by decide +kernel
theorem dX4_named_64 : decode cX4_named 64 = .ok (.getfield 34, 3) := by decide +kernel
theorem dX4_named_67 : decode cX4_named 67 = .ok (.bipush 24, 2) := by decide +kernel
theorem dX4_named_69 : decode cX4_named 69 = .ok (.irem, 1) := by decide +kernel
theorem dX4_named_70 : decode cX4_named 70 = .ok (.ireturn, 1) := by decide +kernel
theorem dX4_named_71 : decode cX4_named 71 = .ok (.aload_n 0, 1) := by decide +kernel
theorem dX4_named_72 : decode cX4_named 72 = .ok (.getfield 40, 3) := by decide +kernel
theorem dX4_named_75 : decode cX4_named 75 = .ok (.ireturn, 1) := by decide +kernel
theorem dX4_named_76 : decode cX4_named 76 = .ok (.aload_n 0, 1) := by decide +kernel
theorem dX4_named_77 : decode cX4_named 77 = .ok (.getfield 31, 3) := by decide +kernel
theorem dX4_named_80 : decode cX4_named 80 = .ok (.ireturn, 1) := by decide +kernel
theorem dX4_named_81 : decode cX4_named 81 = .ok (.aload_n 0, 1) := by decide +kernel
theorem dX4_named_82 : decode cX4_named 82 = .ok (.getfield 15, 3) := by decide +kernel
theorem dX4_named_85 : decode cX4_named 85 = .ok (.iload_n 2, 1) := by decide +kernel
theorem dX4_named_86 : decode cX4_named 86 = .ok (.iaload, 1) := by decide +kernel
theorem dX4_named_87 : decode cX4_named 87 = .ok (.ireturn, 1) := by decide +kernel
theorem dX4_isOwnHour_0 : decode cX4_isOwnHour 0 = .ok (.aload_n 0, 1) := by decide +kernel
theorem dX4_isOwnHour_1 : decode cX4_isOwnHour 1 = .ok (.iload_n 1, 1) := by decide +kernel
theorem dX4_isOwnHour_2 : decode cX4_isOwnHour 2 = .ok (.invokevirtual 59, 3) := by decide +kernel
theorem dX4_isOwnHour_5 : decode cX4_isOwnHour 5 = .ok (.ifCond .eq 27, 3) := by decide +kernel
theorem dX4_isOwnHour_8 : decode cX4_isOwnHour 8 = .ok (.aload_n 0, 1) := by decide +kernel
theorem dX4_isOwnHour_9 : decode cX4_isOwnHour 9 = .ok (.getfield 24, 3) := by decide +kernel
theorem dX4_isOwnHour_12 : decode cX4_isOwnHour 12 = .ok (.iload_n 1, 1) := by decide +kernel
theorem dX4_isOwnHour_13 : decode cX4_isOwnHour 13 = .ok (.iaload, 1) := by decide +kernel
theorem dX4_isOwnHour_14 : decode cX4_isOwnHour 14 = .ok (.aload_n 0, 1) := by decide +kernel
theorem dX4_isOwnHour_15 : decode cX4_isOwnHour 15 = .ok (.getfield 34, 3) := by decide +kernel
theorem dX4_isOwnHour_18 : decode cX4_isOwnHour 18 = .ok (.bipush 24, 2) := by decide +kernel
theorem dX4_isOwnHour_20 : decode cX4_isOwnHour 20 = .ok (.irem, 1) := by decide +kernel
theorem dX4_isOwnHour_21 : decode cX4_isOwnHour 21 = .ok (.ishr, 1) := by decide +kernel
theorem dX4_isOwnHour_22 : decode cX4_isOwnHour 22 = .ok (.iconst 1, 1) := by decide +kernel
theorem dX4_isOwnHour_23 : decode cX4_isOwnHour 23 = .ok (.iand, 1) := by decide +kernel
theorem dX4_isOwnHour_24 : decode cX4_isOwnHour 24 = .ok (.iconst 1, 1) := by decide +kernel
theorem dX4_isOwnHour_25 : decode cX4_isOwnHour 25 = .ok (.if_icmp .ne 7, 3) := by decide +kernel
theorem dX4_isOwnHour_28 : decode cX4_isOwnHour 28 = .ok (.iconst 1, 1) := by decide +kernel
theorem dX4_isOwnHour_29 : decode cX4_isOwnHour 29 = .ok (.goto 4, 3) := by decide +kernel
theorem dX4_isOwnHour_32 : decode cX4_isOwnHour 32 = .ok (.iconst 0, 1) := by decide +kernel
theorem dX4_isOwnHour_33 : decode cX4_isOwnHour 33 = .ok (.ireturn, 1) := by decide +kernel
theorem dX4_isLoversHour_0 : decode cX4_isLoversHour 0 = .ok (.aload_n 0, 1) := by decide +kernel
theorem dX4_isLoversHour_1 : decode cX4_isLoversHour 1 = .ok (.iload_n 1, 1) := by decide +kernel
theorem dX4_isLoversHour_2 : decode cX4_isLoversHour 2 = .ok (.invokevirtual 76, 3) := by decide +kernel
theorem dX4_isLoversHour_5 : decode cX4_isLoversHour 5 = .ok (.ifCond .ne 30, 3) := by decide +kernel
theorem dX4_isLoversHour_8 : decode cX4_isLoversHour 8 = .ok (.aload_n 0, 1) := by decide +kernel
theorem dX4_isLoversHour_9 : decode cX4_isLoversHour 9 = .ok (.iload_n 1, 1) := by decide +kernel
theorem dX4_isLoversHour_10 : decode cX4_isLoversHour 10 = .ok (.invokevirtual 59, 3) := by decide +kernel
theorem dX4_isLoversHour_13 : decode cX4_isLoversHour 13 = .ok (.ifCond .eq 26, 3) := by decide +kernel
theorem dX4_isLoversHour_16 : decode cX4_isLoversHour 16 = .ok (.aload_n 0, 1) := by decide +kernel
theorem dX4_isLoversHour_17 : decode cX4_isLoversHour 17 = .ok (.getfield 34, 3) := by decide +kernel
theorem dX4_isLoversHour_20 : decode cX4_isLoversHour 20 = .ok (.bipush 24, 2) := by decide +kernel
theorem dX4_isLoversHour_22 : decode cX4_isLoversHour 22 = .ok (.irem, 1) := by decide +kernel
theorem dX4_isLoversHour_23 : decode cX4_isLoversHour 23 = .ok (.bipush 12, 2) := by decide +kernel
theorem dX4_isLoversHour_25 : decode cX4_isLoversHour 25 = .ok (.irem, 1) := by decide +kernel
theorem dX4_isLoversHour_26 : decode cX4_isLoversHour 26 = .ok (.aload_n 0, 1) := by decide +kernel
theorem dX4_isLoversHour_27 : decode cX4_isLoversHour 27 = .ok (.getfield 15, 3) := by decide +kernel
theorem dX4_isLoversHour_30 : decode cX4_isLoversHour 30 = .ok (.iload_n 1, 1) := by decide +kernel
theorem dX4_isLoversHour_31 : decode cX4_isLoversHour 31 = .ok (.iaload, 1) := by decide +kernel
theorem dX4_isLoversHour_32 : decode cX4_isLoversHour 32 = .ok (.if_icmp .ne 7, 3) := by decide +kernel
theorem dX4_isLoversHour_35 : decode cX4_isLoversHour 35 = .ok (.iconst 1, 1) := by decide +kernel
theorem dX4_isLoversHour_36 : decode cX4_isLoversHour 36 = .ok (.goto 4, 3) := by decide +kernel
theorem dX4_isLoversHour_39 : decode cX4_isLoversHour 39 = .ok (.iconst 0, 1) := by decide +kernel
theorem dX4_isLoversHour_40 : decode cX4_isLoversHour 40 = .ok (.ireturn, 1) := by decide +kernel
theorem dX4_isLying_0 : decode cX4_isLying 0 = .ok (.aload_n 0, 1) := by decide +kernel
theorem dX4_isLying_1 : decode cX4_isLying 1 = .ok (.iload_n 1, 1) := by decide +kernel
theorem dX4_isLying_2 : decode cX4_isLying 2 = .ok (.invokevirtual 59, 3) := by decide +kernel
theorem dX4_isLying_5 : decode cX4_isLying 5 = .ok (.ifCond .eq 11, 3) := by decide +kernel
theorem dX4_isLying_8 : decode cX4_isLying 8 = .ok (.aload_n 0, 1) := by decide +kernel
theorem dX4_isLying_9 : decode cX4_isLying 9 = .ok (.iload_n 1, 1) := by decide +kernel
theorem dX4_isLying_10 : decode cX4_isLying 10 = .ok (.invokevirtual 63, 3) := by decide +kernel
theorem dX4_isLying_13 : decode cX4_isLying 13 = .ok (.ifCond .eq 5, 3) := by decide +kernel
theorem dX4_isLying_16 : decode cX4_isLying 16 = .ok (.iconst 0, 1) := by decide +kernel
theorem dX4_isLying_17 : decode cX4_isLying 17 = .ok (.ireturn, 1) := by decide +kernel
theorem dX4_isLying_18 : decode cX4_isLying 18 = .ok (.aload_n 0, 1) := by decide +kernel
theorem dX4_isLying_19 : decode cX4_isLying 19 = .ok (.getfield 9, 3) := by decide +kernel
theorem dX4_isLying_22 : decode cX4_isLying 22 = .ok (.iload_n 1, 1) := by decide +kernel
theorem dX4_isLying_23 : decode cX4_isLying 23 = .ok (.iaload, 1) := by decide +kernel
theorem dX4_isLying_24 : decode cX4_isLying 24 = .ok (.tableswitch 111 1 5 #[36, 111, 63, 103, 109], 36) := by decide +kernel
theorem dX4_isLying_60 : decode cX4_isLying 60 = .ok (.aload_n 0, 1) := by decide +kernel
theorem dX4_isLying_61 : decode cX4_isLying 61 = .ok (.iload_n 1, 1) := by decide +kernel
theorem dX4_isLying_62 : decode cX4_isLying 62 = .ok (.invokevirtual 79, 3) := by decide +kernel
theorem dX4_isLying_65 : decode cX4_isLying 65 = .ok (.ifCond .eq 20, 3) := by decide +kernel
theorem dX4_isLying_68 : decode cX4_isLying 68 = .ok (.aload_n 0, 1) := by decide +kernel
theorem dX4_isLying_69 : decode cX4_isLying 69 = .ok (.getfield 46, 3) := by decide +kernel
theorem dX4_isLying_72 : decode cX4_isLying 72 = .ok (.iconst 0, 1) := by decide +kernel
theorem dX4_isLying_73 : decode cX4_isLying 73 = .ok (.aload_n 0, 1) := by decide +kernel
theorem dX4_isLying_74 : decode cX4_isLying 74 = .ok (.iload_n 1, 1) := by decide +kernel
theorem dX4_isLying_75 : decode cX4_isLying 75 = .ok (.invokevirtual 82, 3) := by decide +kernel
theorem dX4_isLying_78 : decode cX4_isLying 78 = .ok (.ifCond .eq 7, 3) := by decide +kernel
theorem dX4_isLying_81 : decode cX4_isLying 81 = .ok (.iconst 1, 1) := by decide +kernel
theorem dX4_isLying_82 : decode cX4_isLying 82 = .ok (.goto 4, 3) := by decide +kernel
theorem dX4_isLying_85 : decode cX4_isLying 85 = .ok (.iconst 0, 1) := by decide +kernel
theorem dX4_isLying_86 : decode cX4_isLying 86 = .ok (.ireturn, 1) := by decide +kernel
theorem dX4_isLying_87 : decode cX4_isLying 87 = .ok (.aload_n 0, 1) := by decide +kernel
theorem dX4_isLying_88 : decode cX4_isLying 88 = .ok (.getfield 40, 3) := by decide +kernel
theorem dX4_isLying_91 : decode cX4_isLying 91 = .ok (.aload_n 0, 1) := by decide +kernel
theorem dX4_isLying_92 : decode cX4_isLying 92 = .ok (.getfield 15, 3) := by decide +kernel
theorem dX4_isLying_95 : decode cX4_isLying 95 = .ok (.iload_n 1, 1) := by decide +kernel
theorem dX4_isLying_96 : decode cX4_isLying 96 = .ok (.iaload, 1) := by decide +kernel
theorem dX4_isLying_97 : decode cX4_isLying 97 = .ok (.if_icmp .le 28, 3) := by decide +kernel
theorem dX4_isLying_100 : decode cX4_isLying 100 = .ok (.aload_n 0, 1) := by decide +kernel
theorem dX4_isLying_101 : decode cX4_isLying 101 = .ok (.iload_n 1, 1) := by decide +kernel
theorem dX4_isLying_102 : decode cX4_isLying 102 = .ok (.invokevirtual 79, 3) := by decide +kernel
theorem dX4_isLying_105 : decode cX4_isLying 105 = .ok (.ifCond .eq 20, 3) := by decide +kernel
theorem dX4_isLying_108 : decode cX4_isLying 108 = .ok (.aload_n 0, 1) := by decide +kernel
theorem dX4_isLying_109 : decode cX4_isLying 109 = .ok (.getfield 46, 3) := by decide +kernel
theorem dX4_isLying_112 : decode cX4_isLying 112 = .ok (.iconst 0, 1) := by decide +kernel
theorem dX4_isLying_113 : decode cX4_isLying 113 = .ok (.aload_n 0, 1) := by decide +kernel
theorem dX4_isLying_114 : decode cX4_isLying 114 = .ok (.iload_n 1, 1) := by decide +kernel
theorem dX4_isLying_115 : decode cX4_isLying 115 = .ok (.invokevirtual 82, 3) := by decide +kernel
theorem dX4_isLying_118 : decode cX4_isLying 118 = .ok (.ifCond .eq 7, 3) := by decide +kernel
theorem dX4_isLying_121 : decode cX4_isLying 121 = .ok (.iconst 1, 1) := by decide +kernel
theorem dX4_isLying_122 : decode cX4_isLying 122 = .ok (.goto 4, 3) := by decide +kernel
theorem dX4_isLying_125 : decode cX4_isLying 125 = .ok (.iconst 0, 1) := by decide +kernel
theorem dX4_isLying_126 : decode cX4_isLying 126 = .ok (.ireturn, 1) := by decide +kernel
theorem dX4_isLying_127 : decode cX4_isLying 127 = .ok (.aload_n 0, 1) := by decide +kernel
theorem dX4_isLying_128 : decode cX4_isLying 128 = .ok (.iload_n 1, 1) := by decide +kernel
theorem dX4_isLying_129 : decode cX4_isLying 129 = .ok (.invokevirtual 76, 3) := by decide +kernel
theorem dX4_isLying_132 : decode cX4_isLying 132 = .ok (.ireturn, 1) := by decide +kernel
theorem dX4_isLying_133 : decode cX4_isLying 133 = .ok (.iconst 1, 1) := by decide +kernel
theorem dX4_isLying_134 : decode cX4_isLying 134 = .ok (.ireturn, 1) := by decide +kernel
theorem dX4_isLying_135 : decode cX4_isLying 135 = .ok (.aload_n 0, 1) := by decide +kernel
theorem dX4_isLying_136 : decode cX4_isLying 136 = .ok (.iload_n 1, 1) := by decide +kernel
theorem dX4_isLying_137 : decode cX4_isLying 137 = .ok (.invokevirtual 76, 3) := by decide +kernel
theorem dX4_isLying_140 : decode cX4_isLying 140 = .ok (.ifCond .eq 20, 3) := by decide +kernel
theorem dX4_isLying_143 : decode cX4_isLying 143 = .ok (.aload_n 0, 1) := by decide +kernel
theorem dX4_isLying_144 : decode cX4_isLying 144 = .ok (.getfield 46, 3) := by decide +kernel
theorem dX4_isLying_147 : decode cX4_isLying 147 = .ok (.iconst 0, 1) := by decide +kernel
theorem dX4_isLying_148 : decode cX4_isLying 148 = .ok (.aload_n 0, 1) := by decide +kernel
theorem dX4_isLying_149 : decode cX4_isLying 149 = .ok (.iload_n 1, 1) := by decide +kernel
theorem dX4_isLying_150 : decode cX4_isLying 150 = .ok (.invokevirtual 82, 3) := by decide +kernel
theorem dX4_isLying_153 : decode cX4_isLying 153 = .ok (.ifCond .eq 7, 3) := by decide +kernel
theorem dX4_isLying_156 : decode cX4_isLying 156 = .ok (.iconst 1, 1) := by decide +kernel
theorem dX4_isLying_157 : decode cX4_isLying 157 = .ok (.goto 4, 3) := by decide +kernel
theorem dX4_isLying_160 : decode cX4_isLying 160 = .ok (.iconst 0, 1) := by decide +kernel
theorem dX4_isLying_161 : decode cX4_isLying 161 = .ok (.ireturn, 1) := by decide +kernel
theorem dX4_costOf_0 : decode cX4_costOf 0 = .ok (.aload_n 0, 1) := by decide +kernel
theorem dX4_costOf_1 : decode cX4_costOf 1 = .ok (.iload_n 1, 1) := by decide +kernel
theorem dX4_costOf_2 : decode cX4_costOf 2 = .ok (.invokevirtual 59, 3) := by decide +kernel
theorem dX4_costOf_5 : decode cX4_costOf 5 = .ok (.ifCond .ne 5, 3) := by decide +kernel
theorem dX4_costOf_8 : decode cX4_costOf 8 = .ok (.iconst 0, 1) := by decide +kernel
theorem dX4_costOf_9 : decode cX4_costOf 9 = .ok (.ireturn, 1) := by decide +kernel
theorem dX4_costOf_10 : decode cX4_costOf 10 = .ok (.aload_n 0, 1) := by decide +kernel
theorem dX4_costOf_11 : decode cX4_costOf 11 = .ok (.getfield 9, 3) := by decide +kernel
theorem dX4_costOf_14 : decode cX4_costOf 14 = .ok (.iload_n 1, 1) := by decide +kernel
theorem dX4_costOf_15 : decode cX4_costOf 15 = .ok (.iaload, 1) := by decide +kernel
theorem dX4_costOf_16 : decode cX4_costOf 16 = .ok (.tableswitch 68 1 4 #[32, 45, 32, 45], 32) := by decide +kernel
theorem dX4_costOf_48 : decode cX4_costOf 48 = .ok (.aload_n 0, 1) := by decide +kernel
theorem dX4_costOf_49 : decode cX4_costOf 49 = .ok (.getfield 46, 3) := by decide +kernel
theorem dX4_costOf_52 : decode cX4_costOf 52 = .ok (.iconst 1, 1) := by decide +kernel
theorem dX4_costOf_53 : decode cX4_costOf 53 = .ok (.aload_n 0, 1) := by decide +kernel
theorem dX4_costOf_54 : decode cX4_costOf 54 = .ok (.iload_n 1, 1) := by decide +kernel
theorem dX4_costOf_55 : decode cX4_costOf 55 = .ok (.invokevirtual 82, 3) := by decide +kernel
theorem dX4_costOf_58 : decode cX4_costOf 58 = .ok (.iconst 2, 1) := by decide +kernel
theorem dX4_costOf_59 : decode cX4_costOf 59 = .ok (.idiv, 1) := by decide +kernel
theorem dX4_costOf_60 : decode cX4_costOf 60 = .ok (.ireturn, 1) := by decide +kernel
theorem dX4_costOf_61 : decode cX4_costOf 61 = .ok (.aload_n 0, 1) := by decide +kernel
theorem dX4_costOf_62 : decode cX4_costOf 62 = .ok (.getfield 40, 3) := by decide +kernel
theorem dX4_costOf_65 : decode cX4_costOf 65 = .ok (.iconst 5, 1) := by decide +kernel
theorem dX4_costOf_66 : decode cX4_costOf 66 = .ok (.if_icmp .lt 7, 3) := by decide +kernel
theorem dX4_costOf_69 : decode cX4_costOf 69 = .ok (.iconst 0, 1) := by decide +kernel
theorem dX4_costOf_70 : decode cX4_costOf 70 = .ok (.goto 13, 3) := by decide +kernel
theorem dX4_costOf_73 : decode cX4_costOf 73 = .ok (.aload_n 0, 1) := by decide +kernel
theorem dX4_costOf_74 : decode cX4_costOf 74 = .ok (.getfield 46, 3) := by decide +kernel
theorem dX4_costOf_77 : decode cX4_costOf 77 = .ok (.iconst 1, 1) := by decide +kernel
theorem dX4_costOf_78 : decode cX4_costOf 78 = .ok (.aload_n 0, 1) := by decide +kernel
theorem dX4_costOf_79 : decode cX4_costOf 79 = .ok (.iload_n 1, 1) := by decide +kernel
theorem dX4_costOf_80 : decode cX4_costOf 80 = .ok (.invokevirtual 82, 3) := by decide +kernel
theorem dX4_costOf_83 : decode cX4_costOf 83 = .ok (.ireturn, 1) := by decide +kernel
theorem dX4_costOf_84 : decode cX4_costOf 84 = .ok (.aload_n 0, 1) := by decide +kernel
theorem dX4_costOf_85 : decode cX4_costOf 85 = .ok (.getfield 46, 3) := by decide +kernel
theorem dX4_costOf_88 : decode cX4_costOf 88 = .ok (.iconst 1, 1) := by decide +kernel
theorem dX4_costOf_89 : decode cX4_costOf 89 = .ok (.aload_n 0, 1) := by decide +kernel
theorem dX4_costOf_90 : decode cX4_costOf 90 = .ok (.iload_n 1, 1) := by decide +kernel
theorem dX4_costOf_91 : decode cX4_costOf 91 = .ok (.invokevirtual 82, 3) := by decide +kernel
theorem dX4_costOf_94 : decode cX4_costOf 94 = .ok (.ireturn, 1) := by decide +kernel
theorem dX4_strokesOf_0 : decode cX4_strokesOf 0 = .ok (.aload_n 0, 1) := by decide +kernel
theorem dX4_strokesOf_1 : decode cX4_strokesOf 1 = .ok (.iload_n 1, 1) := by decide +kernel
theorem dX4_strokesOf_2 : decode cX4_strokesOf 2 = .ok (.invokevirtual 59, 3) := by decide +kernel
theorem dX4_strokesOf_5 : decode cX4_strokesOf 5 = .ok (.ifCond .ne 5, 3) := by decide +kernel
theorem dX4_strokesOf_8 : decode cX4_strokesOf 8 = .ok (.iconst 0, 1) := by decide +kernel
theorem dX4_strokesOf_9 : decode cX4_strokesOf 9 = .ok (.ireturn, 1) := by decide +kernel
theorem dX4_strokesOf_10 : decode cX4_strokesOf 10 = .ok (.aload_n 0, 1) := by decide +kernel
theorem dX4_strokesOf_11 : decode cX4_strokesOf 11 = .ok (.getfield 9, 3) := by decide +kernel
theorem dX4_strokesOf_14 : decode cX4_strokesOf 14 = .ok (.iload_n 1, 1) := by decide +kernel
theorem dX4_strokesOf_15 : decode cX4_strokesOf 15 = .ok (.iaload, 1) := by decide +kernel
theorem dX4_strokesOf_16 : decode cX4_strokesOf 16 = .ok (.tableswitch 99 2 5 #[32, 50, 63, 97], 32) := by decide +kernel
theorem dX4_strokesOf_48 : decode cX4_strokesOf 48 = .ok (.aload_n 0, 1) := by decide +kernel
theorem dX4_strokesOf_49 : decode cX4_strokesOf 49 = .ok (.getfield 46, 3) := by decide +kernel
theorem dX4_strokesOf_52 : decode cX4_strokesOf 52 = .ok (.iconst 2, 1) := by decide +kernel
theorem dX4_strokesOf_53 : decode cX4_strokesOf 53 = .ok (.aload_n 0, 1) := by decide +kernel
theorem dX4_strokesOf_54 : decode cX4_strokesOf 54 = .ok (.iload_n 1, 1) := by decide +kernel
theorem dX4_strokesOf_55 : decode cX4_strokesOf 55 = .ok (.invokevirtual 82, 3) := by decide +kernel
theorem dX4_strokesOf_58 : decode cX4_strokesOf 58 = .ok (.aload_n 0, 1) := by decide +kernel
theorem dX4_strokesOf_59 : decode cX4_strokesOf 59 = .ok (.getfield 15, 3) := by decide +kernel
theorem dX4_strokesOf_62 : decode cX4_strokesOf 62 = .ok (.iload_n 1, 1) := by decide +kernel
theorem dX4_strokesOf_63 : decode cX4_strokesOf 63 = .ok (.iaload, 1) := by decide +kernel
theorem dX4_strokesOf_64 : decode cX4_strokesOf 64 = .ok (.iadd, 1) := by decide +kernel
theorem dX4_strokesOf_65 : decode cX4_strokesOf 65 = .ok (.ireturn, 1) := by decide +kernel
theorem dX4_strokesOf_66 : decode cX4_strokesOf 66 = .ok (.iconst 2, 1) := by decide +kernel
theorem dX4_strokesOf_67 : decode cX4_strokesOf 67 = .ok (.aload_n 0, 1) := by decide +kernel
theorem dX4_strokesOf_68 : decode cX4_strokesOf 68 = .ok (.getfield 46, 3) := by decide +kernel
theorem dX4_strokesOf_71 : decode cX4_strokesOf 71 = .ok (.iconst 2, 1) := by decide +kernel
theorem dX4_strokesOf_72 : decode cX4_strokesOf 72 = .ok (.aload_n 0, 1) := by decide +kernel
theorem dX4_strokesOf_73 : decode cX4_strokesOf 73 = .ok (.iload_n 1, 1) := by decide +kernel
theorem dX4_strokesOf_74 : decode cX4_strokesOf 74 = .ok (.invokevirtual 82, 3) := by decide +kernel
theorem dX4_strokesOf_77 : decode cX4_strokesOf 77 = .ok (.imul, 1) := by decide +kernel
theorem dX4_strokesOf_78 : decode cX4_strokesOf 78 = .ok (.ireturn, 1) := by decide +kernel
theorem dX4_strokesOf_79 : decode cX4_strokesOf 79 = .ok (.aload_n 0, 1) := by decide +kernel
theorem dX4_strokesOf_80 : decode cX4_strokesOf 80 = .ok (.getfield 34, 3) := by decide +kernel
theorem dX4_strokesOf_83 : decode cX4_strokesOf 83 = .ok (.bipush 24, 2) := by decide +kernel
theorem dX4_strokesOf_85 : decode cX4_strokesOf 85 = .ok (.irem, 1) := by decide +kernel
theorem dX4_strokesOf_86 : decode cX4_strokesOf 86 = .ok (.iconst 3, 1) := by decide +kernel
theorem dX4_strokesOf_87 : decode cX4_strokesOf 87 = .ok (.irem, 1) := by decide +kernel
theorem dX4_strokesOf_88 : decode cX4_strokesOf 88 = .ok (.ifCond .ne 7, 3) := by decide +kernel
theorem dX4_strokesOf_91 : decode cX4_strokesOf 91 = .ok (.iconst 0, 1) := by decide +kernel
theorem dX4_strokesOf_92 : decode cX4_strokesOf 92 = .ok (.goto 20, 3) := by decide +kernel
theorem dX4_strokesOf_95 : decode cX4_strokesOf 95 = .ok (.aload_n 0, 1) := by decide +kernel
theorem dX4_strokesOf_96 : decode cX4_strokesOf 96 = .ok (.getfield 46, 3) := by decide +kernel
theorem dX4_strokesOf_99 : decode cX4_strokesOf 99 = .ok (.iconst 2, 1) := by decide +kernel
theorem dX4_strokesOf_100 : decode cX4_strokesOf 100 = .ok (.aload_n 0, 1) := by decide +kernel
theorem dX4_strokesOf_101 : decode cX4_strokesOf 101 = .ok (.iload_n 1, 1) := by decide +kernel
theorem dX4_strokesOf_102 : decode cX4_strokesOf 102 = .ok (.invokevirtual 82, 3) := by decide +kernel
theorem dX4_strokesOf_105 : decode cX4_strokesOf 105 = .ok (.aload_n 0, 1) := by decide +kernel
theorem dX4_strokesOf_106 : decode cX4_strokesOf 106 = .ok (.getfield 15, 3) := by decide +kernel
theorem dX4_strokesOf_109 : decode cX4_strokesOf 109 = .ok (.iload_n 1, 1) := by decide +kernel
theorem dX4_strokesOf_110 : decode cX4_strokesOf 110 = .ok (.iaload, 1) := by decide +kernel
theorem dX4_strokesOf_111 : decode cX4_strokesOf 111 = .ok (.iadd, 1) := by decide +kernel
theorem dX4_strokesOf_112 : decode cX4_strokesOf 112 = .ok (.ireturn, 1) := by decide +kernel
theorem dX4_strokesOf_113 : decode cX4_strokesOf 113 = .ok (.iconst 0, 1) := by decide +kernel
theorem dX4_strokesOf_114 : decode cX4_strokesOf 114 = .ok (.ireturn, 1) := by decide +kernel
theorem dX4_strokesOf_115 : decode cX4_strokesOf 115 = .ok (.aload_n 0, 1) := by decide +kernel
theorem dX4_strokesOf_116 : decode cX4_strokesOf 116 = .ok (.getfield 46, 3) := by decide +kernel
theorem dX4_strokesOf_119 : decode cX4_strokesOf 119 = .ok (.iconst 2, 1) := by decide +kernel
theorem dX4_strokesOf_120 : decode cX4_strokesOf 120 = .ok (.aload_n 0, 1) := by decide +kernel
theorem dX4_strokesOf_121 : decode cX4_strokesOf 121 = .ok (.iload_n 1, 1) := by decide +kernel
theorem dX4_strokesOf_122 : decode cX4_strokesOf 122 = .ok (.invokevirtual 82, 3) := by decide +kernel
theorem dX4_strokesOf_125 : decode cX4_strokesOf 125 = .ok (.ireturn, 1) := by decide +kernel
theorem dX4_liars_0 : decode cX4_liars 0 = .ok (.iconst 0, 1) := by decide +kernel
theorem dX4_liars_1 : decode cX4_liars 1 = .ok (.istore_n 1, 1) := by decide +kernel
theorem dX4_liars_2 : decode cX4_liars 2 = .ok (.iconst 0, 1) := by decide +kernel
theorem dX4_liars_3 : decode cX4_liars 3 = .ok (.istore_n 2, 1) := by decide +kernel
theorem dX4_liars_4 : decode cX4_liars 4 = .ok (.iload_n 2, 1) := by decide +kernel
theorem dX4_liars_5 : decode cX4_liars 5 = .ok (.aload_n 0, 1) := by decide +kernel
theorem dX4_liars_6 : decode cX4_liars 6 = .ok (.getfield 31, 3) := by decide +kernel
theorem dX4_liars_9 : decode cX4_liars 9 = .ok (.if_icmp .ge 23, 3) := by decide +kernel
theorem dX4_liars_12 : decode cX4_liars 12 = .ok (.aload_n 0, 1) := by decide +kernel
theorem dX4_liars_13 : decode cX4_liars 13 = .ok (.iload_n 2, 1) := by decide +kernel
theorem dX4_liars_14 : decode cX4_liars 14 = .ok (.invokevirtual 88, 3) := by decide +kernel
theorem dX4_liars_17 : decode cX4_liars 17 = .ok (.ifCond .eq 9, 3) := by decide +kernel
theorem dX4_liars_20 : decode cX4_liars 20 = .ok (.iload_n 1, 1) := by decide +kernel
theorem dX4_liars_21 : decode cX4_liars 21 = .ok (.iconst 1, 1) := by decide +kernel
theorem dX4_liars_22 : decode cX4_liars 22 = .ok (.iload_n 2, 1) := by decide +kernel
theorem dX4_liars_23 : decode cX4_liars 23 = .ok (.ishl, 1) := by decide +kernel
theorem dX4_liars_24 : decode cX4_liars 24 = .ok (.ior, 1) := by decide +kernel
theorem dX4_liars_25 : decode cX4_liars 25 = .ok (.istore_n 1, 1) := by decide +kernel
theorem dX4_liars_26 : decode cX4_liars 26 = .ok (.iinc 2 1, 3) := by decide +kernel
theorem dX4_liars_29 : decode cX4_liars 29 = .ok (.goto (-25), 3) := by decide +kernel
theorem dX4_liars_32 : decode cX4_liars 32 = .ok (.iload_n 1, 1) := by decide +kernel
theorem dX4_liars_33 : decode cX4_liars 33 = .ok (.ireturn, 1) := by decide +kernel
theorem dX4_strikesOf_0 : decode cX4_strikesOf 0 = .ok (.iconst 0, 1) := by decide +kernel
theorem dX4_strikesOf_1 : decode cX4_strikesOf 1 = .ok (.istore_n 2, 1) := by decide +kernel
theorem dX4_strikesOf_2 : decode cX4_strikesOf 2 = .ok (.iconst 0, 1) := by decide +kernel
theorem dX4_strikesOf_3 : decode cX4_strikesOf 3 = .ok (.istore_n 3, 1) := by decide +kernel
theorem dX4_strikesOf_4 : decode cX4_strikesOf 4 = .ok (.iload_n 3, 1) := by decide +kernel
theorem dX4_strikesOf_5 : decode cX4_strikesOf 5 = .ok (.aload_n 0, 1) := by decide +kernel
theorem dX4_strikesOf_6 : decode cX4_strikesOf 6 = .ok (.getfield 31, 3) := by decide +kernel
theorem dX4_strikesOf_9 : decode cX4_strikesOf 9 = .ok (.if_icmp .ge 26, 3) := by decide +kernel
theorem dX4_strikesOf_12 : decode cX4_strikesOf 12 = .ok (.iload_n 1, 1) := by decide +kernel
theorem dX4_strikesOf_13 : decode cX4_strikesOf 13 = .ok (.iload_n 3, 1) := by decide +kernel
theorem dX4_strikesOf_14 : decode cX4_strikesOf 14 = .ok (.ishr, 1) := by decide +kernel
theorem dX4_strikesOf_15 : decode cX4_strikesOf 15 = .ok (.iconst 1, 1) := by decide +kernel
theorem dX4_strikesOf_16 : decode cX4_strikesOf 16 = .ok (.iand, 1) := by decide +kernel
theorem dX4_strikesOf_17 : decode cX4_strikesOf 17 = .ok (.iconst 1, 1) := by decide +kernel
theorem dX4_strikesOf_18 : decode cX4_strikesOf 18 = .ok (.if_icmp .ne 11, 3) := by decide +kernel
theorem dX4_strikesOf_21 : decode cX4_strikesOf 21 = .ok (.iload_n 2, 1) := by decide +kernel
theorem dX4_strikesOf_22 : decode cX4_strikesOf 22 = .ok (.aload_n 0, 1) := by decide +kernel
theorem dX4_strikesOf_23 : decode cX4_strikesOf 23 = .ok (.iload_n 3, 1) := by decide +kernel
theorem dX4_strikesOf_24 : decode cX4_strikesOf 24 = .ok (.invokevirtual 91, 3) := by decide +kernel
theorem dX4_strikesOf_27 : decode cX4_strikesOf 27 = .ok (.iadd, 1) := by decide +kernel
theorem dX4_strikesOf_28 : decode cX4_strikesOf 28 = .ok (.istore_n 2, 1) := by decide +kernel
theorem dX4_strikesOf_29 : decode cX4_strikesOf 29 = .ok (.iinc 3 1, 3) := by decide +kernel
theorem dX4_strikesOf_32 : decode cX4_strikesOf 32 = .ok (.goto (-28), 3) := by decide +kernel
theorem dX4_strikesOf_35 : decode cX4_strikesOf 35 = .ok (.iload_n 2, 1) := by decide +kernel
theorem dX4_strikesOf_36 : decode cX4_strikesOf 36 = .ok (.ireturn, 1) := by decide +kernel
theorem dX4_passHour_0 : decode cX4_passHour 0 = .ok (.aload_n 0, 1) := by decide +kernel
theorem dX4_passHour_1 : decode cX4_passHour 1 = .ok (.iload_n 1, 1) := by decide +kernel
theorem dX4_passHour_2 : decode cX4_passHour 2 = .ok (.invokevirtual 95, 3) := by decide +kernel
theorem dX4_passHour_5 : decode cX4_passHour 5 = .ok (.istore_n 2, 1) := by decide +kernel
theorem dX4_passHour_6 : decode cX4_passHour 6 = .ok (.iconst 0, 1) := by decide +kernel
theorem dX4_passHour_7 : decode cX4_passHour 7 = .ok (.istore_n 3, 1) := by decide +kernel
theorem dX4_passHour_8 : decode cX4_passHour 8 = .ok (.iload_n 3, 1) := by decide +kernel
theorem dX4_passHour_9 : decode cX4_passHour 9 = .ok (.aload_n 0, 1) := by decide +kernel
theorem dX4_passHour_10 : decode cX4_passHour 10 = .ok (.getfield 31, 3) := by decide +kernel
theorem dX4_passHour_13 : decode cX4_passHour 13 = .ok (.if_icmp .ge 71, 3) := by decide +kernel
theorem dX4_passHour_16 : decode cX4_passHour 16 = .ok (.iload_n 3, 1) := by decide +kernel
theorem dX4_passHour_17 : decode cX4_passHour 17 = .ok (.bipush 6, 2) := by decide +kernel
theorem dX4_passHour_19 : decode cX4_passHour 19 = .ok (.if_icmp .ge 65, 3) := by decide +kernel
theorem dX4_passHour_22 : decode cX4_passHour 22 = .ok (.iload_n 1, 1) := by decide +kernel
theorem dX4_passHour_23 : decode cX4_passHour 23 = .ok (.iload_n 3, 1) := by decide +kernel
theorem dX4_passHour_24 : decode cX4_passHour 24 = .ok (.ishr, 1) := by decide +kernel
theorem dX4_passHour_25 : decode cX4_passHour 25 = .ok (.iconst 1, 1) := by decide +kernel
theorem dX4_passHour_26 : decode cX4_passHour 26 = .ok (.iand, 1) := by decide +kernel
theorem dX4_passHour_27 : decode cX4_passHour 27 = .ok (.iconst 1, 1) := by decide +kernel
theorem dX4_passHour_28 : decode cX4_passHour 28 = .ok (.if_icmp .ne 50, 3) := by decide +kernel
theorem dX4_passHour_31 : decode cX4_passHour 31 = .ok (.aload_n 0, 1) := by decide +kernel
theorem dX4_passHour_32 : decode cX4_passHour 32 = .ok (.getfield 18, 3) := by decide +kernel
theorem dX4_passHour_35 : decode cX4_passHour 35 = .ok (.iload_n 3, 1) := by decide +kernel
theorem dX4_passHour_36 : decode cX4_passHour 36 = .ok (.iconst 0, 1) := by decide +kernel
theorem dX4_passHour_37 : decode cX4_passHour 37 = .ok (.bipush 99, 2) := by decide +kernel
theorem dX4_passHour_39 : decode cX4_passHour 39 = .ok (.aload_n 0, 1) := by decide +kernel
theorem dX4_passHour_40 : decode cX4_passHour 40 = .ok (.getfield 18, 3) := by decide +kernel
theorem dX4_passHour_43 : decode cX4_passHour 43 = .ok (.iload_n 3, 1) := by decide +kernel
theorem dX4_passHour_44 : decode cX4_passHour 44 = .ok (.iaload, 1) := by decide +kernel
theorem dX4_passHour_45 : decode cX4_passHour 45 = .ok (.aload_n 0, 1) := by decide +kernel
theorem dX4_passHour_46 : decode cX4_passHour 46 = .ok (.iload_n 3, 1) := by decide +kernel
theorem dX4_passHour_47 : decode cX4_passHour 47 = .ok (.invokevirtual 98, 3) := by decide +kernel
theorem dX4_passHour_50 : decode cX4_passHour 50 = .ok (.isub, 1) := by decide +kernel
theorem dX4_passHour_51 : decode cX4_passHour 51 = .ok (.invokestatic 70, 3) := by decide +kernel
theorem dX4_passHour_54 : decode cX4_passHour 54 = .ok (.invokestatic 101, 3) := by decide +kernel
theorem dX4_passHour_57 : decode cX4_passHour 57 = .ok (.iastore, 1) := by decide +kernel
theorem dX4_passHour_58 : decode cX4_passHour 58 = .ok (.aload_n 0, 1) := by decide +kernel
theorem dX4_passHour_59 : decode cX4_passHour 59 = .ok (.getfield 21, 3) := by decide +kernel
theorem dX4_passHour_62 : decode cX4_passHour 62 = .ok (.iload_n 3, 1) := by decide +kernel
theorem dX4_passHour_63 : decode cX4_passHour 63 = .ok (.sipush 9999, 3) := by decide +kernel
theorem dX4_passHour_66 : decode cX4_passHour 66 = .ok (.aload_n 0, 1) := by decide +kernel
theorem dX4_passHour_67 : decode cX4_passHour 67 = .ok (.getfield 21, 3) := by decide +kernel
theorem dX4_passHour_70 : decode cX4_passHour 70 = .ok (.iload_n 3, 1) := by decide +kernel
theorem dX4_passHour_71 : decode cX4_passHour 71 = .ok (.iaload, 1) := by decide +kernel
theorem dX4_passHour_72 : decode cX4_passHour 72 = .ok (.iconst 1, 1) := by decide +kernel
theorem dX4_passHour_73 : decode cX4_passHour 73 = .ok (.iadd, 1) := by decide +kernel
theorem dX4_passHour_74 : decode cX4_passHour 74 = .ok (.invokestatic 70, 3) := by decide +kernel
theorem dX4_passHour_77 : decode cX4_passHour 77 = .ok (.iastore, 1) := by decide +kernel
theorem dX4_passHour_78 : decode cX4_passHour 78 = .ok (.iinc 3 1, 3) := by decide +kernel
theorem dX4_passHour_81 : decode cX4_passHour 81 = .ok (.goto (-73), 3) := by decide +kernel
theorem dX4_passHour_84 : decode cX4_passHour 84 = .ok (.aload_n 0, 1) := by decide +kernel
theorem dX4_passHour_85 : decode cX4_passHour 85 = .ok (.bipush 99, 2) := by decide +kernel
theorem dX4_passHour_87 : decode cX4_passHour 87 = .ok (.iload_n 2, 1) := by decide +kernel
theorem dX4_passHour_88 : decode cX4_passHour 88 = .ok (.invokestatic 70, 3) := by decide +kernel
theorem dX4_passHour_91 : decode cX4_passHour 91 = .ok (.putfield 40, 3) := by decide +kernel
theorem dX4_passHour_94 : decode cX4_passHour 94 = .ok (.aload_n 0, 1) := by decide +kernel
theorem dX4_passHour_95 : decode cX4_passHour 95 = .ok (.ldc 104, 2) := by decide +kernel
theorem dX4_passHour_97 : decode cX4_passHour 97 = .ok (.aload_n 0, 1) := by decide +kernel
theorem dX4_passHour_98 : decode cX4_passHour 98 = .ok (.getfield 37, 3) := by decide +kernel
theorem dX4_passHour_101 : decode cX4_passHour 101 = .ok (.iload_n 2, 1) := by decide +kernel
theorem dX4_passHour_102 : decode cX4_passHour 102 = .ok (.iadd, 1) := by decide +kernel
theorem dX4_passHour_103 : decode cX4_passHour 103 = .ok (.invokestatic 70, 3) := by decide +kernel
theorem dX4_passHour_106 : decode cX4_passHour 106 = .ok (.putfield 37, 3) := by decide +kernel
theorem dX4_passHour_109 : decode cX4_passHour 109 = .ok (.aload_n 0, 1) := by decide +kernel
theorem dX4_passHour_110 : decode cX4_passHour 110 = .ok (.dup, 1) := by decide +kernel
theorem dX4_passHour_111 : decode cX4_passHour 111 = .ok (.getfield 34, 3) := by decide +kernel
theorem dX4_passHour_114 : decode cX4_passHour 114 = .ok (.iconst 1, 1) := by decide +kernel
theorem dX4_passHour_115 : decode cX4_passHour 115 = .ok (.iadd, 1) := by decide +kernel
theorem dX4_passHour_116 : decode cX4_passHour 116 = .ok (.putfield 34, 3) := by decide +kernel
theorem dX4_passHour_119 : decode cX4_passHour 119 = .ok (.iload_n 2, 1) := by decide +kernel
theorem dX4_passHour_120 : decode cX4_passHour 120 = .ok (.ireturn, 1) := by decide +kernel
theorem dX4_passHours_0 : decode cX4_passHours 0 = .ok (.iconst 0, 1) := by decide +kernel
theorem dX4_passHours_1 : decode cX4_passHours 1 = .ok (.istore_n 2, 1) := by decide +kernel
theorem dX4_passHours_2 : decode cX4_passHours 2 = .ok (.iconst 0, 1) := by decide +kernel
theorem dX4_passHours_3 : decode cX4_passHours 3 = .ok (.istore_n 3, 1) := by decide +kernel
theorem dX4_passHours_4 : decode cX4_passHours 4 = .ok (.iload_n 3, 1) := by decide +kernel
theorem dX4_passHours_5 : decode cX4_passHours 5 = .ok (.iload_n 1, 1) := by decide +kernel
theorem dX4_passHours_6 : decode cX4_passHours 6 = .ok (.if_icmp .ge 20, 3) := by decide +kernel
theorem dX4_passHours_9 : decode cX4_passHours 9 = .ok (.iload_n 2, 1) := by decide +kernel
theorem dX4_passHours_10 : decode cX4_passHours 10 = .ok (.aload_n 0, 1) := by decide +kernel
theorem dX4_passHours_11 : decode cX4_passHours 11 = .ok (.aload_n 0, 1) := by decide +kernel
theorem dX4_passHours_12 : decode cX4_passHours 12 = .ok (.invokevirtual 105, 3) := by decide +kernel
theorem dX4_passHours_15 : decode cX4_passHours 15 = .ok (.invokevirtual 109, 3) := by decide +kernel
theorem dX4_passHours_18 : decode cX4_passHours 18 = .ok (.iadd, 1) := by decide +kernel
theorem dX4_passHours_19 : decode cX4_passHours 19 = .ok (.istore_n 2, 1) := by decide +kernel
theorem dX4_passHours_20 : decode cX4_passHours 20 = .ok (.iinc 3 1, 3) := by decide +kernel
theorem dX4_passHours_23 : decode cX4_passHours 23 = .ok (.goto (-19), 3) := by decide +kernel
theorem dX4_passHours_26 : decode cX4_passHours 26 = .ok (.iload_n 2, 1) := by decide +kernel
theorem dX4_passHours_27 : decode cX4_passHours 27 = .ok (.ireturn, 1) := by decide +kernel
theorem dX5_init_0 : decode cX5_init 0 = .ok (.aload_n 0, 1) := by decide +kernel
theorem dX5_init_1 : decode cX5_init 1 = .ok (.invokespecial 1, 3) := by decide +kernel
theorem dX5_init_4 : decode cX5_init 4 = .ok (.aload_n 0, 1) := by decide +kernel
theorem dX5_init_5 : decode cX5_init 5 = .ok (.bipush 6, 2) := by decide +kernel
theorem dX5_init_7 : decode cX5_init 7 = .ok (.anewarray 9, 3) := by decide +kernel
theorem dX5_init_10 : decode cX5_init 10 = .ok (.putfield 11, 3) := by decide +kernel
theorem dX5_init_13 : decode cX5_init 13 = .ok (.aload_n 0, 1) := by decide +kernel
theorem dX5_init_14 : decode cX5_init 14 = .ok (.iconst 4, 1) := by decide +kernel
theorem dX5_init_15 : decode cX5_init 15 = .ok (.anewarray 15, 3) := by decide +kernel
theorem dX5_init_18 : decode cX5_init 18 = .ok (.putfield 17, 3) := by decide +kernel
theorem dX5_init_21 : decode cX5_init 21 = .ok (.aload_n 0, 1) := by decide +kernel
theorem dX5_init_22 : decode cX5_init 22 = .ok (.new 21, 3) := by decide +kernel
theorem dX5_init_25 : decode cX5_init 25 = .ok (.dup, 1) := by decide +kernel
theorem dX5_init_26 : decode cX5_init 26 = .ok (.invokespecial 23, 3) := by decide +kernel
theorem dX5_init_29 : decode cX5_init 29 = .ok (.putfield 24, 3) := by decide +kernel
theorem dX5_init_32 : decode cX5_init 32 = .ok (.aload_n 0, 1) := by decide +kernel
theorem dX5_init_33 : decode cX5_init 33 = .ok (.new 28, 3) := by decide +kernel
theorem dX5_init_36 : decode cX5_init 36 = .ok (.dup, 1) := by decide +kernel
theorem dX5_init_37 : decode cX5_init 37 = .ok (.invokespecial 30, 3) := by decide +kernel
theorem dX5_init_40 : decode cX5_init 40 = .ok (.putfield 31, 3) := by decide +kernel
theorem dX5_init_43 : decode cX5_init 43 = .ok (.aload_n 0, 1) := by decide +kernel
theorem dX5_init_44 : decode cX5_init 44 = .ok (.iconst 1, 1) := by decide +kernel
theorem dX5_init_45 : decode cX5_init 45 = .ok (.putfield 35, 3) := by decide +kernel
theorem dX5_init_48 : decode cX5_init 48 = .ok (.aload_n 0, 1) := by decide +kernel
theorem dX5_init_49 : decode cX5_init 49 = .ok (.iconst 0, 1) := by decide +kernel
theorem dX5_init_50 : decode cX5_init 50 = .ok (.putfield 39, 3) := by decide +kernel
theorem dX5_init_53 : decode cX5_init 53 = .ok (.new 9, 3) := by decide +kernel
theorem dX5_init_56 : decode cX5_init 56 = .ok (.dup, 1) := by decide +kernel
theorem dX5_init_57 : decode cX5_init 57 = .ok (.invokespecial 43, 3) := by decide +kernel
theorem dX5_init_60 : decode cX5_init 60 = .ok (.astore_n 1, 1) := by decide +kernel
theorem dX5_init_61 : decode cX5_init 61 = .ok (.aload_n 1, 1) := by decide +kernel
theorem dX5_init_62 : decode cX5_init 62 = .ok (.invokevirtual 44, 3) := by decide +kernel
theorem dX5_init_65 : decode cX5_init 65 = .ok (.aload_n 0, 1) := by decide +kernel
theorem dX5_init_66 : decode cX5_init 66 = .ok (.getfield 11, 3) := by decide +kernel
theorem dX5_init_69 : decode cX5_init 69 = .ok (.iconst 0, 1) := by decide +kernel
theorem dX5_init_70 : decode cX5_init 70 = .ok (.aload_n 1, 1) := by decide +kernel
theorem dX5_init_71 : decode cX5_init 71 = .ok (.aastore, 1) := by decide +kernel
theorem dX5_init_72 : decode cX5_init 72 = .ok (.iconst 1, 1) := by decide +kernel
theorem dX5_init_73 : decode cX5_init 73 = .ok (.istore_n 2, 1) := by decide +kernel
theorem dX5_init_74 : decode cX5_init 74 = .ok (.iload_n 2, 1) := by decide +kernel
theorem dX5_init_75 : decode cX5_init 75 = .ok (.bipush 6, 2) := by decide +kernel
theorem dX5_init_77 : decode cX5_init 77 = .ok (.if_icmp .ge 22, 3) := by decide +kernel
theorem dX5_init_80 : decode cX5_init 80 = .ok (.aload_n 0, 1) := by decide +kernel
theorem dX5_init_81 : decode cX5_init 81 = .ok (.getfield 11, 3) := by decide +kernel
theorem dX5_init_84 : decode cX5_init 84 = .ok (.iload_n 2, 1) := by decide +kernel
theorem dX5_init_85 : decode cX5_init 85 = .ok (.new 9, 3) := by decide +kernel
theorem dX5_init_88 : decode cX5_init 88 = .ok (.dup, 1) := by decide +kernel
theorem dX5_init_89 : decode cX5_init 89 = .ok (.invokespecial 43, 3) := by decide +kernel
theorem dX5_init_92 : decode cX5_init 92 = .ok (.aastore, 1) := by decide +kernel
theorem dX5_init_93 : decode cX5_init 93 = .ok (.iinc 2 1, 3) := by decide +kernel
theorem dX5_init_96 : decode cX5_init 96 = .ok (.goto (-22), 3) := by decide +kernel
theorem dX5_init_99 : decode cX5_init 99 = .ok (.iconst 0, 1) := by decide +kernel
theorem dX5_init_100 : decode cX5_init 100 = .ok (.istore_n 2, 1) := by decide +kernel
theorem dX5_init_101 : decode cX5_init 101 = .ok (.iload_n 2, 1) := by decide +kernel
theorem dX5_init_102 : decode cX5_init 102 = .ok (.iconst 4, 1) := by decide +kernel
theorem dX5_init_103 : decode cX5_init 103 = .ok (.if_icmp .ge 22, 3) := by decide +kernel
theorem dX5_init_106 : decode cX5_init 106 = .ok (.aload_n 0, 1) := by decide +kernel
theorem dX5_init_107 : decode cX5_init 107 = .ok (.getfield 17, 3) := by decide +kernel
theorem dX5_init_110 : decode cX5_init 110 = .ok (.iload_n 2, 1) := by decide +kernel
theorem dX5_init_111 : decode cX5_init 111 = .ok (.new 15, 3) := by decide +kernel
theorem dX5_init_114 : decode cX5_init 114 = .ok (.dup, 1) := by decide +kernel
theorem dX5_init_115 : decode cX5_init 115 = .ok (.invokespecial 47, 3) := by decide +kernel
theorem dX5_init_118 : decode cX5_init 118 = .ok (.aastore, 1) := by decide +kernel
theorem dX5_init_119 : decode cX5_init 119 = .ok (.iinc 2 1, 3) := by decide +kernel
theorem dX5_init_122 : decode cX5_init 122 = .ok (.goto (-21), 3) := by decide +kernel
theorem dX5_init_125 : decode cX5_init 125 = .ok (.aload_n 0, 1) := by decide +kernel
theorem dX5_init_126 : decode cX5_init 126 = .ok (.new 48, 3) := by decide +kernel
theorem dX5_init_129 : decode cX5_init 129 = .ok (.dup, 1) := by decide +kernel
theorem dX5_init_130 : decode cX5_init 130 = .ok (.aload_n 1, 1) := by decide +kernel
theorem dX5_init_131 : decode cX5_init 131 = .ok (.invokespecial 50, 3) := by decide +kernel
theorem dX5_init_134 : decode cX5_init 134 = .ok (.putfield 53, 3) := by decide +kernel
theorem dX5_init_137 : decode cX5_init 137 = .ok (.aload_n 0, 1) := by decide +kernel
theorem dX5_init_138 : decode cX5_init 138 = .ok (.new 48, 3) := by decide +kernel
theorem dX5_init_141 : decode cX5_init 141 = .ok (.dup, 1) := by decide +kernel
theorem dX5_init_142 : decode cX5_init 142 = .ok (.aload_n 1, 1) := by decide +kernel
theorem dX5_init_143 : decode cX5_init 143 = .ok (.invokespecial 50, 3) := by decide +kernel
theorem dX5_init_146 : decode cX5_init 146 = .ok (.putfield 57, 3) := by decide +kernel
theorem dX5_init_149 : decode cX5_init 149 = .ok (.aload_n 0, 1) := by decide +kernel
theorem dX5_init_150 : decode cX5_init 150 = .ok (.new 48, 3) := by decide +kernel
theorem dX5_init_153 : decode cX5_init 153 = .ok (.dup, 1) := by decide +kernel
theorem dX5_init_154 : decode cX5_init 154 = .ok (.aload_n 1, 1) := by decide +kernel
theorem dX5_init_155 : decode cX5_init 155 = .ok (.invokespecial 50, 3) := by decide +kernel
theorem dX5_init_158 : decode cX5_init 158 = .ok (.putfield 60, 3) := by decide +kernel
theorem dX5_init_161 : decode cX5_init 161 = .ok (.return_, 1) := by decide +kernel
theorem dX5_count_0 : decode cX5_count 0 = .ok (.iload_n 1, 1) := by decide +kernel
theorem dX5_count_1 : decode cX5_count 1 = .ok (.tableswitch 96 0 6 #[43, 51, 59, 67, 72, 80, 88], 43) := by decide +kernel
theorem dX5_count_44 : decode cX5_count 44 = .ok (.aload_n 0, 1) := by decide +kernel
theorem dX5_count_45 : decode cX5_count 45 = .ok (.getfield 53, 3) := by decide +kernel
theorem dX5_count_48 : decode cX5_count 48 = .ok (.getfield 63, 3) := by decide +kernel
theorem dX5_count_51 : decode cX5_count 51 = .ok (.ireturn, 1) := by decide +kernel
theorem dX5_count_52 : decode cX5_count 52 = .ok (.aload_n 0, 1) := by decide +kernel
theorem dX5_count_53 : decode cX5_count 53 = .ok (.getfield 53, 3) := by decide +kernel
theorem dX5_count_56 : decode cX5_count 56 = .ok (.getfield 66, 3) := by decide +kernel
theorem dX5_count_59 : decode cX5_count 59 = .ok (.ireturn, 1) := by decide +kernel
theorem dX5_count_60 : decode cX5_count 60 = .ok (.aload_n 0, 1) := by decide +kernel
theorem dX5_count_61 : decode cX5_count 61 = .ok (.getfield 53, 3) := by decide +kernel
theorem dX5_count_64 : decode cX5_count 64 = .ok (.getfield 69, 3) := by decide +kernel
theorem dX5_count_67 : decode cX5_count 67 = .ok (.ireturn, 1) := by decide +kernel
theorem dX5_count_68 : decode cX5_count 68 = .ok (.aload_n 0, 1) := by decide +kernel
theorem dX5_count_69 : decode cX5_count 69 = .ok (.getfield 35, 3) := by decide +kernel
theorem dX5_count_72 : decode cX5_count 72 = .ok (.ireturn, 1) := by decide +kernel
theorem dX5_count_73 : decode cX5_count 73 = .ok (.aload_n 0, 1) := by decide +kernel
theorem dX5_count_74 : decode cX5_count 74 = .ok (.getfield 53, 3) := by decide +kernel
theorem dX5_count_77 : decode cX5_count 77 = .ok (.getfield 72, 3) := by decide +kernel
theorem dX5_count_80 : decode cX5_count 80 = .ok (.ireturn, 1) := by decide +kernel
theorem dX5_count_81 : decode cX5_count 81 = .ok (.aload_n 0, 1) := by decide +kernel
theorem dX5_count_82 : decode cX5_count 82 = .ok (.getfield 24, 3) := by decide +kernel
theorem dX5_count_85 : decode cX5_count 85 = .ok (.getfield 75, 3) := by decide +kernel
theorem dX5_count_88 : decode cX5_count 88 = .ok (.ireturn, 1) := by decide +kernel
theorem dX5_count_89 : decode cX5_count 89 = .ok (.aload_n 0, 1) := by decide +kernel
theorem dX5_count_90 : decode cX5_count 90 = .ok (.getfield 53, 3) := by decide +kernel
theorem dX5_count_93 : decode cX5_count 93 = .ok (.getfield 78, 3) := by decide +kernel
theorem dX5_count_96 : decode cX5_count 96 = .ok (.ireturn, 1) := by decide +kernel
theorem dX5_count_97 : decode cX5_count 97 = .ok (.bipush (-2), 2) := by decide +kernel
theorem dX5_count_99 : decode cX5_count 99 = .ok (.ireturn, 1) := by decide +kernel
theorem dX5_clock_0 : decode cX5_clock 0 = .ok (.iload_n 1, 1) := by decide +kernel
theorem dX5_clock_1 : decode cX5_clock 1 = .ok (.iconst 0, 1) := by decide +kernel
theorem dX5_clock_2 : decode cX5_clock 2 = .ok (.sipush 9999, 3) := by decide +kernel
theorem dX5_clock_5 : decode cX5_clock 5 = .ok (.invokestatic 81, 3) := by decide +kernel
theorem dX5_clock_8 : decode cX5_clock 8 = .ok (.ifCond .ne 6, 3) := by decide +kernel
theorem dX5_clock_11 : decode cX5_clock 11 = .ok (.bipush (-2), 2) := by decide +kernel
theorem dX5_clock_13 : decode cX5_clock 13 = .ok (.ireturn, 1) := by decide +kernel
theorem dX5_clock_14 : decode cX5_clock 14 = .ok (.aload_n 0, 1) := by decide +kernel
theorem dX5_clock_15 : decode cX5_clock 15 = .ok (.getfield 53, 3) := by decide +kernel
theorem dX5_clock_18 : decode cX5_clock 18 = .ok (.getfield 66, 3) := by decide +kernel
theorem dX5_clock_21 : decode cX5_clock 21 = .ok (.istore_n 2, 1) := by decide +kernel
theorem dX5_clock_22 : decode cX5_clock 22 = .ok (.aload_n 0, 1) := by decide +kernel
theorem dX5_clock_23 : decode cX5_clock 23 = .ok (.getfield 53, 3) := by decide +kernel
theorem dX5_clock_26 : decode cX5_clock 26 = .ok (.iload_n 1, 1) := by decide +kernel
theorem dX5_clock_27 : decode cX5_clock 27 = .ok (.putfield 66, 3) := by decide +kernel
theorem dX5_clock_30 : decode cX5_clock 30 = .ok (.iload_n 2, 1) := by decide +kernel
theorem dX5_clock_31 : decode cX5_clock 31 = .ok (.ireturn, 1) := by decide +kernel
theorem dX5_feed_0 : decode cX5_feed 0 = .ok (.iload_n 1, 1) := by decide +kernel
theorem dX5_feed_1 : decode cX5_feed 1 = .ok (.iconst 1, 1) := by decide +kernel
theorem dX5_feed_2 : decode cX5_feed 2 = .ok (.iconst 5, 1) := by decide +kernel
theorem dX5_feed_3 : decode cX5_feed 3 = .ok (.invokestatic 81, 3) := by decide +kernel
theorem dX5_feed_6 : decode cX5_feed 6 = .ok (.ifCond .eq 41, 3) := by decide +kernel
theorem dX5_feed_9 : decode cX5_feed 9 = .ok (.iload_n 2, 1) := by decide +kernel
theorem dX5_feed_10 : decode cX5_feed 10 = .ok (.invokestatic 85, 3) := by decide +kernel
theorem dX5_feed_13 : decode cX5_feed 13 = .ok (.ifCond .eq 34, 3) := by decide +kernel
theorem dX5_feed_16 : decode cX5_feed 16 = .ok (.iload_n 3, 1) := by decide +kernel
theorem dX5_feed_17 : decode cX5_feed 17 = .ok (.invokestatic 85, 3) := by decide +kernel
theorem dX5_feed_20 : decode cX5_feed 20 = .ok (.ifCond .eq 27, 3) := by decide +kernel
theorem dX5_feed_23 : decode cX5_feed 23 = .ok (.iload 4, 2) := by decide +kernel
theorem dX5_feed_25 : decode cX5_feed 25 = .ok (.invokestatic 85, 3) := by decide +kernel
theorem dX5_feed_28 : decode cX5_feed 28 = .ok (.ifCond .eq 19, 3) := by decide +kernel
theorem dX5_feed_31 : decode cX5_feed 31 = .ok (.iload 5, 2) := by decide +kernel
theorem dX5_feed_33 : decode cX5_feed 33 = .ok (.invokestatic 85, 3) := by decide +kernel
theorem dX5_feed_36 : decode cX5_feed 36 = .ok (.ifCond .eq 11, 3) := by decide +kernel
theorem dX5_feed_39 : decode cX5_feed 39 = .ok (.iload 6, 2) := by decide +kernel
theorem dX5_feed_41 : decode cX5_feed 41 = .ok (.invokestatic 85, 3) := by decide +kernel
theorem dX5_feed_44 : decode cX5_feed 44 = .ok (.ifCond .ne 6, 3) := by decide +kernel
theorem dX5_feed_47 : decode cX5_feed 47 = .ok (.bipush (-2), 2) := by decide +kernel
theorem dX5_feed_49 : decode cX5_feed 49 = .ok (.ireturn, 1) := by decide +kernel
theorem dX5_feed_50 : decode cX5_feed 50 = .ok (.aload_n 0, 1) := by decide +kernel
theorem dX5_feed_51 : decode cX5_feed 51 = .ok (.getfield 24, 3) := by decide +kernel
theorem dX5_feed_54 : decode cX5_feed 54 = .ok (.getfield 75, 3) := by decide +kernel
theorem dX5_feed_57 : decode cX5_feed 57 = .ok (.iload_n 1, 1) := by decide +kernel
theorem dX5_feed_58 : decode cX5_feed 58 = .ok (.iadd, 1) := by decide +kernel
theorem dX5_feed_59 : decode cX5_feed 59 = .ok (.sipush 160, 3) := by decide +kernel
theorem dX5_feed_62 : decode cX5_feed 62 = .ok (.if_icmp .le 6, 3) := by decide +kernel
theorem dX5_feed_65 : decode cX5_feed 65 = .ok (.bipush (-4), 2) := by decide +kernel
theorem dX5_feed_67 : decode cX5_feed 67 = .ok (.ireturn, 1) := by decide +kernel
theorem dX5_feed_68 : decode cX5_feed 68 = .ok (.iconst 0, 1) := by decide +kernel
theorem dX5_feed_69 : decode cX5_feed 69 = .ok (.istore 7, 2) := by decide +kernel
theorem dX5_feed_71 : decode cX5_feed 71 = .ok (.iload 7, 2) := by decide +kernel
theorem dX5_feed_73 : decode cX5_feed 73 = .ok (.iload_n 1, 1) := by decide +kernel
theorem dX5_feed_74 : decode cX5_feed 74 = .ok (.if_icmp .ge 59, 3) := by decide +kernel
theorem dX5_feed_77 : decode cX5_feed 77 = .ok (.aload_n 0, 1) := by decide +kernel
theorem dX5_feed_78 : decode cX5_feed 78 = .ok (.getfield 24, 3) := by decide +kernel
theorem dX5_feed_81 : decode cX5_feed 81 = .ok (.iload 7, 2) := by decide +kernel
theorem dX5_feed_83 : decode cX5_feed 83 = .ok (.ifCond .ne 7, 3) := by decide +kernel
theorem dX5_feed_86 : decode cX5_feed 86 = .ok (.iload_n 2, 1) := by decide +kernel
theorem dX5_feed_87 : decode cX5_feed 87 = .ok (.goto 37, 3) := by decide +kernel
theorem dX5_feed_90 : decode cX5_feed 90 = .ok (.iload 7, 2) := by decide +kernel
theorem dX5_feed_92 : decode cX5_feed 92 = .ok (.iconst 1, 1) := by decide +kernel
theorem dX5_feed_93 : decode cX5_feed 93 = .ok (.if_icmp .ne 7, 3) := by decide +kernel
theorem dX5_feed_96 : decode cX5_feed 96 = .ok (.iload_n 3, 1) := by decide +kernel
theorem dX5_feed_97 : decode cX5_feed 97 = .ok (.goto 27, 3) := by decide +kernel
theorem dX5_feed_100 : decode cX5_feed 100 = .ok (.iload 7, 2) := by decide +kernel
theorem dX5_feed_102 : decode cX5_feed 102 = .ok (.iconst 2, 1) := by decide +kernel
theorem dX5_feed_103 : decode cX5_feed 103 = .ok (.if_icmp .ne 8, 3) := by decide +kernel
theorem dX5_feed_106 : decode cX5_feed 106 = .ok (.iload 4, 2) := by decide +kernel
theorem dX5_feed_108 : decode cX5_feed 108 = .ok (.goto 16, 3) := by decide +kernel
theorem dX5_feed_111 : decode cX5_feed 111 = .ok (.iload 7, 2) := by decide +kernel
theorem dX5_feed_113 : decode cX5_feed 113 = .ok (.iconst 3, 1) := by decide +kernel
theorem dX5_feed_114 : decode cX5_feed 114 = .ok (.if_icmp .ne 8, 3) := by decide +kernel
theorem dX5_feed_117 : decode cX5_feed 117 = .ok (.iload 5, 2) := by decide +kernel
theorem dX5_feed_119 : decode cX5_feed 119 = .ok (.goto 5, 3) := by decide +kernel
theorem dX5_feed_122 : decode cX5_feed 122 = .ok (.iload 6, 2) := by decide +kernel
theorem dX5_feed_124 : decode cX5_feed 124 = .ok (.invokevirtual 89, 3) := by decide +kernel
theorem dX5_feed_127 : decode cX5_feed 127 = .ok (.iinc 7 1, 3) := by decide +kernel
theorem dX5_feed_130 : decode cX5_feed 130 = .ok (.goto (-59), 3) := by decide +kernel
theorem dX5_feed_133 : decode cX5_feed 133 = .ok (.aload_n 0, 1) := by decide +kernel
theorem dX5_feed_134 : decode cX5_feed 134 = .ok (.getfield 24, 3) := by decide +kernel
theorem dX5_feed_137 : decode cX5_feed 137 = .ok (.getfield 75, 3) := by decide +kernel
theorem dX5_feed_140 : decode cX5_feed 140 = .ok (.ireturn, 1) := by decide +kernel
theorem dX5_text_0 : decode cX5_text 0 = .ok (.aload_n 0, 1) := by decide +kernel
theorem dX5_text_1 : decode cX5_text 1 = .ok (.getfield 35, 3) := by decide +kernel
theorem dX5_text_4 : decode cX5_text 4 = .ok (.ifCond .lt 12, 3) := by decide +kernel
theorem dX5_text_7 : decode cX5_text 7 = .ok (.aload_n 0, 1) := by decide +kernel
theorem dX5_text_8 : decode cX5_text 8 = .ok (.getfield 35, 3) := by decide +kernel
theorem dX5_text_11 : decode cX5_text 11 = .ok (.bipush 6, 2) := by decide +kernel
theorem dX5_text_13 : decode cX5_text 13 = .ok (.if_icmp .lt 6, 3) := by decide +kernel
theorem dX5_text_16 : decode cX5_text 16 = .ok (.bipush (-4), 2) := by decide +kernel
theorem dX5_text_18 : decode cX5_text 18 = .ok (.ireturn, 1) := by decide +kernel
theorem dX5_text_19 : decode cX5_text 19 = .ok (.aload_n 0, 1) := by decide +kernel
theorem dX5_text_20 : decode cX5_text 20 = .ok (.getfield 24, 3) := by decide +kernel
theorem dX5_text_23 : decode cX5_text 23 = .ok (.aload_n 0, 1) := by decide +kernel
theorem dX5_text_24 : decode cX5_text 24 = .ok (.getfield 11, 3) := by decide +kernel
theorem dX5_text_27 : decode cX5_text 27 = .ok (.aload_n 0, 1) := by decide +kernel
theorem dX5_text_28 : decode cX5_text 28 = .ok (.getfield 35, 3) := by decide +kernel
theorem dX5_text_31 : decode cX5_text 31 = .ok (.aaload, 1) := by decide +kernel
theorem dX5_text_32 : decode cX5_text 32 = .ok (.invokevirtual 93, 3) := by decide +kernel
theorem dX5_text_35 : decode cX5_text 35 = .ok (.istore_n 1, 1) := by decide +kernel
theorem dX5_text_36 : decode cX5_text 36 = .ok (.iload_n 1, 1) := by decide +kernel
theorem dX5_text_37 : decode cX5_text 37 = .ok (.ifCond .lt 8, 3) := by decide +kernel
theorem dX5_text_40 : decode cX5_text 40 = .ok (.bipush (-100), 2) := by decide +kernel
theorem dX5_text_42 : decode cX5_text 42 = .ok (.iload_n 1, 1) := by decide +kernel
theorem dX5_text_43 : decode cX5_text 43 = .ok (.isub, 1) := by decide +kernel
theorem dX5_text_44 : decode cX5_text 44 = .ok (.ireturn, 1) := by decide +kernel
theorem dX5_text_45 : decode cX5_text 45 = .ok (.aload_n 0, 1) := by decide +kernel
theorem dX5_text_46 : decode cX5_text 46 = .ok (.dup, 1) := by decide +kernel
theorem dX5_text_47 : decode cX5_text 47 = .ok (.getfield 35, 3) := by decide +kernel
theorem dX5_text_50 : decode cX5_text 50 = .ok (.iconst 1, 1) := by decide +kernel
theorem dX5_text_51 : decode cX5_text 51 = .ok (.iadd, 1) := by decide +kernel
theorem dX5_text_52 : decode cX5_text 52 = .ok (.putfield 35, 3) := by decide +kernel
theorem dX5_text_55 : decode cX5_text 55 = .ok (.aload_n 0, 1) := by decide +kernel
theorem dX5_text_56 : decode cX5_text 56 = .ok (.getfield 35, 3) := by decide +kernel
theorem dX5_text_59 : decode cX5_text 59 = .ok (.iconst 1, 1) := by decide +kernel
theorem dX5_text_60 : decode cX5_text 60 = .ok (.isub, 1) := by decide +kernel
theorem dX5_text_61 : decode cX5_text 61 = .ok (.ireturn, 1) := by decide +kernel
theorem dX5_force_0 : decode cX5_force 0 = .ok (.iload_n 1, 1) := by decide +kernel
theorem dX5_force_1 : decode cX5_force 1 = .ok (.ifCond .lt 17, 3) := by decide +kernel
theorem dX5_force_4 : decode cX5_force 4 = .ok (.iload_n 1, 1) := by decide +kernel
theorem dX5_force_5 : decode cX5_force 5 = .ok (.aload_n 0, 1) := by decide +kernel
theorem dX5_force_6 : decode cX5_force 6 = .ok (.getfield 35, 3) := by decide +kernel
theorem dX5_force_9 : decode cX5_force 9 = .ok (.if_icmp .ge 9, 3) := by decide +kernel
theorem dX5_force_12 : decode cX5_force 12 = .ok (.iload_n 1, 1) := by decide +kernel
theorem dX5_force_13 : decode cX5_force 13 = .ok (.bipush 6, 2) := by decide +kernel
theorem dX5_force_15 : decode cX5_force 15 = .ok (.if_icmp .lt 6, 3) := by decide +kernel
theorem dX5_force_18 : decode cX5_force 18 = .ok (.bipush (-2), 2) := by decide +kernel
theorem dX5_force_20 : decode cX5_force 20 = .ok (.ireturn, 1) := by decide +kernel
theorem dX5_force_21 : decode cX5_force 21 = .ok (.aload_n 0, 1) := by decide +kernel
theorem dX5_force_22 : decode cX5_force 22 = .ok (.getfield 53, 3) := by decide +kernel
theorem dX5_force_25 : decode cX5_force 25 = .ok (.getfield 72, 3) := by decide +kernel
theorem dX5_force_28 : decode cX5_force 28 = .ok (.istore_n 2, 1) := by decide +kernel
theorem dX5_force_29 : decode cX5_force 29 = .ok (.aload_n 0, 1) := by decide +kernel
theorem dX5_force_30 : decode cX5_force 30 = .ok (.getfield 53, 3) := by decide +kernel
theorem dX5_force_33 : decode cX5_force 33 = .ok (.aload_n 0, 1) := by decide +kernel
theorem dX5_force_34 : decode cX5_force 34 = .ok (.getfield 11, 3) := by decide +kernel
theorem dX5_force_37 : decode cX5_force 37 = .ok (.iload_n 1, 1) := by decide +kernel
theorem dX5_force_38 : decode cX5_force 38 = .ok (.aaload, 1) := by decide +kernel
theorem dX5_force_39 : decode cX5_force 39 = .ok (.iload_n 1, 1) := by decide +kernel
theorem dX5_force_40 : decode cX5_force 40 = .ok (.invokevirtual 97, 3) := by decide +kernel
theorem dX5_force_43 : decode cX5_force 43 = .ok (.iload_n 2, 1) := by decide +kernel
theorem dX5_force_44 : decode cX5_force 44 = .ok (.ireturn, 1) := by decide +kernel
theorem dX5_asks_0 : decode cX5_asks 0 = .ok (.iload_n 1, 1) := by decide +kernel
theorem dX5_asks_1 : decode cX5_asks 1 = .ok (.iconst 0, 1) := by decide +kernel
theorem dX5_asks_2 : decode cX5_asks 2 = .ok (.iconst 2, 1) := by decide +kernel
theorem dX5_asks_3 : decode cX5_asks 3 = .ok (.invokestatic 81, 3) := by decide +kernel
theorem dX5_asks_6 : decode cX5_asks 6 = .ok (.ifCond .eq 14, 3) := by decide +kernel
theorem dX5_asks_9 : decode cX5_asks 9 = .ok (.aload_n 0, 1) := by decide +kernel
theorem dX5_asks_10 : decode cX5_asks 10 = .ok (.getfield 53, 3) := by decide +kernel
theorem dX5_asks_13 : decode cX5_asks 13 = .ok (.iload_n 2, 1) := by decide +kernel
theorem dX5_asks_14 : decode cX5_asks 14 = .ok (.invokevirtual 101, 3) := by decide +kernel
theorem dX5_asks_17 : decode cX5_asks 17 = .ok (.ifCond .ne 7, 3) := by decide +kernel
theorem dX5_asks_20 : decode cX5_asks 20 = .ok (.sipush (-1000), 3) := by decide +kernel
theorem dX5_asks_23 : decode cX5_asks 23 = .ok (.ireturn, 1) := by decide +kernel
theorem dX5_asks_24 : decode cX5_asks 24 = .ok (.aload_n 0, 1) := by decide +kernel
theorem dX5_asks_25 : decode cX5_asks 25 = .ok (.getfield 53, 3) := by decide +kernel
theorem dX5_asks_28 : decode cX5_asks 28 = .ok (.getfield 104, 3) := by decide +kernel
theorem dX5_asks_31 : decode cX5_asks 31 = .ok (.iload_n 1, 1) := by decide +kernel
theorem dX5_asks_32 : decode cX5_asks 32 = .ok (.aload_n 0, 1) := by decide +kernel
theorem dX5_asks_33 : decode cX5_asks 33 = .ok (.getfield 53, 3) := by decide +kernel
theorem dX5_asks_36 : decode cX5_asks 36 = .ok (.iload_n 2, 1) := by decide +kernel
theorem dX5_asks_37 : decode cX5_asks 37 = .ok (.invokevirtual 108, 3) := by decide +kernel
theorem dX5_asks_40 : decode cX5_asks 40 = .ok (.ireturn, 1) := by decide +kernel
theorem dX5_person_0 : decode cX5_person 0 = .ok (.aload_n 0, 1) := by decide +kernel
theorem dX5_person_1 : decode cX5_person 1 = .ok (.getfield 53, 3) := by decide +kernel
theorem dX5_person_4 : decode cX5_person 4 = .ok (.iload_n 1, 1) := by decide +kernel
theorem dX5_person_5 : decode cX5_person 5 = .ok (.iload_n 2, 1) := by decide +kernel
theorem dX5_person_6 : decode cX5_person 6 = .ok (.iload_n 3, 1) := by decide +kernel
theorem dX5_person_7 : decode cX5_person 7 = .ok (.invokevirtual 112, 3) := by decide +kernel
theorem dX5_person_10 : decode cX5_person 10 = .ok (.ireturn, 1) := by decide +kernel
theorem dX5_put_0 : decode cX5_put 0 = .ok (.aload_n 0, 1) := by decide +kernel
theorem dX5_put_1 : decode cX5_put 1 = .ok (.getfield 53, 3) := by decide +kernel
theorem dX5_put_4 : decode cX5_put 4 = .ok (.iload_n 1, 1) := by decide +kernel
theorem dX5_put_5 : decode cX5_put 5 = .ok (.invokevirtual 101, 3) := by decide +kernel
theorem dX5_put_8 : decode cX5_put 8 = .ok (.ifCond .ne 6, 3) := by decide +kernel
theorem dX5_put_11 : decode cX5_put 11 = .ok (.bipush (-5), 2) := by decide +kernel
theorem dX5_put_13 : decode cX5_put 13 = .ok (.ireturn, 1) := by decide +kernel
theorem dX5_put_14 : decode cX5_put 14 = .ok (.iload_n 2, 1) := by decide +kernel
theorem dX5_put_15 : decode cX5_put 15 = .ok (.invokestatic 116, 3) := by decide +kernel
theorem dX5_put_18 : decode cX5_put 18 = .ok (.istore 4, 2) := by decide +kernel
theorem dX5_put_20 : decode cX5_put 20 = .ok (.iload 4, 2) := by decide +kernel
theorem dX5_put_22 : decode cX5_put 22 = .ok (.ifCond .lt 13, 3) := by decide +kernel
theorem dX5_put_25 : decode cX5_put 25 = .ok (.iload_n 3, 1) := by decide +kernel
theorem dX5_put_26 : decode cX5_put 26 = .ok (.iconst 0, 1) := by decide +kernel
theorem dX5_put_27 : decode cX5_put 27 = .ok (.iload 4, 2) := by decide +kernel
theorem dX5_put_29 : decode cX5_put 29 = .ok (.invokestatic 81, 3) := by decide +kernel
theorem dX5_put_32 : decode cX5_put 32 = .ok (.ifCond .ne 6, 3) := by decide +kernel
theorem dX5_put_35 : decode cX5_put 35 = .ok (.bipush (-7), 2) := by decide +kernel
theorem dX5_put_37 : decode cX5_put 37 = .ok (.ireturn, 1) := by decide +kernel
theorem dX5_put_38 : decode cX5_put 38 = .ok (.aload_n 0, 1) := by decide +kernel
theorem dX5_put_39 : decode cX5_put 39 = .ok (.getfield 53, 3) := by decide +kernel
theorem dX5_put_42 : decode cX5_put 42 = .ok (.iload_n 1, 1) := by decide +kernel
theorem dX5_put_43 : decode cX5_put 43 = .ok (.iload_n 2, 1) := by decide +kernel
theorem dX5_put_44 : decode cX5_put 44 = .ok (.invokevirtual 120, 3) := by decide +kernel
theorem dX5_put_47 : decode cX5_put 47 = .ok (.istore 5, 2) := by decide +kernel
theorem dX5_put_49 : decode cX5_put 49 = .ok (.aload_n 0, 1) := by decide +kernel
theorem dX5_put_50 : decode cX5_put 50 = .ok (.getfield 53, 3) := by decide +kernel
theorem dX5_put_53 : decode cX5_put 53 = .ok (.iload_n 1, 1) := by decide +kernel
theorem dX5_put_54 : decode cX5_put 54 = .ok (.iload_n 2, 1) := by decide +kernel
theorem dX5_put_55 : decode cX5_put 55 = .ok (.iload_n 3, 1) := by decide +kernel
theorem dX5_put_56 : decode cX5_put 56 = .ok (.invokevirtual 124, 3) := by decide +kernel
theorem dX5_put_59 : decode cX5_put 59 = .ok (.iload 5, 2) := by decide +kernel
theorem dX5_put_61 : decode cX5_put 61 = .ok (.ireturn, 1) := by decide +kernel
theorem dX5_tells_0 : decode cX5_tells 0 = .ok (.aload_n 0, 1) := by decide +kernel
theorem dX5_tells_1 : decode cX5_tells 1 = .ok (.getfield 53, 3) := by decide +kernel
theorem dX5_tells_4 : decode cX5_tells 4 = .ok (.iload_n 1, 1) := by decide +kernel
theorem dX5_tells_5 : decode cX5_tells 5 = .ok (.invokevirtual 101, 3) := by decide +kernel
theorem dX5_tells_8 : decode cX5_tells 8 = .ok (.ifCond .ne 6, 3) := by decide +kernel
theorem dX5_tells_11 : decode cX5_tells 11 = .ok (.bipush (-5), 2) := by decide +kernel
theorem dX5_tells_13 : decode cX5_tells 13 = .ok (.ireturn, 1) := by decide +kernel
theorem dX5_tells_14 : decode cX5_tells 14 = .ok (.iload_n 2, 1) := by decide +kernel
theorem dX5_tells_15 : decode cX5_tells 15 = .ok (.tableswitch 118 0 8 #[49, 49, 49, 49, 59, 69, 79, 96, 109], 49) := by decide +kernel
theorem dX5_tells_64 : decode cX5_tells 64 = .ok (.aload_n 0, 1) := by decide +kernel
theorem dX5_tells_65 : decode cX5_tells 65 = .ok (.getfield 53, 3) := by decide +kernel
theorem dX5_tells_68 : decode cX5_tells 68 = .ok (.iload_n 1, 1) := by decide +kernel
theorem dX5_tells_69 : decode cX5_tells 69 = .ok (.iload_n 2, 1) := by decide +kernel
theorem dX5_tells_70 : decode cX5_tells 70 = .ok (.invokevirtual 120, 3) := by decide +kernel
theorem dX5_tells_73 : decode cX5_tells 73 = .ok (.ireturn, 1) := by decide +kernel
theorem dX5_tells_74 : decode cX5_tells 74 = .ok (.aload_n 0, 1) := by decide +kernel
theorem dX5_tells_75 : decode cX5_tells 75 = .ok (.getfield 53, 3) := by decide +kernel
theorem dX5_tells_78 : decode cX5_tells 78 = .ok (.getfield 128, 3) := by decide +kernel
theorem dX5_tells_81 : decode cX5_tells 81 = .ok (.iload_n 1, 1) := by decide +kernel
theorem dX5_tells_82 : decode cX5_tells 82 = .ok (.iaload, 1) := by decide +kernel
theorem dX5_tells_83 : decode cX5_tells 83 = .ok (.ireturn, 1) := by decide +kernel
theorem dX5_tells_84 : decode cX5_tells 84 = .ok (.aload_n 0, 1) := by decide +kernel
theorem dX5_tells_85 : decode cX5_tells 85 = .ok (.getfield 53, 3) := by decide +kernel
theorem dX5_tells_88 : decode cX5_tells 88 = .ok (.getfield 132, 3) := by decide +kernel
theorem dX5_tells_91 : decode cX5_tells 91 = .ok (.iload_n 1, 1) := by decide +kernel
theorem dX5_tells_92 : decode cX5_tells 92 = .ok (.iaload, 1) := by decide +kernel
theorem dX5_tells_93 : decode cX5_tells 93 = .ok (.ireturn, 1) := by decide +kernel
theorem dX5_tells_94 : decode cX5_tells 94 = .ok (.aload_n 0, 1) := by decide +kernel
theorem dX5_tells_95 : decode cX5_tells 95 = .ok (.getfield 53, 3) := by decide +kernel
theorem dX5_tells_98 : decode cX5_tells 98 = .ok (.iload_n 1, 1) := by decide +kernel
theorem dX5_tells_99 : decode cX5_tells 99 = .ok (.invokevirtual 135, 3) := by decide +kernel
theorem dX5_tells_102 : decode cX5_tells 102 = .ok (.ifCond .eq 7, 3) := by decide +kernel
theorem dX5_tells_105 : decode cX5_tells 105 = .ok (.iconst 1, 1) := by decide +kernel
theorem dX5_tells_106 : decode cX5_tells 106 = .ok (.goto 4, 3) := by decide +kernel
theorem dX5_tells_109 : decode cX5_tells 109 = .ok (.iconst 0, 1) := by decide +kernel
theorem dX5_tells_110 : decode cX5_tells 110 = .ok (.ireturn, 1) := by decide +kernel
theorem dX5_tells_111 : decode cX5_tells 111 = .ok (.aload_n 0, 1) := by decide +kernel
theorem dX5_tells_112 : decode cX5_tells 112 = .ok (.getfield 53, 3) := by decide +kernel
theorem dX5_tells_115 : decode cX5_tells 115 = .ok (.iload_n 1, 1) := by decide +kernel
theorem dX5_tells_116 : decode cX5_tells 116 = .ok (.invokevirtual 138, 3) := by decide +kernel
theorem dX5_tells_119 : decode cX5_tells 119 = .ok (.sipush 1000, 3) := by decide +kernel
theorem dX5_tells_122 : decode cX5_tells 122 = .ok (.iadd, 1) := by decide +kernel
theorem dX5_tells_123 : decode cX5_tells 123 = .ok (.ireturn, 1) := by decide +kernel
theorem dX5_tells_124 : decode cX5_tells 124 = .ok (.aload_n 0, 1) := by decide +kernel
theorem dX5_tells_125 : decode cX5_tells 125 = .ok (.getfield 53, 3) := by decide +kernel
theorem dX5_tells_128 : decode cX5_tells 128 = .ok (.iload_n 1, 1) := by decide +kernel
theorem dX5_tells_129 : decode cX5_tells 129 = .ok (.invokevirtual 141, 3) := by decide +kernel
theorem dX5_tells_132 : decode cX5_tells 132 = .ok (.ireturn, 1) := by decide +kernel
theorem dX5_tells_133 : decode cX5_tells 133 = .ok (.bipush (-7), 2) := by decide +kernel
theorem dX5_tells_135 : decode cX5_tells 135 = .ok (.ireturn, 1) := by decide +kernel
theorem dX5_bell_0 : decode cX5_bell 0 = .ok (.iload_n 1, 1) := by decide +kernel
theorem dX5_bell_1 : decode cX5_bell 1 = .ok (.tableswitch 70 0 3 #[31, 39, 54, 62], 31) := by decide +kernel
theorem dX5_bell_32 : decode cX5_bell 32 = .ok (.aload_n 0, 1) := by decide +kernel
theorem dX5_bell_33 : decode cX5_bell 33 = .ok (.getfield 53, 3) := by decide +kernel
theorem dX5_bell_36 : decode cX5_bell 36 = .ok (.invokevirtual 144, 3) := by decide +kernel
theorem dX5_bell_39 : decode cX5_bell 39 = .ok (.ireturn, 1) := by decide +kernel
theorem dX5_bell_40 : decode cX5_bell 40 = .ok (.aload_n 0, 1) := by decide +kernel
theorem dX5_bell_41 : decode cX5_bell 41 = .ok (.getfield 53, 3) := by decide +kernel
theorem dX5_bell_44 : decode cX5_bell 44 = .ok (.aload_n 0, 1) := by decide +kernel
theorem dX5_bell_45 : decode cX5_bell 45 = .ok (.getfield 53, 3) := by decide +kernel
theorem dX5_bell_48 : decode cX5_bell 48 = .ok (.invokevirtual 144, 3) := by decide +kernel
theorem dX5_bell_51 : decode cX5_bell 51 = .ok (.invokevirtual 148, 3) := by decide +kernel
theorem dX5_bell_54 : decode cX5_bell 54 = .ok (.ireturn, 1) := by decide +kernel
theorem dX5_bell_55 : decode cX5_bell 55 = .ok (.aload_n 0, 1) := by decide +kernel
theorem dX5_bell_56 : decode cX5_bell 56 = .ok (.getfield 53, 3) := by decide +kernel
theorem dX5_bell_59 : decode cX5_bell 59 = .ok (.getfield 69, 3) := by decide +kernel
theorem dX5_bell_62 : decode cX5_bell 62 = .ok (.ireturn, 1) := by decide +kernel
theorem dX5_bell_63 : decode cX5_bell 63 = .ok (.aload_n 0, 1) := by decide +kernel
theorem dX5_bell_64 : decode cX5_bell 64 = .ok (.getfield 53, 3) := by decide +kernel
theorem dX5_bell_67 : decode cX5_bell 67 = .ok (.getfield 151, 3) := by decide +kernel
theorem dX5_bell_70 : decode cX5_bell 70 = .ok (.ireturn, 1) := by decide +kernel
theorem dX5_bell_71 : decode cX5_bell 71 = .ok (.bipush (-2), 2) := by decide +kernel
theorem dX5_bell_73 : decode cX5_bell 73 = .ok (.ireturn, 1) := by decide +kernel
theorem dX5_strike_0 : decode cX5_strike 0 = .ok (.aload_n 0, 1) := by decide +kernel
theorem dX5_strike_1 : decode cX5_strike 1 = .ok (.getfield 53, 3) := by decide +kernel
theorem dX5_strike_4 : decode cX5_strike 4 = .ok (.getfield 66, 3) := by decide +kernel
theorem dX5_strike_7 : decode cX5_strike 7 = .ok (.sipush 9999, 3) := by decide +kernel
theorem dX5_strike_10 : decode cX5_strike 10 = .ok (.if_icmp .lt 6, 3) := by decide +kernel
theorem dX5_strike_13 : decode cX5_strike 13 = .ok (.bipush (-3), 2) := by decide +kernel
theorem dX5_strike_15 : decode cX5_strike 15 = .ok (.ireturn, 1) := by decide +kernel
theorem dX5_strike_16 : decode cX5_strike 16 = .ok (.aload_n 0, 1) := by decide +kernel
theorem dX5_strike_17 : decode cX5_strike 17 = .ok (.getfield 53, 3) := by decide +kernel
theorem dX5_strike_20 : decode cX5_strike 20 = .ok (.aload_n 0, 1) := by decide +kernel
theorem dX5_strike_21 : decode cX5_strike 21 = .ok (.getfield 53, 3) := by decide +kernel
theorem dX5_strike_24 : decode cX5_strike 24 = .ok (.invokevirtual 144, 3) := by decide +kernel
theorem dX5_strike_27 : decode cX5_strike 27 = .ok (.invokevirtual 154, 3) := by decide +kernel
theorem dX5_strike_30 : decode cX5_strike 30 = .ok (.ireturn, 1) := by decide +kernel
theorem dX5_run_0 : decode cX5_run 0 = .ok (.iload_n 1, 1) := by decide +kernel
theorem dX5_run_1 : decode cX5_run 1 = .ok (.iconst 0, 1) := by decide +kernel
theorem dX5_run_2 : decode cX5_run 2 = .ok (.bipush 48, 2) := by decide +kernel
theorem dX5_run_4 : decode cX5_run 4 = .ok (.invokestatic 81, 3) := by decide +kernel
theorem dX5_run_7 : decode cX5_run 7 = .ok (.ifCond .ne 6, 3) := by decide +kernel
theorem dX5_run_10 : decode cX5_run 10 = .ok (.bipush (-2), 2) := by decide +kernel
theorem dX5_run_12 : decode cX5_run 12 = .ok (.ireturn, 1) := by decide +kernel
theorem dX5_run_13 : decode cX5_run 13 = .ok (.iload_n 2, 1) := by decide +kernel
theorem dX5_run_14 : decode cX5_run 14 = .ok (.bipush 10, 2) := by decide +kernel
theorem dX5_run_16 : decode cX5_run 16 = .ok (.if_icmp .lt 21, 3) := by decide +kernel
theorem dX5_run_19 : decode cX5_run 19 = .ok (.aload_n 0, 1) := by decide +kernel
theorem dX5_run_20 : decode cX5_run 20 = .ok (.getfield 53, 3) := by decide +kernel
theorem dX5_run_23 : decode cX5_run 23 = .ok (.iload_n 2, 1) := by decide +kernel
theorem dX5_run_24 : decode cX5_run 24 = .ok (.bipush 10, 2) := by decide +kernel
theorem dX5_run_26 : decode cX5_run 26 = .ok (.isub, 1) := by decide +kernel
theorem dX5_run_27 : decode cX5_run 27 = .ok (.invokevirtual 101, 3) := by decide +kernel
theorem dX5_run_30 : decode cX5_run 30 = .ok (.ifCond .eq 7, 3) := by decide +kernel
theorem dX5_run_33 : decode cX5_run 33 = .ok (.iconst 1, 1) := by decide +kernel
theorem dX5_run_34 : decode cX5_run 34 = .ok (.goto 4, 3) := by decide +kernel
theorem dX5_run_37 : decode cX5_run 37 = .ok (.iconst 0, 1) := by decide +kernel
theorem dX5_run_38 : decode cX5_run 38 = .ok (.istore_n 3, 1) := by decide +kernel
theorem dX5_run_39 : decode cX5_run 39 = .ok (.iload_n 2, 1) := by decide +kernel
theorem dX5_run_40 : decode cX5_run 40 = .ok (.bipush 20, 2) := by decide +kernel
theorem dX5_run_42 : decode cX5_run 42 = .ok (.if_icmp .lt 21, 3) := by decide +kernel
theorem dX5_run_45 : decode cX5_run 45 = .ok (.aload_n 0, 1) := by decide +kernel
theorem dX5_run_46 : decode cX5_run 46 = .ok (.getfield 53, 3) := by decide +kernel
theorem dX5_run_49 : decode cX5_run 49 = .ok (.iload_n 2, 1) := by decide +kernel
theorem dX5_run_50 : decode cX5_run 50 = .ok (.bipush 20, 2) := by decide +kernel
theorem dX5_run_52 : decode cX5_run 52 = .ok (.isub, 1) := by decide +kernel
theorem dX5_run_53 : decode cX5_run 53 = .ok (.invokevirtual 101, 3) := by decide +kernel
theorem dX5_run_56 : decode cX5_run 56 = .ok (.ifCond .eq 7, 3) := by decide +kernel
theorem dX5_run_59 : decode cX5_run 59 = .ok (.iconst 1, 1) := by decide +kernel
theorem dX5_run_60 : decode cX5_run 60 = .ok (.goto 4, 3) := by decide +kernel
theorem dX5_run_63 : decode cX5_run 63 = .ok (.iconst 0, 1) := by decide +kernel
theorem dX5_run_64 : decode cX5_run 64 = .ok (.istore 4, 2) := by decide +kernel
theorem dX5_run_66 : decode cX5_run 66 = .ok (.iload_n 2, 1) := by decide +kernel
theorem dX5_run_67 : decode cX5_run 67 = .ok (.iconst 0, 1) := by decide +kernel
theorem dX5_run_68 : decode cX5_run 68 = .ok (.iconst 2, 1) := by decide +kernel
theorem dX5_run_69 : decode cX5_run 69 = .ok (.invokestatic 81, 3) := by decide +kernel
theorem dX5_run_72 : decode cX5_run 72 = .ok (.ifCond .ne 15, 3) := by decide +kernel
theorem dX5_run_75 : decode cX5_run 75 = .ok (.iload_n 3, 1) := by decide +kernel
theorem dX5_run_76 : decode cX5_run 76 = .ok (.ifCond .ne 11, 3) := by decide +kernel
theorem dX5_run_79 : decode cX5_run 79 = .ok (.iload 4, 2) := by decide +kernel
theorem dX5_run_81 : decode cX5_run 81 = .ok (.ifCond .ne 6, 3) := by decide +kernel
theorem dX5_run_84 : decode cX5_run 84 = .ok (.bipush (-2), 2) := by decide +kernel
theorem dX5_run_86 : decode cX5_run 86 = .ok (.ireturn, 1) := by decide +kernel
theorem dX5_run_87 : decode cX5_run 87 = .ok (.aload_n 0, 1) := by decide +kernel
theorem dX5_run_88 : decode cX5_run 88 = .ok (.invokevirtual 157, 3) := by decide +kernel
theorem dX5_run_91 : decode cX5_run 91 = .ok (.astore 5, 2) := by decide +kernel
theorem dX5_run_93 : decode cX5_run 93 = .ok (.aload 5, 2) := by decide +kernel
theorem dX5_run_95 : decode cX5_run 95 = .ok (.iload_n 1, 1) := by decide +kernel
theorem dX5_run_96 : decode cX5_run 96 = .ok (.invokevirtual 161, 3) := by decide +kernel
theorem dX5_run_99 : decode cX5_run 99 = .ok (.istore 6, 2) := by decide +kernel
theorem dX5_run_101 : decode cX5_run 101 = .ok (.iload_n 2, 1) := by decide +kernel
theorem dX5_run_102 : decode cX5_run 102 = .ok (.tableswitch 46 0 2 #[26, 29, 40], 26) := by decide +kernel
theorem dX5_run_128 : decode cX5_run 128 = .ok (.iload 6, 2) := by decide +kernel
theorem dX5_run_130 : decode cX5_run 130 = .ok (.ireturn, 1) := by decide +kernel
theorem dX5_run_131 : decode cX5_run 131 = .ok (.aload 5, 2) := by decide +kernel
theorem dX5_run_133 : decode cX5_run 133 = .ok (.aload 5, 2) := by decide +kernel
theorem dX5_run_135 : decode cX5_run 135 = .ok (.invokevirtual 144, 3) := by decide +kernel
theorem dX5_run_138 : decode cX5_run 138 = .ok (.invokevirtual 148, 3) := by decide +kernel
theorem dX5_run_141 : decode cX5_run 141 = .ok (.ireturn, 1) := by decide +kernel
theorem dX5_run_142 : decode cX5_run 142 = .ok (.aload 5, 2) := by decide +kernel
theorem dX5_run_144 : decode cX5_run 144 = .ok (.invokevirtual 144, 3) := by decide +kernel
theorem dX5_run_147 : decode cX5_run 147 = .ok (.ireturn, 1) := by decide +kernel
theorem dX5_run_148 : decode cX5_run 148 = .ok (.iload 4, 2) := by decide +kernel
theorem dX5_run_150 : decode cX5_run 150 = .ok (.ifCond .eq 16, 3) := by decide +kernel
theorem dX5_run_153 : decode cX5_run 153 = .ok (.aload 5, 2) := by decide +kernel
theorem dX5_run_155 : decode cX5_run 155 = .ok (.iload_n 2, 1) := by decide +kernel
theorem dX5_run_156 : decode cX5_run 156 = .ok (.bipush 20, 2) := by decide +kernel
theorem dX5_run_158 : decode cX5_run 158 = .ok (.isub, 1) := by decide +kernel
theorem dX5_run_159 : decode cX5_run 159 = .ok (.iconst 1, 1) := by decide +kernel
theorem dX5_run_160 : decode cX5_run 160 = .ok (.invokevirtual 120, 3) := by decide +kernel
theorem dX5_run_163 : decode cX5_run 163 = .ok (.goto 13, 3) := by decide +kernel
theorem dX5_run_166 : decode cX5_run 166 = .ok (.aload 5, 2) := by decide +kernel
theorem dX5_run_168 : decode cX5_run 168 = .ok (.iload_n 2, 1) := by decide +kernel
theorem dX5_run_169 : decode cX5_run 169 = .ok (.bipush 10, 2) := by decide +kernel
theorem dX5_run_171 : decode cX5_run 171 = .ok (.isub, 1) := by decide +kernel
theorem dX5_run_172 : decode cX5_run 172 = .ok (.iconst 0, 1) := by decide +kernel
theorem dX5_run_173 : decode cX5_run 173 = .ok (.invokevirtual 120, 3) := by decide +kernel
theorem dX5_run_176 : decode cX5_run 176 = .ok (.ireturn, 1) := by decide +kernel
theorem dX5_when_0 : decode cX5_when 0 = .ok (.iload_n 1, 1) := by decide +kernel
theorem dX5_when_1 : decode cX5_when 1 = .ok (.iconst 0, 1) := by decide +kernel
theorem dX5_when_2 : decode cX5_when 2 = .ok (.sipush 999, 3) := by decide +kernel
theorem dX5_when_5 : decode cX5_when 5 = .ok (.invokestatic 81, 3) := by decide +kernel
theorem dX5_when_8 : decode cX5_when 8 = .ok (.ifCond .ne 6, 3) := by decide +kernel
theorem dX5_when_11 : decode cX5_when 11 = .ok (.bipush (-2), 2) := by decide +kernel
theorem dX5_when_13 : decode cX5_when 13 = .ok (.ireturn, 1) := by decide +kernel
theorem dX5_when_14 : decode cX5_when 14 = .ok (.aload_n 0, 1) := by decide +kernel
theorem dX5_when_15 : decode cX5_when 15 = .ok (.invokevirtual 157, 3) := by decide +kernel
theorem dX5_when_18 : decode cX5_when 18 = .ok (.astore_n 2, 1) := by decide +kernel
theorem dX5_when_19 : decode cX5_when 19 = .ok (.iconst 0, 1) := by decide +kernel
theorem dX5_when_20 : decode cX5_when 20 = .ok (.istore_n 3, 1) := by decide +kernel
theorem dX5_when_21 : decode cX5_when 21 = .ok (.iload_n 3, 1) := by decide +kernel
theorem dX5_when_22 : decode cX5_when 22 = .ok (.bipush 60, 2) := by decide +kernel
theorem dX5_when_24 : decode cX5_when 24 = .ok (.if_icmp .gt 23, 3) := by decide +kernel
theorem dX5_when_27 : decode cX5_when 27 = .ok (.aload_n 2, 1) := by decide +kernel
theorem dX5_when_28 : decode cX5_when 28 = .ok (.aload_n 2, 1) := by decide +kernel
theorem dX5_when_29 : decode cX5_when 29 = .ok (.invokevirtual 144, 3) := by decide +kernel
theorem dX5_when_32 : decode cX5_when 32 = .ok (.invokevirtual 154, 3) := by decide +kernel
theorem dX5_when_35 : decode cX5_when 35 = .ok (.iload_n 1, 1) := by decide +kernel
theorem dX5_when_36 : decode cX5_when 36 = .ok (.if_icmp .ne 5, 3) := by decide +kernel
theorem dX5_when_39 : decode cX5_when 39 = .ok (.iload_n 3, 1) := by decide +kernel
theorem dX5_when_40 : decode cX5_when 40 = .ok (.ireturn, 1) := by decide +kernel
theorem dX5_when_41 : decode cX5_when 41 = .ok (.iinc 3 1, 3) := by decide +kernel
theorem dX5_when_44 : decode cX5_when 44 = .ok (.goto (-23), 3) := by decide +kernel
theorem dX5_when_47 : decode cX5_when 47 = .ok (.iconst (-1), 1) := by decide +kernel
theorem dX5_when_48 : decode cX5_when 48 = .ok (.ireturn, 1) := by decide +kernel
theorem dX5_dial_0 : decode cX5_dial 0 = .ok (.iload_n 1, 1) := by decide +kernel
theorem dX5_dial_1 : decode cX5_dial 1 = .ok (.iconst 0, 1) := by decide +kernel
theorem dX5_dial_2 : decode cX5_dial 2 = .ok (.iconst 4, 1) := by decide +kernel
theorem dX5_dial_3 : decode cX5_dial 3 = .ok (.invokestatic 81, 3) := by decide +kernel
theorem dX5_dial_6 : decode cX5_dial 6 = .ok (.ifCond .ne 6, 3) := by decide +kernel
theorem dX5_dial_9 : decode cX5_dial 9 = .ok (.bipush (-2), 2) := by decide +kernel
theorem dX5_dial_11 : decode cX5_dial 11 = .ok (.ireturn, 1) := by decide +kernel
theorem dX5_dial_12 : decode cX5_dial 12 = .ok (.aload_n 0, 1) := by decide +kernel
theorem dX5_dial_13 : decode cX5_dial 13 = .ok (.getfield 31, 3) := by decide +kernel
theorem dX5_dial_16 : decode cX5_dial 16 = .ok (.aload_n 0, 1) := by decide +kernel
theorem dX5_dial_17 : decode cX5_dial 17 = .ok (.invokevirtual 157, 3) := by decide +kernel
theorem dX5_dial_20 : decode cX5_dial 20 = .ok (.invokevirtual 164, 3) := by decide +kernel
theorem dX5_dial_23 : decode cX5_dial 23 = .ok (.iload_n 1, 1) := by decide +kernel
theorem dX5_dial_24 : decode cX5_dial 24 = .ok (.tableswitch 65 0 3 #[32, 40, 48, 57], 32) := by decide +kernel
theorem dX5_dial_56 : decode cX5_dial 56 = .ok (.aload_n 0, 1) := by decide +kernel
theorem dX5_dial_57 : decode cX5_dial 57 = .ok (.getfield 31, 3) := by decide +kernel
theorem dX5_dial_60 : decode cX5_dial 60 = .ok (.invokevirtual 168, 3) := by decide +kernel
theorem dX5_dial_63 : decode cX5_dial 63 = .ok (.ireturn, 1) := by decide +kernel
theorem dX5_dial_64 : decode cX5_dial 64 = .ok (.aload_n 0, 1) := by decide +kernel
theorem dX5_dial_65 : decode cX5_dial 65 = .ok (.getfield 31, 3) := by decide +kernel
theorem dX5_dial_68 : decode cX5_dial 68 = .ok (.invokevirtual 171, 3) := by decide +kernel
theorem dX5_dial_71 : decode cX5_dial 71 = .ok (.ireturn, 1) := by decide +kernel
theorem dX5_dial_72 : decode cX5_dial 72 = .ok (.aload_n 0, 1) := by decide +kernel
theorem dX5_dial_73 : decode cX5_dial 73 = .ok (.getfield 31, 3) := by decide +kernel
theorem dX5_dial_76 : decode cX5_dial 76 = .ok (.iconst 0, 1) := by decide +kernel
theorem dX5_dial_77 : decode cX5_dial 77 = .ok (.invokevirtual 174, 3) := by decide +kernel
theorem dX5_dial_80 : decode cX5_dial 80 = .ok (.ireturn, 1) := by decide +kernel
theorem dX5_dial_81 : decode cX5_dial 81 = .ok (.aload_n 0, 1) := by decide +kernel
theorem dX5_dial_82 : decode cX5_dial 82 = .ok (.getfield 31, 3) := by decide +kernel
theorem dX5_dial_85 : decode cX5_dial 85 = .ok (.invokevirtual 177, 3) := by decide +kernel
theorem dX5_dial_88 : decode cX5_dial 88 = .ok (.ireturn, 1) := by decide +kernel
theorem dX5_dial_89 : decode cX5_dial 89 = .ok (.aload_n 0, 1) := by decide +kernel
theorem dX5_dial_90 : decode cX5_dial 90 = .ok (.getfield 31, 3) := by decide +kernel
theorem dX5_dial_93 : decode cX5_dial 93 = .ok (.aload_n 0, 1) := by decide +kernel
theorem dX5_dial_94 : decode cX5_dial 94 = .ok (.getfield 31, 3) := by decide +kernel
theorem dX5_dial_97 : decode cX5_dial 97 = .ok (.invokevirtual 177, 3) := by decide +kernel
theorem dX5_dial_100 : decode cX5_dial 100 = .ok (.invokevirtual 180, 3) := by decide +kernel
theorem dX5_dial_103 : decode cX5_dial 103 = .ok (.ireturn, 1) := by decide +kernel
theorem dX5_hush_0 : decode cX5_hush 0 = .ok (.iload_n 1, 1) := by decide +kernel
theorem dX5_hush_1 : decode cX5_hush 1 = .ok (.iconst 0, 1) := by decide +kernel
theorem dX5_hush_2 : decode cX5_hush 2 = .ok (.iconst 1, 1) := by decide +kernel
theorem dX5_hush_3 : decode cX5_hush 3 = .ok (.invokestatic 81, 3) := by decide +kernel
theorem dX5_hush_6 : decode cX5_hush 6 = .ok (.ifCond .ne 6, 3) := by decide +kernel
theorem dX5_hush_9 : decode cX5_hush 9 = .ok (.bipush (-2), 2) := by decide +kernel
theorem dX5_hush_11 : decode cX5_hush 11 = .ok (.ireturn, 1) := by decide +kernel
theorem dX5_hush_12 : decode cX5_hush 12 = .ok (.aload_n 0, 1) := by decide +kernel
theorem dX5_hush_13 : decode cX5_hush 13 = .ok (.getfield 31, 3) := by decide +kernel
theorem dX5_hush_16 : decode cX5_hush 16 = .ok (.aload_n 0, 1) := by decide +kernel
theorem dX5_hush_17 : decode cX5_hush 17 = .ok (.invokevirtual 157, 3) := by decide +kernel
theorem dX5_hush_20 : decode cX5_hush 20 = .ok (.invokevirtual 164, 3) := by decide +kernel
theorem dX5_hush_23 : decode cX5_hush 23 = .ok (.iconst (-1), 1) := by decide +kernel
theorem dX5_hush_24 : decode cX5_hush 24 = .ok (.istore_n 2, 1) := by decide +kernel
theorem dX5_hush_25 : decode cX5_hush 25 = .ok (.aload_n 0, 1) := by decide +kernel
theorem dX5_hush_26 : decode cX5_hush 26 = .ok (.getfield 31, 3) := by decide +kernel
theorem dX5_hush_29 : decode cX5_hush 29 = .ok (.invokevirtual 168, 3) := by decide +kernel
theorem dX5_hush_32 : decode cX5_hush 32 = .ok (.istore_n 3, 1) := by decide +kernel
theorem dX5_hush_33 : decode cX5_hush 33 = .ok (.iconst 0, 1) := by decide +kernel
theorem dX5_hush_34 : decode cX5_hush 34 = .ok (.istore 4, 2) := by decide +kernel
theorem dX5_hush_36 : decode cX5_hush 36 = .ok (.iload 4, 2) := by decide +kernel
theorem dX5_hush_38 : decode cX5_hush 38 = .ok (.aload_n 0, 1) := by decide +kernel
theorem dX5_hush_39 : decode cX5_hush 39 = .ok (.getfield 53, 3) := by decide +kernel
theorem dX5_hush_42 : decode cX5_hush 42 = .ok (.getfield 63, 3) := by decide +kernel
theorem dX5_hush_45 : decode cX5_hush 45 = .ok (.if_icmp .ge 52, 3) := by decide +kernel
theorem dX5_hush_48 : decode cX5_hush 48 = .ok (.aload_n 0, 1) := by decide +kernel
theorem dX5_hush_49 : decode cX5_hush 49 = .ok (.invokevirtual 157, 3) := by decide +kernel
theorem dX5_hush_52 : decode cX5_hush 52 = .ok (.astore 5, 2) := by decide +kernel
theorem dX5_hush_54 : decode cX5_hush 54 = .ok (.aload 5, 2) := by decide +kernel
theorem dX5_hush_56 : decode cX5_hush 56 = .ok (.iload 4, 2) := by decide +kernel
theorem dX5_hush_58 : decode cX5_hush 58 = .ok (.invokevirtual 183, 3) := by decide +kernel
theorem dX5_hush_61 : decode cX5_hush 61 = .ok (.aload_n 0, 1) := by decide +kernel
theorem dX5_hush_62 : decode cX5_hush 62 = .ok (.getfield 31, 3) := by decide +kernel
theorem dX5_hush_65 : decode cX5_hush 65 = .ok (.aload 5, 2) := by decide +kernel
theorem dX5_hush_67 : decode cX5_hush 67 = .ok (.invokevirtual 164, 3) := by decide +kernel
theorem dX5_hush_70 : decode cX5_hush 70 = .ok (.aload_n 0, 1) := by decide +kernel
theorem dX5_hush_71 : decode cX5_hush 71 = .ok (.getfield 31, 3) := by decide +kernel
theorem dX5_hush_74 : decode cX5_hush 74 = .ok (.invokevirtual 168, 3) := by decide +kernel
theorem dX5_hush_77 : decode cX5_hush 77 = .ok (.istore 6, 2) := by decide +kernel
theorem dX5_hush_79 : decode cX5_hush 79 = .ok (.iload 6, 2) := by decide +kernel
theorem dX5_hush_81 : decode cX5_hush 81 = .ok (.iload_n 3, 1) := by decide +kernel
theorem dX5_hush_82 : decode cX5_hush 82 = .ok (.if_icmp .le 9, 3) := by decide +kernel
theorem dX5_hush_85 : decode cX5_hush 85 = .ok (.iload 6, 2) := by decide +kernel
theorem dX5_hush_87 : decode cX5_hush 87 = .ok (.istore_n 3, 1) := by decide +kernel
theorem dX5_hush_88 : decode cX5_hush 88 = .ok (.iload 4, 2) := by decide +kernel
theorem dX5_hush_90 : decode cX5_hush 90 = .ok (.istore_n 2, 1) := by decide +kernel
theorem dX5_hush_91 : decode cX5_hush 91 = .ok (.iinc 4 1, 3) := by decide +kernel
theorem dX5_hush_94 : decode cX5_hush 94 = .ok (.goto (-58), 3) := by decide +kernel
theorem dX5_hush_97 : decode cX5_hush 97 = .ok (.iload_n 1, 1) := by decide +kernel
theorem dX5_hush_98 : decode cX5_hush 98 = .ok (.ifCond .ne 7, 3) := by decide +kernel
theorem dX5_hush_101 : decode cX5_hush 101 = .ok (.iload_n 2, 1) := by decide +kernel
theorem dX5_hush_102 : decode cX5_hush 102 = .ok (.goto 4, 3) := by decide +kernel
theorem dX5_hush_105 : decode cX5_hush 105 = .ok (.iload_n 3, 1) := by decide +kernel
theorem dX5_hush_106 : decode cX5_hush 106 = .ok (.ireturn, 1) := by decide +kernel
theorem dX5_council_0 : decode cX5_council 0 = .ok (.iload_n 1, 1) := by decide +kernel
theorem dX5_council_1 : decode cX5_council 1 = .ok (.iconst 0, 1) := by decide +kernel
theorem dX5_council_2 : decode cX5_council 2 = .ok (.bipush 24, 2) := by decide +kernel
theorem dX5_council_4 : decode cX5_council 4 = .ok (.invokestatic 81, 3) := by decide +kernel
theorem dX5_council_7 : decode cX5_council 7 = .ok (.ifCond .eq 23, 3) := by decide +kernel
theorem dX5_council_10 : decode cX5_council 10 = .ok (.iload_n 2, 1) := by decide +kernel
theorem dX5_council_11 : decode cX5_council 11 = .ok (.iconst 0, 1) := by decide +kernel
theorem dX5_council_12 : decode cX5_council 12 = .ok (.sipush 999, 3) := by decide +kernel
theorem dX5_council_15 : decode cX5_council 15 = .ok (.invokestatic 81, 3) := by decide +kernel
theorem dX5_council_18 : decode cX5_council 18 = .ok (.ifCond .eq 12, 3) := by decide +kernel
theorem dX5_council_21 : decode cX5_council 21 = .ok (.iload_n 3, 1) := by decide +kernel
theorem dX5_council_22 : decode cX5_council 22 = .ok (.iconst 0, 1) := by decide +kernel
theorem dX5_council_23 : decode cX5_council 23 = .ok (.iconst 1, 1) := by decide +kernel
theorem dX5_council_24 : decode cX5_council 24 = .ok (.invokestatic 81, 3) := by decide +kernel
theorem dX5_council_27 : decode cX5_council 27 = .ok (.ifCond .ne 6, 3) := by decide +kernel
theorem dX5_council_30 : decode cX5_council 30 = .ok (.bipush (-2), 2) := by decide +kernel
theorem dX5_council_32 : decode cX5_council 32 = .ok (.ireturn, 1) := by decide +kernel
theorem dX5_council_33 : decode cX5_council 33 = .ok (.iconst (-1), 1) := by decide +kernel
theorem dX5_council_34 : decode cX5_council 34 = .ok (.istore 4, 2) := by decide +kernel
theorem dX5_council_36 : decode cX5_council 36 = .ok (.bipush 7, 2) := by decide +kernel
theorem dX5_council_38 : decode cX5_council 38 = .ok (.istore 5, 2) := by decide +kernel
theorem dX5_council_40 : decode cX5_council 40 = .ok (.iconst 0, 1) := by decide +kernel
theorem dX5_council_41 : decode cX5_council 41 = .ok (.istore 6, 2) := by decide +kernel
theorem dX5_council_43 : decode cX5_council 43 = .ok (.iload 6, 2) := by decide +kernel
theorem dX5_council_45 : decode cX5_council 45 = .ok (.iconst 1, 1) := by decide +kernel
theorem dX5_council_46 : decode cX5_council 46 = .ok (.aload_n 0, 1) := by decide +kernel
theorem dX5_council_47 : decode cX5_council 47 = .ok (.getfield 53, 3) := by decide +kernel
theorem dX5_council_50 : decode cX5_council 50 = .ok (.getfield 63, 3) := by decide +kernel
theorem dX5_council_53 : decode cX5_council 53 = .ok (.ishl, 1) := by decide +kernel
theorem dX5_council_54 : decode cX5_council 54 = .ok (.if_icmp .ge 86, 3) := by decide +kernel
theorem dX5_council_57 : decode cX5_council 57 = .ok (.iload 6, 2) := by decide +kernel
theorem dX5_council_59 : decode cX5_council 59 = .ok (.invokestatic 186, 3) := by decide +kernel
theorem dX5_council_62 : decode cX5_council 62 = .ok (.istore 7, 2) := by decide +kernel
theorem dX5_council_64 : decode cX5_council 64 = .ok (.iload 6, 2) := by decide +kernel
theorem dX5_council_66 : decode cX5_council 66 = .ok (.aload_n 0, 1) := by decide +kernel
theorem dX5_council_67 : decode cX5_council 67 = .ok (.getfield 53, 3) := by decide +kernel
theorem dX5_council_70 : decode cX5_council 70 = .ok (.getfield 151, 3) := by decide +kernel
theorem dX5_council_73 : decode cX5_council 73 = .ok (.iand, 1) := by decide +kernel
theorem dX5_council_74 : decode cX5_council 74 = .ok (.ifCond .ne 60, 3) := by decide +kernel
theorem dX5_council_77 : decode cX5_council 77 = .ok (.iload 7, 2) := by decide +kernel
theorem dX5_council_79 : decode cX5_council 79 = .ok (.iload 5, 2) := by decide +kernel
theorem dX5_council_81 : decode cX5_council 81 = .ok (.if_icmp .lt 6, 3) := by decide +kernel
theorem dX5_council_84 : decode cX5_council 84 = .ok (.goto 50, 3) := by decide +kernel
theorem dX5_council_87 : decode cX5_council 87 = .ok (.aload_n 0, 1) := by decide +kernel
theorem dX5_council_88 : decode cX5_council 88 = .ok (.invokevirtual 157, 3) := by decide +kernel
theorem dX5_council_91 : decode cX5_council 91 = .ok (.astore 8, 2) := by decide +kernel
theorem dX5_council_93 : decode cX5_council 93 = .ok (.aload 8, 2) := by decide +kernel
theorem dX5_council_95 : decode cX5_council 95 = .ok (.dup, 1) := by decide +kernel
theorem dX5_council_96 : decode cX5_council 96 = .ok (.getfield 151, 3) := by decide +kernel
theorem dX5_council_99 : decode cX5_council 99 = .ok (.iload 6, 2) := by decide +kernel
theorem dX5_council_101 : decode cX5_council 101 = .ok (.ior, 1) := by decide +kernel
theorem dX5_council_102 : decode cX5_council 102 = .ok (.putfield 151, 3) := by decide +kernel
theorem dX5_council_105 : decode cX5_council 105 = .ok (.aload 8, 2) := by decide +kernel
theorem dX5_council_107 : decode cX5_council 107 = .ok (.iload_n 1, 1) := by decide +kernel
theorem dX5_council_108 : decode cX5_council 108 = .ok (.invokevirtual 161, 3) := by decide +kernel
theorem dX5_council_111 : decode cX5_council 111 = .ok (.pop, 1) := by decide +kernel
theorem dX5_council_112 : decode cX5_council 112 = .ok (.aload 8, 2) := by decide +kernel
theorem dX5_council_114 : decode cX5_council 114 = .ok (.aload 8, 2) := by decide +kernel
theorem dX5_council_116 : decode cX5_council 116 = .ok (.invokevirtual 144, 3) := by decide +kernel
theorem dX5_council_119 : decode cX5_council 119 = .ok (.invokevirtual 148, 3) := by decide +kernel
theorem dX5_council_122 : decode cX5_council 122 = .ok (.iload_n 2, 1) := by decide +kernel
theorem dX5_council_123 : decode cX5_council 123 = .ok (.if_icmp .ne 11, 3) := by decide +kernel
theorem dX5_council_126 : decode cX5_council 126 = .ok (.iload 6, 2) := by decide +kernel
theorem dX5_council_128 : decode cX5_council 128 = .ok (.istore 4, 2) := by decide +kernel
theorem dX5_council_130 : decode cX5_council 130 = .ok (.iload 7, 2) := by decide +kernel
theorem dX5_council_132 : decode cX5_council 132 = .ok (.istore 5, 2) := by decide +kernel
theorem dX5_council_134 : decode cX5_council 134 = .ok (.iinc 6 1, 3) := by decide +kernel
theorem dX5_council_137 : decode cX5_council 137 = .ok (.goto (-94), 3) := by decide +kernel
theorem dX5_council_140 : decode cX5_council 140 = .ok (.iload 4, 2) := by decide +kernel
theorem dX5_council_142 : decode cX5_council 142 = .ok (.iconst (-1), 1) := by decide +kernel
theorem dX5_council_143 : decode cX5_council 143 = .ok (.if_icmp .ne 5, 3) := by decide +kernel
theorem dX5_council_146 : decode cX5_council 146 = .ok (.iconst (-1), 1) := by decide +kernel
theorem dX5_council_147 : decode cX5_council 147 = .ok (.ireturn, 1) := by decide +kernel
theorem dX5_council_148 : decode cX5_council 148 = .ok (.iload_n 3, 1) := by decide +kernel
theorem dX5_council_149 : decode cX5_council 149 = .ok (.ifCond .ne 8, 3) := by decide +kernel
theorem dX5_council_152 : decode cX5_council 152 = .ok (.iload 4, 2) := by decide +kernel
theorem dX5_council_154 : decode cX5_council 154 = .ok (.goto 5, 3) := by decide +kernel
theorem dX5_council_157 : decode cX5_council 157 = .ok (.iload 5, 2) := by decide +kernel
theorem dX5_council_159 : decode cX5_council 159 = .ok (.ireturn, 1) := by decide +kernel
theorem dX5_lesson_0 : decode cX5_lesson 0 = .ok (.aload_n 0, 1) := by decide +kernel
theorem dX5_lesson_1 : decode cX5_lesson 1 = .ok (.getfield 53, 3) := by decide +kernel
theorem dX5_lesson_4 : decode cX5_lesson 4 = .ok (.iload_n 1, 1) := by decide +kernel
theorem dX5_lesson_5 : decode cX5_lesson 5 = .ok (.invokevirtual 101, 3) := by decide +kernel
theorem dX5_lesson_8 : decode cX5_lesson 8 = .ok (.ifCond .ne 6, 3) := by decide +kernel
theorem dX5_lesson_11 : decode cX5_lesson 11 = .ok (.bipush (-5), 2) := by decide +kernel
theorem dX5_lesson_13 : decode cX5_lesson 13 = .ok (.ireturn, 1) := by decide +kernel
theorem dX5_lesson_14 : decode cX5_lesson 14 = .ok (.iload_n 2, 1) := by decide +kernel
theorem dX5_lesson_15 : decode cX5_lesson 15 = .ok (.iconst 0, 1) := by decide +kernel
theorem dX5_lesson_16 : decode cX5_lesson 16 = .ok (.iconst 1, 1) := by decide +kernel
theorem dX5_lesson_17 : decode cX5_lesson 17 = .ok (.invokestatic 81, 3) := by decide +kernel
theorem dX5_lesson_20 : decode cX5_lesson 20 = .ok (.ifCond .ne 6, 3) := by decide +kernel
theorem dX5_lesson_23 : decode cX5_lesson 23 = .ok (.bipush (-7), 2) := by decide +kernel
theorem dX5_lesson_25 : decode cX5_lesson 25 = .ok (.ireturn, 1) := by decide +kernel
theorem dX5_lesson_26 : decode cX5_lesson 26 = .ok (.iconst 0, 1) := by decide +kernel
theorem dX5_lesson_27 : decode cX5_lesson 27 = .ok (.istore_n 3, 1) := by decide +kernel
theorem dX5_lesson_28 : decode cX5_lesson 28 = .ok (.iconst (-1), 1) := by decide +kernel
theorem dX5_lesson_29 : decode cX5_lesson 29 = .ok (.istore 4, 2) := by decide +kernel
theorem dX5_lesson_31 : decode cX5_lesson 31 = .ok (.iconst 0, 1) := by decide +kernel
theorem dX5_lesson_32 : decode cX5_lesson 32 = .ok (.istore 5, 2) := by decide +kernel
theorem dX5_lesson_34 : decode cX5_lesson 34 = .ok (.iload 5, 2) := by decide +kernel
theorem dX5_lesson_36 : decode cX5_lesson 36 = .ok (.bipush 24, 2) := by decide +kernel
theorem dX5_lesson_38 : decode cX5_lesson 38 = .ok (.if_icmp .ge 46, 3) := by decide +kernel
theorem dX5_lesson_41 : decode cX5_lesson 41 = .ok (.aload_n 0, 1) := by decide +kernel
theorem dX5_lesson_42 : decode cX5_lesson 42 = .ok (.invokevirtual 157, 3) := by decide +kernel
theorem dX5_lesson_45 : decode cX5_lesson 45 = .ok (.astore 6, 2) := by decide +kernel
theorem dX5_lesson_47 : decode cX5_lesson 47 = .ok (.aload 6, 2) := by decide +kernel
theorem dX5_lesson_49 : decode cX5_lesson 49 = .ok (.iload_n 1, 1) := by decide +kernel
theorem dX5_lesson_50 : decode cX5_lesson 50 = .ok (.iload 5, 2) := by decide +kernel
theorem dX5_lesson_52 : decode cX5_lesson 52 = .ok (.invokevirtual 191, 3) := by decide +kernel
theorem dX5_lesson_55 : decode cX5_lesson 55 = .ok (.aload 6, 2) := by decide +kernel
theorem dX5_lesson_57 : decode cX5_lesson 57 = .ok (.bipush 24, 2) := by decide +kernel
theorem dX5_lesson_59 : decode cX5_lesson 59 = .ok (.invokevirtual 161, 3) := by decide +kernel
theorem dX5_lesson_62 : decode cX5_lesson 62 = .ok (.istore 7, 2) := by decide +kernel
theorem dX5_lesson_64 : decode cX5_lesson 64 = .ok (.iload 7, 2) := by decide +kernel
theorem dX5_lesson_66 : decode cX5_lesson 66 = .ok (.iload 4, 2) := by decide +kernel
theorem dX5_lesson_68 : decode cX5_lesson 68 = .ok (.if_icmp .le 10, 3) := by decide +kernel
theorem dX5_lesson_71 : decode cX5_lesson 71 = .ok (.iload 7, 2) := by decide +kernel
theorem dX5_lesson_73 : decode cX5_lesson 73 = .ok (.istore 4, 2) := by decide +kernel
theorem dX5_lesson_75 : decode cX5_lesson 75 = .ok (.iload 5, 2) := by decide +kernel
theorem dX5_lesson_77 : decode cX5_lesson 77 = .ok (.istore_n 3, 1) := by decide +kernel
theorem dX5_lesson_78 : decode cX5_lesson 78 = .ok (.iinc 5 1, 3) := by decide +kernel
theorem dX5_lesson_81 : decode cX5_lesson 81 = .ok (.goto (-47), 3) := by decide +kernel
theorem dX5_lesson_84 : decode cX5_lesson 84 = .ok (.iload_n 2, 1) := by decide +kernel
theorem dX5_lesson_85 : decode cX5_lesson 85 = .ok (.ifCond .ne 7, 3) := by decide +kernel
theorem dX5_lesson_88 : decode cX5_lesson 88 = .ok (.iload_n 3, 1) := by decide +kernel
theorem dX5_lesson_89 : decode cX5_lesson 89 = .ok (.goto 5, 3) := by decide +kernel
theorem dX5_lesson_92 : decode cX5_lesson 92 = .ok (.iload 4, 2) := by decide +kernel
theorem dX5_lesson_94 : decode cX5_lesson 94 = .ok (.ireturn, 1) := by decide +kernel
theorem dX5_pair_0 : decode cX5_pair 0 = .ok (.iload_n 1, 1) := by decide +kernel
theorem dX5_pair_1 : decode cX5_pair 1 = .ok (.iconst 0, 1) := by decide +kernel
theorem dX5_pair_2 : decode cX5_pair 2 = .ok (.iconst 1, 1) := by decide +kernel
theorem dX5_pair_3 : decode cX5_pair 3 = .ok (.invokestatic 81, 3) := by decide +kernel
theorem dX5_pair_6 : decode cX5_pair 6 = .ok (.ifCond .ne 6, 3) := by decide +kernel
theorem dX5_pair_9 : decode cX5_pair 9 = .ok (.bipush (-2), 2) := by decide +kernel
theorem dX5_pair_11 : decode cX5_pair 11 = .ok (.ireturn, 1) := by decide +kernel
theorem dX5_pair_12 : decode cX5_pair 12 = .ok (.aload_n 0, 1) := by decide +kernel
theorem dX5_pair_13 : decode cX5_pair 13 = .ok (.getfield 31, 3) := by decide +kernel
theorem dX5_pair_16 : decode cX5_pair 16 = .ok (.aload_n 0, 1) := by decide +kernel
theorem dX5_pair_17 : decode cX5_pair 17 = .ok (.invokevirtual 157, 3) := by decide +kernel
theorem dX5_pair_20 : decode cX5_pair 20 = .ok (.invokevirtual 164, 3) := by decide +kernel
theorem dX5_pair_23 : decode cX5_pair 23 = .ok (.iconst (-1), 1) := by decide +kernel
theorem dX5_pair_24 : decode cX5_pair 24 = .ok (.istore_n 2, 1) := by decide +kernel
theorem dX5_pair_25 : decode cX5_pair 25 = .ok (.iconst (-1), 1) := by decide +kernel
theorem dX5_pair_26 : decode cX5_pair 26 = .ok (.istore_n 3, 1) := by decide +kernel
theorem dX5_pair_27 : decode cX5_pair 27 = .ok (.iconst 0, 1) := by decide +kernel
theorem dX5_pair_28 : decode cX5_pair 28 = .ok (.istore 4, 2) := by decide +kernel
theorem dX5_pair_30 : decode cX5_pair 30 = .ok (.iload 4, 2) := by decide +kernel
theorem dX5_pair_32 : decode cX5_pair 32 = .ok (.aload_n 0, 1) := by decide +kernel
theorem dX5_pair_33 : decode cX5_pair 33 = .ok (.getfield 53, 3) := by decide +kernel
theorem dX5_pair_36 : decode cX5_pair 36 = .ok (.getfield 63, 3) := by decide +kernel
theorem dX5_pair_39 : decode cX5_pair 39 = .ok (.if_icmp .ge 64, 3) := by decide +kernel
theorem dX5_pair_42 : decode cX5_pair 42 = .ok (.iload 4, 2) := by decide +kernel
theorem dX5_pair_44 : decode cX5_pair 44 = .ok (.iconst 1, 1) := by decide +kernel
theorem dX5_pair_45 : decode cX5_pair 45 = .ok (.iadd, 1) := by decide +kernel
theorem dX5_pair_46 : decode cX5_pair 46 = .ok (.istore 5, 2) := by decide +kernel
theorem dX5_pair_48 : decode cX5_pair 48 = .ok (.iload 5, 2) := by decide +kernel
theorem dX5_pair_50 : decode cX5_pair 50 = .ok (.aload_n 0, 1) := by decide +kernel
theorem dX5_pair_51 : decode cX5_pair 51 = .ok (.getfield 53, 3) := by decide +kernel
theorem dX5_pair_54 : decode cX5_pair 54 = .ok (.getfield 63, 3) := by decide +kernel
theorem dX5_pair_57 : decode cX5_pair 57 = .ok (.if_icmp .ge 40, 3) := by decide +kernel
theorem dX5_pair_60 : decode cX5_pair 60 = .ok (.aload_n 0, 1) := by decide +kernel
theorem dX5_pair_61 : decode cX5_pair 61 = .ok (.getfield 31, 3) := by decide +kernel
theorem dX5_pair_64 : decode cX5_pair 64 = .ok (.iload 4, 2) := by decide +kernel
theorem dX5_pair_66 : decode cX5_pair 66 = .ok (.iload 5, 2) := by decide +kernel
theorem dX5_pair_68 : decode cX5_pair 68 = .ok (.invokevirtual 195, 3) := by decide +kernel
theorem dX5_pair_71 : decode cX5_pair 71 = .ok (.istore 6, 2) := by decide +kernel
theorem dX5_pair_73 : decode cX5_pair 73 = .ok (.iload 6, 2) := by decide +kernel
theorem dX5_pair_75 : decode cX5_pair 75 = .ok (.iload_n 3, 1) := by decide +kernel
theorem dX5_pair_76 : decode cX5_pair 76 = .ok (.if_icmp .le 15, 3) := by decide +kernel
theorem dX5_pair_79 : decode cX5_pair 79 = .ok (.iload 6, 2) := by decide +kernel
theorem dX5_pair_81 : decode cX5_pair 81 = .ok (.istore_n 3, 1) := by decide +kernel
theorem dX5_pair_82 : decode cX5_pair 82 = .ok (.bipush 10, 2) := by decide +kernel
theorem dX5_pair_84 : decode cX5_pair 84 = .ok (.iload 4, 2) := by decide +kernel
theorem dX5_pair_86 : decode cX5_pair 86 = .ok (.imul, 1) := by decide +kernel
theorem dX5_pair_87 : decode cX5_pair 87 = .ok (.iload 5, 2) := by decide +kernel
theorem dX5_pair_89 : decode cX5_pair 89 = .ok (.iadd, 1) := by decide +kernel
theorem dX5_pair_90 : decode cX5_pair 90 = .ok (.istore_n 2, 1) := by decide +kernel
theorem dX5_pair_91 : decode cX5_pair 91 = .ok (.iinc 5 1, 3) := by decide +kernel
theorem dX5_pair_94 : decode cX5_pair 94 = .ok (.goto (-46), 3) := by decide +kernel
theorem dX5_pair_97 : decode cX5_pair 97 = .ok (.iinc 4 1, 3) := by decide +kernel
theorem dX5_pair_100 : decode cX5_pair 100 = .ok (.goto (-70), 3) := by decide +kernel
theorem dX5_pair_103 : decode cX5_pair 103 = .ok (.iload_n 1, 1) := by decide +kernel
theorem dX5_pair_104 : decode cX5_pair 104 = .ok (.ifCond .ne 7, 3) := by decide +kernel
theorem dX5_pair_107 : decode cX5_pair 107 = .ok (.iload_n 2, 1) := by decide +kernel
theorem dX5_pair_108 : decode cX5_pair 108 = .ok (.goto 4, 3) := by decide +kernel
theorem dX5_pair_111 : decode cX5_pair 111 = .ok (.iload_n 3, 1) := by decide +kernel
theorem dX5_pair_112 : decode cX5_pair 112 = .ok (.ireturn, 1) := by decide +kernel
theorem dX5_mean_0 : decode cX5_mean 0 = .ok (.iload_n 1, 1) := by decide +kernel
theorem dX5_mean_1 : decode cX5_mean 1 = .ok (.iconst 1, 1) := by decide +kernel
theorem dX5_mean_2 : decode cX5_mean 2 = .ok (.bipush 48, 2) := by decide +kernel
theorem dX5_mean_4 : decode cX5_mean 4 = .ok (.invokestatic 81, 3) := by decide +kernel
theorem dX5_mean_7 : decode cX5_mean 7 = .ok (.ifCond .eq 12, 3) := by decide +kernel
theorem dX5_mean_10 : decode cX5_mean 10 = .ok (.iload_n 2, 1) := by decide +kernel
theorem dX5_mean_11 : decode cX5_mean 11 = .ok (.iconst 0, 1) := by decide +kernel
theorem dX5_mean_12 : decode cX5_mean 12 = .ok (.iconst 1, 1) := by decide +kernel
theorem dX5_mean_13 : decode cX5_mean 13 = .ok (.invokestatic 81, 3) := by decide +kernel
theorem dX5_mean_16 : decode cX5_mean 16 = .ok (.ifCond .ne 7, 3) := by decide +kernel
theorem dX5_mean_19 : decode cX5_mean 19 = .ok (.ldc2_w 198, 3) := by decide +kernel
theorem dX5_mean_22 : decode cX5_mean 22 = .ok (.lreturn, 1) := by decide +kernel
theorem dX5_mean_23 : decode cX5_mean 23 = .ok (.aload_n 0, 1) := by decide +kernel
theorem dX5_mean_24 : decode cX5_mean 24 = .ok (.invokevirtual 157, 3) := by decide +kernel
theorem dX5_mean_27 : decode cX5_mean 27 = .ok (.iload_n 1, 1) := by decide +kernel
theorem dX5_mean_28 : decode cX5_mean 28 = .ok (.invokevirtual 161, 3) := by decide +kernel
theorem dX5_mean_31 : decode cX5_mean 31 = .ok (.i2l, 1) := by decide +kernel
theorem dX5_mean_32 : decode cX5_mean 32 = .ok (.iload_n 1, 1) := by decide +kernel
theorem dX5_mean_33 : decode cX5_mean 33 = .ok (.i2l, 1) := by decide +kernel
theorem dX5_mean_34 : decode cX5_mean 34 = .ok (.iload_n 2, 1) := by decide +kernel
theorem dX5_mean_35 : decode cX5_mean 35 = .ok (.invokestatic 200, 3) := by decide +kernel
theorem dX5_mean_38 : decode cX5_mean 38 = .ok (.lreturn, 1) := by decide +kernel
theorem dX5_share_0 : decode cX5_share 0 = .ok (.aload_n 0, 1) := by decide +kernel
theorem dX5_share_1 : decode cX5_share 1 = .ok (.getfield 53, 3) := by decide +kernel
theorem dX5_share_4 : decode cX5_share 4 = .ok (.iload_n 1, 1) := by decide +kernel
theorem dX5_share_5 : decode cX5_share 5 = .ok (.invokevirtual 101, 3) := by decide +kernel
theorem dX5_share_8 : decode cX5_share 8 = .ok (.ifCond .eq 12, 3) := by decide +kernel
theorem dX5_share_11 : decode cX5_share 11 = .ok (.iload_n 2, 1) := by decide +kernel
theorem dX5_share_12 : decode cX5_share 12 = .ok (.iconst 0, 1) := by decide +kernel
theorem dX5_share_13 : decode cX5_share 13 = .ok (.iconst 1, 1) := by decide +kernel
theorem dX5_share_14 : decode cX5_share 14 = .ok (.invokestatic 81, 3) := by decide +kernel
theorem dX5_share_17 : decode cX5_share 17 = .ok (.ifCond .ne 7, 3) := by decide +kernel
theorem dX5_share_20 : decode cX5_share 20 = .ok (.ldc2_w 198, 3) := by decide +kernel
theorem dX5_share_23 : decode cX5_share 23 = .ok (.lreturn, 1) := by decide +kernel
theorem dX5_share_24 : decode cX5_share 24 = .ok (.iconst 0, 1) := by decide +kernel
theorem dX5_share_25 : decode cX5_share 25 = .ok (.istore_n 3, 1) := by decide +kernel
theorem dX5_share_26 : decode cX5_share 26 = .ok (.iconst 0, 1) := by decide +kernel
theorem dX5_share_27 : decode cX5_share 27 = .ok (.istore 4, 2) := by decide +kernel
theorem dX5_share_29 : decode cX5_share 29 = .ok (.iload 4, 2) := by decide +kernel
theorem dX5_share_31 : decode cX5_share 31 = .ok (.aload_n 0, 1) := by decide +kernel
theorem dX5_share_32 : decode cX5_share 32 = .ok (.getfield 53, 3) := by decide +kernel
theorem dX5_share_35 : decode cX5_share 35 = .ok (.getfield 63, 3) := by decide +kernel
theorem dX5_share_38 : decode cX5_share 38 = .ok (.if_icmp .ge 22, 3) := by decide +kernel
theorem dX5_share_41 : decode cX5_share 41 = .ok (.iload_n 3, 1) := by decide +kernel
theorem dX5_share_42 : decode cX5_share 42 = .ok (.aload_n 0, 1) := by decide +kernel
theorem dX5_share_43 : decode cX5_share 43 = .ok (.getfield 53, 3) := by decide +kernel
theorem dX5_share_46 : decode cX5_share 46 = .ok (.iload 4, 2) := by decide +kernel
theorem dX5_share_48 : decode cX5_share 48 = .ok (.iconst 1, 1) := by decide +kernel
theorem dX5_share_49 : decode cX5_share 49 = .ok (.invokevirtual 120, 3) := by decide +kernel
theorem dX5_share_52 : decode cX5_share 52 = .ok (.iadd, 1) := by decide +kernel
theorem dX5_share_53 : decode cX5_share 53 = .ok (.istore_n 3, 1) := by decide +kernel
theorem dX5_share_54 : decode cX5_share 54 = .ok (.iinc 4 1, 3) := by decide +kernel
theorem dX5_share_57 : decode cX5_share 57 = .ok (.goto (-28), 3) := by decide +kernel
theorem dX5_share_60 : decode cX5_share 60 = .ok (.iload_n 3, 1) := by decide +kernel
theorem dX5_share_61 : decode cX5_share 61 = .ok (.ifCond .ne 9, 3) := by decide +kernel
theorem dX5_share_64 : decode cX5_share 64 = .ok (.ldc2_w 198, 3) := by decide +kernel
theorem dX5_share_67 : decode cX5_share 67 = .ok (.goto 19, 3) := by decide +kernel
theorem dX5_share_70 : decode cX5_share 70 = .ok (.aload_n 0, 1) := by decide +kernel
theorem dX5_share_71 : decode cX5_share 71 = .ok (.getfield 53, 3) := by decide +kernel
theorem dX5_share_74 : decode cX5_share 74 = .ok (.iload_n 1, 1) := by decide +kernel
theorem dX5_share_75 : decode cX5_share 75 = .ok (.iconst 1, 1) := by decide +kernel
theorem dX5_share_76 : decode cX5_share 76 = .ok (.invokevirtual 120, 3) := by decide +kernel
theorem dX5_share_79 : decode cX5_share 79 = .ok (.i2l, 1) := by decide +kernel
theorem dX5_share_80 : decode cX5_share 80 = .ok (.iload_n 3, 1) := by decide +kernel
theorem dX5_share_81 : decode cX5_share 81 = .ok (.i2l, 1) := by decide +kernel
theorem dX5_share_82 : decode cX5_share 82 = .ok (.iload_n 2, 1) := by decide +kernel
theorem dX5_share_83 : decode cX5_share 83 = .ok (.invokestatic 200, 3) := by decide +kernel
theorem dX5_share_86 : decode cX5_share 86 = .ok (.lreturn, 1) := by decide +kernel
theorem dX5_judge_0 : decode cX5_judge 0 = .ok (.aload_n 0, 1) := by decide +kernel
theorem dX5_judge_1 : decode cX5_judge 1 = .ok (.iload_n 1, 1) := by decide +kernel
theorem dX5_judge_2 : decode cX5_judge 2 = .ok (.invokevirtual 204, 3) := by decide +kernel
theorem dX5_judge_5 : decode cX5_judge 5 = .ok (.istore_n 2, 1) := by decide +kernel
theorem dX5_judge_6 : decode cX5_judge 6 = .ok (.iload_n 2, 1) := by decide +kernel
theorem dX5_judge_7 : decode cX5_judge 7 = .ok (.ifCond .eq 5, 3) := by decide +kernel
theorem dX5_judge_10 : decode cX5_judge 10 = .ok (.iload_n 2, 1) := by decide +kernel
theorem dX5_judge_11 : decode cX5_judge 11 = .ok (.ireturn, 1) := by decide +kernel
theorem dX5_judge_12 : decode cX5_judge 12 = .ok (.aload_n 0, 1) := by decide +kernel
theorem dX5_judge_13 : decode cX5_judge 13 = .ok (.iload_n 1, 1) := by decide +kernel
theorem dX5_judge_14 : decode cX5_judge 14 = .ok (.aload_n 0, 1) := by decide +kernel
theorem dX5_judge_15 : decode cX5_judge 15 = .ok (.invokevirtual 157, 3) := by decide +kernel
theorem dX5_judge_18 : decode cX5_judge 18 = .ok (.invokevirtual 207, 3) := by decide +kernel
theorem dX5_judge_21 : decode cX5_judge 21 = .ok (.ireturn, 1) := by decide +kernel
theorem dX5_kinds_0 : decode cX5_kinds 0 = .ok (.aload_n 0, 1) := by decide +kernel
theorem dX5_kinds_1 : decode cX5_kinds 1 = .ok (.iload_n 1, 1) := by decide +kernel
theorem dX5_kinds_2 : decode cX5_kinds 2 = .ok (.iload_n 2, 1) := by decide +kernel
theorem dX5_kinds_3 : decode cX5_kinds 3 = .ok (.iload_n 3, 1) := by decide +kernel
theorem dX5_kinds_4 : decode cX5_kinds 4 = .ok (.invokevirtual 211, 3) := by decide +kernel
theorem dX5_kinds_7 : decode cX5_kinds 7 = .ok (.istore 4, 2) := by decide +kernel
theorem dX5_kinds_9 : decode cX5_kinds 9 = .ok (.iload 4, 2) := by decide +kernel
theorem dX5_kinds_11 : decode cX5_kinds 11 = .ok (.ifCond .eq 6, 3) := by decide +kernel
theorem dX5_kinds_14 : decode cX5_kinds 14 = .ok (.iload 4, 2) := by decide +kernel
theorem dX5_kinds_16 : decode cX5_kinds 16 = .ok (.ireturn, 1) := by decide +kernel
theorem dX5_kinds_17 : decode cX5_kinds 17 = .ok (.iconst 0, 1) := by decide +kernel
theorem dX5_kinds_18 : decode cX5_kinds 18 = .ok (.istore 5, 2) := by decide +kernel
theorem dX5_kinds_20 : decode cX5_kinds 20 = .ok (.iload_n 3, 1) := by decide +kernel
theorem dX5_kinds_21 : decode cX5_kinds 21 = .ok (.ifCond .ne 8, 3) := by decide +kernel
theorem dX5_kinds_24 : decode cX5_kinds 24 = .ok (.bipush 6, 2) := by decide +kernel
theorem dX5_kinds_26 : decode cX5_kinds 26 = .ok (.goto 5, 3) := by decide +kernel
theorem dX5_kinds_29 : decode cX5_kinds 29 = .ok (.bipush 10, 2) := by decide +kernel
theorem dX5_kinds_31 : decode cX5_kinds 31 = .ok (.istore 6, 2) := by decide +kernel
theorem dX5_kinds_33 : decode cX5_kinds 33 = .ok (.iconst 0, 1) := by decide +kernel
theorem dX5_kinds_34 : decode cX5_kinds 34 = .ok (.istore 7, 2) := by decide +kernel
theorem dX5_kinds_36 : decode cX5_kinds 36 = .ok (.iload 7, 2) := by decide +kernel
theorem dX5_kinds_38 : decode cX5_kinds 38 = .ok (.iload 6, 2) := by decide +kernel
theorem dX5_kinds_40 : decode cX5_kinds 40 = .ok (.if_icmp .ge 60, 3) := by decide +kernel
theorem dX5_kinds_43 : decode cX5_kinds 43 = .ok (.aload_n 0, 1) := by decide +kernel
theorem dX5_kinds_44 : decode cX5_kinds 44 = .ok (.invokevirtual 157, 3) := by decide +kernel
theorem dX5_kinds_47 : decode cX5_kinds 47 = .ok (.astore 8, 2) := by decide +kernel
theorem dX5_kinds_49 : decode cX5_kinds 49 = .ok (.iload_n 3, 1) := by decide +kernel
theorem dX5_kinds_50 : decode cX5_kinds 50 = .ok (.ifCond .ne 15, 3) := by decide +kernel
theorem dX5_kinds_53 : decode cX5_kinds 53 = .ok (.aload 8, 2) := by decide +kernel
theorem dX5_kinds_55 : decode cX5_kinds 55 = .ok (.getfield 128, 3) := by decide +kernel
theorem dX5_kinds_58 : decode cX5_kinds 58 = .ok (.iload_n 2, 1) := by decide +kernel
theorem dX5_kinds_59 : decode cX5_kinds 59 = .ok (.iload 7, 2) := by decide +kernel
theorem dX5_kinds_61 : decode cX5_kinds 61 = .ok (.iastore, 1) := by decide +kernel
theorem dX5_kinds_62 : decode cX5_kinds 62 = .ok (.goto 12, 3) := by decide +kernel
theorem dX5_kinds_65 : decode cX5_kinds 65 = .ok (.aload 8, 2) := by decide +kernel
theorem dX5_kinds_67 : decode cX5_kinds 67 = .ok (.getfield 132, 3) := by decide +kernel
theorem dX5_kinds_70 : decode cX5_kinds 70 = .ok (.iload_n 2, 1) := by decide +kernel
theorem dX5_kinds_71 : decode cX5_kinds 71 = .ok (.iload 7, 2) := by decide +kernel
theorem dX5_kinds_73 : decode cX5_kinds 73 = .ok (.iastore, 1) := by decide +kernel
theorem dX5_kinds_74 : decode cX5_kinds 74 = .ok (.aload_n 0, 1) := by decide +kernel
theorem dX5_kinds_75 : decode cX5_kinds 75 = .ok (.iload_n 1, 1) := by decide +kernel
theorem dX5_kinds_76 : decode cX5_kinds 76 = .ok (.aload 8, 2) := by decide +kernel
theorem dX5_kinds_78 : decode cX5_kinds 78 = .ok (.invokevirtual 207, 3) := by decide +kernel
theorem dX5_kinds_81 : decode cX5_kinds 81 = .ok (.iconst (-1), 1) := by decide +kernel
theorem dX5_kinds_82 : decode cX5_kinds 82 = .ok (.if_icmp .ne 12, 3) := by decide +kernel
theorem dX5_kinds_85 : decode cX5_kinds 85 = .ok (.iload 5, 2) := by decide +kernel
theorem dX5_kinds_87 : decode cX5_kinds 87 = .ok (.iconst 1, 1) := by decide +kernel
theorem dX5_kinds_88 : decode cX5_kinds 88 = .ok (.iload 7, 2) := by decide +kernel
theorem dX5_kinds_90 : decode cX5_kinds 90 = .ok (.ishl, 1) := by decide +kernel
theorem dX5_kinds_91 : decode cX5_kinds 91 = .ok (.ior, 1) := by decide +kernel
theorem dX5_kinds_92 : decode cX5_kinds 92 = .ok (.istore 5, 2) := by decide +kernel
theorem dX5_kinds_94 : decode cX5_kinds 94 = .ok (.iinc 7 1, 3) := by decide +kernel
theorem dX5_kinds_97 : decode cX5_kinds 97 = .ok (.goto (-61), 3) := by decide +kernel
theorem dX5_kinds_100 : decode cX5_kinds 100 = .ok (.iload 5, 2) := by decide +kernel
theorem dX5_kinds_102 : decode cX5_kinds 102 = .ok (.ireturn, 1) := by decide +kernel
theorem dX5_nerves_0 : decode cX5_nerves 0 = .ok (.aload_n 0, 1) := by decide +kernel
theorem dX5_nerves_1 : decode cX5_nerves 1 = .ok (.iload_n 1, 1) := by decide +kernel
theorem dX5_nerves_2 : decode cX5_nerves 2 = .ok (.iload_n 2, 1) := by decide +kernel
theorem dX5_nerves_3 : decode cX5_nerves 3 = .ok (.iload_n 3, 1) := by decide +kernel
theorem dX5_nerves_4 : decode cX5_nerves 4 = .ok (.invokevirtual 211, 3) := by decide +kernel
theorem dX5_nerves_7 : decode cX5_nerves 7 = .ok (.istore 4, 2) := by decide +kernel
theorem dX5_nerves_9 : decode cX5_nerves 9 = .ok (.iload 4, 2) := by decide +kernel
theorem dX5_nerves_11 : decode cX5_nerves 11 = .ok (.ifCond .eq 6, 3) := by decide +kernel
theorem dX5_nerves_14 : decode cX5_nerves 14 = .ok (.iload 4, 2) := by decide +kernel
theorem dX5_nerves_16 : decode cX5_nerves 16 = .ok (.ireturn, 1) := by decide +kernel
theorem dX5_nerves_17 : decode cX5_nerves 17 = .ok (.iconst 0, 1) := by decide +kernel
theorem dX5_nerves_18 : decode cX5_nerves 18 = .ok (.istore 5, 2) := by decide +kernel
theorem dX5_nerves_20 : decode cX5_nerves 20 = .ok (.iconst (-1), 1) := by decide +kernel
theorem dX5_nerves_21 : decode cX5_nerves 21 = .ok (.istore 6, 2) := by decide +kernel
theorem dX5_nerves_23 : decode cX5_nerves 23 = .ok (.iconst 0, 1) := by decide +kernel
theorem dX5_nerves_24 : decode cX5_nerves 24 = .ok (.istore 7, 2) := by decide +kernel
theorem dX5_nerves_26 : decode cX5_nerves 26 = .ok (.iload 7, 2) := by decide +kernel
theorem dX5_nerves_28 : decode cX5_nerves 28 = .ok (.bipush 99, 2) := by decide +kernel
theorem dX5_nerves_30 : decode cX5_nerves 30 = .ok (.if_icmp .gt 53, 3) := by decide +kernel
theorem dX5_nerves_33 : decode cX5_nerves 33 = .ok (.aload_n 0, 1) := by decide +kernel
theorem dX5_nerves_34 : decode cX5_nerves 34 = .ok (.invokevirtual 157, 3) := by decide +kernel
theorem dX5_nerves_37 : decode cX5_nerves 37 = .ok (.astore 8, 2) := by decide +kernel
theorem dX5_nerves_39 : decode cX5_nerves 39 = .ok (.aload 8, 2) := by decide +kernel
theorem dX5_nerves_41 : decode cX5_nerves 41 = .ok (.getfield 214, 3) := by decide +kernel
theorem dX5_nerves_44 : decode cX5_nerves 44 = .ok (.iload_n 2, 1) := by decide +kernel
theorem dX5_nerves_45 : decode cX5_nerves 45 = .ok (.iload 7, 2) := by decide +kernel
theorem dX5_nerves_47 : decode cX5_nerves 47 = .ok (.iastore, 1) := by decide +kernel
theorem dX5_nerves_48 : decode cX5_nerves 48 = .ok (.aload_n 0, 1) := by decide +kernel
theorem dX5_nerves_49 : decode cX5_nerves 49 = .ok (.iload_n 1, 1) := by decide +kernel
theorem dX5_nerves_50 : decode cX5_nerves 50 = .ok (.aload 8, 2) := by decide +kernel
theorem dX5_nerves_52 : decode cX5_nerves 52 = .ok (.invokevirtual 207, 3) := by decide +kernel
theorem dX5_nerves_55 : decode cX5_nerves 55 = .ok (.iconst (-1), 1) := by decide +kernel
theorem dX5_nerves_56 : decode cX5_nerves 56 = .ok (.if_icmp .ne 21, 3) := by decide +kernel
theorem dX5_nerves_59 : decode cX5_nerves 59 = .ok (.iinc 5 1, 3) := by decide +kernel
theorem dX5_nerves_62 : decode cX5_nerves 62 = .ok (.iload 6, 2) := by decide +kernel
theorem dX5_nerves_64 : decode cX5_nerves 64 = .ok (.iconst (-1), 1) := by decide +kernel
theorem dX5_nerves_65 : decode cX5_nerves 65 = .ok (.if_icmp .ne 8, 3) := by decide +kernel
theorem dX5_nerves_68 : decode cX5_nerves 68 = .ok (.iload 7, 2) := by decide +kernel
theorem dX5_nerves_70 : decode cX5_nerves 70 = .ok (.goto 5, 3) := by decide +kernel
theorem dX5_nerves_73 : decode cX5_nerves 73 = .ok (.iload 6, 2) := by decide +kernel
theorem dX5_nerves_75 : decode cX5_nerves 75 = .ok (.istore 6, 2) := by decide +kernel
theorem dX5_nerves_77 : decode cX5_nerves 77 = .ok (.iinc 7 1, 3) := by decide +kernel
theorem dX5_nerves_80 : decode cX5_nerves 80 = .ok (.goto (-54), 3) := by decide +kernel
theorem dX5_nerves_83 : decode cX5_nerves 83 = .ok (.iload_n 3, 1) := by decide +kernel
theorem dX5_nerves_84 : decode cX5_nerves 84 = .ok (.ifCond .ne 8, 3) := by decide +kernel
theorem dX5_nerves_87 : decode cX5_nerves 87 = .ok (.iload 5, 2) := by decide +kernel
theorem dX5_nerves_89 : decode cX5_nerves 89 = .ok (.goto 5, 3) := by decide +kernel
theorem dX5_nerves_92 : decode cX5_nerves 92 = .ok (.iload 6, 2) := by decide +kernel
theorem dX5_nerves_94 : decode cX5_nerves 94 = .ok (.ireturn, 1) := by decide +kernel
theorem dX5_turned_0 : decode cX5_turned 0 = .ok (.aload_n 0, 1) := by decide +kernel
theorem dX5_turned_1 : decode cX5_turned 1 = .ok (.iload_n 1, 1) := by decide +kernel
theorem dX5_turned_2 : decode cX5_turned 2 = .ok (.invokevirtual 204, 3) := by decide +kernel
theorem dX5_turned_5 : decode cX5_turned 5 = .ok (.istore_n 2, 1) := by decide +kernel
theorem dX5_turned_6 : decode cX5_turned 6 = .ok (.iload_n 2, 1) := by decide +kernel
theorem dX5_turned_7 : decode cX5_turned 7 = .ok (.ifCond .eq 5, 3) := by decide +kernel
theorem dX5_turned_10 : decode cX5_turned 10 = .ok (.iload_n 2, 1) := by decide +kernel
theorem dX5_turned_11 : decode cX5_turned 11 = .ok (.ireturn, 1) := by decide +kernel
theorem dX5_turned_12 : decode cX5_turned 12 = .ok (.iconst 0, 1) := by decide +kernel
theorem dX5_turned_13 : decode cX5_turned 13 = .ok (.istore_n 3, 1) := by decide +kernel
theorem dX5_turned_14 : decode cX5_turned 14 = .ok (.iconst 0, 1) := by decide +kernel
theorem dX5_turned_15 : decode cX5_turned 15 = .ok (.istore 4, 2) := by decide +kernel
theorem dX5_turned_17 : decode cX5_turned 17 = .ok (.iload 4, 2) := by decide +kernel
theorem dX5_turned_19 : decode cX5_turned 19 = .ok (.aload_n 0, 1) := by decide +kernel
theorem dX5_turned_20 : decode cX5_turned 20 = .ok (.getfield 53, 3) := by decide +kernel
theorem dX5_turned_23 : decode cX5_turned 23 = .ok (.getfield 63, 3) := by decide +kernel
theorem dX5_turned_26 : decode cX5_turned 26 = .ok (.if_icmp .ge 40, 3) := by decide +kernel
theorem dX5_turned_29 : decode cX5_turned 29 = .ok (.aload_n 0, 1) := by decide +kernel
theorem dX5_turned_30 : decode cX5_turned 30 = .ok (.invokevirtual 157, 3) := by decide +kernel
theorem dX5_turned_33 : decode cX5_turned 33 = .ok (.astore 5, 2) := by decide +kernel
theorem dX5_turned_35 : decode cX5_turned 35 = .ok (.aload 5, 2) := by decide +kernel
theorem dX5_turned_37 : decode cX5_turned 37 = .ok (.iload 4, 2) := by decide +kernel
theorem dX5_turned_39 : decode cX5_turned 39 = .ok (.invokevirtual 183, 3) := by decide +kernel
theorem dX5_turned_42 : decode cX5_turned 42 = .ok (.aload_n 0, 1) := by decide +kernel
theorem dX5_turned_43 : decode cX5_turned 43 = .ok (.iload_n 1, 1) := by decide +kernel
theorem dX5_turned_44 : decode cX5_turned 44 = .ok (.aload 5, 2) := by decide +kernel
theorem dX5_turned_46 : decode cX5_turned 46 = .ok (.invokevirtual 207, 3) := by decide +kernel
theorem dX5_turned_49 : decode cX5_turned 49 = .ok (.iconst (-1), 1) := by decide +kernel
theorem dX5_turned_50 : decode cX5_turned 50 = .ok (.if_icmp .ne 10, 3) := by decide +kernel
theorem dX5_turned_53 : decode cX5_turned 53 = .ok (.iload_n 3, 1) := by decide +kernel
theorem dX5_turned_54 : decode cX5_turned 54 = .ok (.iconst 1, 1) := by decide +kernel
theorem dX5_turned_55 : decode cX5_turned 55 = .ok (.iload 4, 2) := by decide +kernel
theorem dX5_turned_57 : decode cX5_turned 57 = .ok (.ishl, 1) := by decide +kernel
theorem dX5_turned_58 : decode cX5_turned 58 = .ok (.ior, 1) := by decide +kernel
theorem dX5_turned_59 : decode cX5_turned 59 = .ok (.istore_n 3, 1) := by decide +kernel
theorem dX5_turned_60 : decode cX5_turned 60 = .ok (.iinc 4 1, 3) := by decide +kernel
theorem dX5_turned_63 : decode cX5_turned 63 = .ok (.goto (-46), 3) := by decide +kernel
theorem dX5_turned_66 : decode cX5_turned 66 = .ok (.iload_n 3, 1) := by decide +kernel
theorem dX5_turned_67 : decode cX5_turned 67 = .ok (.ireturn, 1) := by decide +kernel
theorem dX5_hours_0 : decode cX5_hours 0 = .ok (.aload_n 0, 1) := by decide +kernel
theorem dX5_hours_1 : decode cX5_hours 1 = .ok (.iload_n 1, 1) := by decide +kernel
theorem dX5_hours_2 : decode cX5_hours 2 = .ok (.invokevirtual 204, 3) := by decide +kernel
theorem dX5_hours_5 : decode cX5_hours 5 = .ok (.istore_n 2, 1) := by decide +kernel
theorem dX5_hours_6 : decode cX5_hours 6 = .ok (.iload_n 2, 1) := by decide +kernel
theorem dX5_hours_7 : decode cX5_hours 7 = .ok (.ifCond .eq 5, 3) := by decide +kernel
theorem dX5_hours_10 : decode cX5_hours 10 = .ok (.iload_n 2, 1) := by decide +kernel
theorem dX5_hours_11 : decode cX5_hours 11 = .ok (.ireturn, 1) := by decide +kernel
theorem dX5_hours_12 : decode cX5_hours 12 = .ok (.iconst 0, 1) := by decide +kernel
theorem dX5_hours_13 : decode cX5_hours 13 = .ok (.istore_n 3, 1) := by decide +kernel
theorem dX5_hours_14 : decode cX5_hours 14 = .ok (.iconst 0, 1) := by decide +kernel
theorem dX5_hours_15 : decode cX5_hours 15 = .ok (.istore 4, 2) := by decide +kernel
theorem dX5_hours_17 : decode cX5_hours 17 = .ok (.iload 4, 2) := by decide +kernel
theorem dX5_hours_19 : decode cX5_hours 19 = .ok (.bipush 24, 2) := by decide +kernel
theorem dX5_hours_21 : decode cX5_hours 21 = .ok (.if_icmp .ge 40, 3) := by decide +kernel
theorem dX5_hours_24 : decode cX5_hours 24 = .ok (.aload_n 0, 1) := by decide +kernel
theorem dX5_hours_25 : decode cX5_hours 25 = .ok (.invokevirtual 157, 3) := by decide +kernel
theorem dX5_hours_28 : decode cX5_hours 28 = .ok (.astore 5, 2) := by decide +kernel
theorem dX5_hours_30 : decode cX5_hours 30 = .ok (.aload 5, 2) := by decide +kernel
theorem dX5_hours_32 : decode cX5_hours 32 = .ok (.iload 4, 2) := by decide +kernel
theorem dX5_hours_34 : decode cX5_hours 34 = .ok (.putfield 66, 3) := by decide +kernel
theorem dX5_hours_37 : decode cX5_hours 37 = .ok (.aload_n 0, 1) := by decide +kernel
theorem dX5_hours_38 : decode cX5_hours 38 = .ok (.iload_n 1, 1) := by decide +kernel
theorem dX5_hours_39 : decode cX5_hours 39 = .ok (.aload 5, 2) := by decide +kernel
theorem dX5_hours_41 : decode cX5_hours 41 = .ok (.invokevirtual 207, 3) := by decide +kernel
theorem dX5_hours_44 : decode cX5_hours 44 = .ok (.iconst (-1), 1) := by decide +kernel
theorem dX5_hours_45 : decode cX5_hours 45 = .ok (.if_icmp .ne 10, 3) := by decide +kernel
theorem dX5_hours_48 : decode cX5_hours 48 = .ok (.iload_n 3, 1) := by decide +kernel
theorem dX5_hours_49 : decode cX5_hours 49 = .ok (.iconst 1, 1) := by decide +kernel
theorem dX5_hours_50 : decode cX5_hours 50 = .ok (.iload 4, 2) := by decide +kernel
theorem dX5_hours_52 : decode cX5_hours 52 = .ok (.ishl, 1) := by decide +kernel
theorem dX5_hours_53 : decode cX5_hours 53 = .ok (.ior, 1) := by decide +kernel
theorem dX5_hours_54 : decode cX5_hours 54 = .ok (.istore_n 3, 1) := by decide +kernel
theorem dX5_hours_55 : decode cX5_hours 55 = .ok (.iinc 4 1, 3) := by decide +kernel
theorem dX5_hours_58 : decode cX5_hours 58 = .ok (.goto (-41), 3) := by decide +kernel
theorem dX5_hours_61 : decode cX5_hours 61 = .ok (.iload_n 3, 1) := by decide +kernel
theorem dX5_hours_62 : decode cX5_hours 62 = .ok (.ireturn, 1) := by decide +kernel
theorem dX5_laws_0 : decode cX5_laws 0 = .ok (.aload_n 0, 1) := by decide +kernel
theorem dX5_laws_1 : decode cX5_laws 1 = .ok (.iload_n 1, 1) := by decide +kernel
theorem dX5_laws_2 : decode cX5_laws 2 = .ok (.invokevirtual 204, 3) := by decide +kernel
theorem dX5_laws_5 : decode cX5_laws 5 = .ok (.istore_n 2, 1) := by decide +kernel
theorem dX5_laws_6 : decode cX5_laws 6 = .ok (.iload_n 2, 1) := by decide +kernel
theorem dX5_laws_7 : decode cX5_laws 7 = .ok (.ifCond .eq 5, 3) := by decide +kernel
theorem dX5_laws_10 : decode cX5_laws 10 = .ok (.iload_n 2, 1) := by decide +kernel
theorem dX5_laws_11 : decode cX5_laws 11 = .ok (.ireturn, 1) := by decide +kernel
theorem dX5_laws_12 : decode cX5_laws 12 = .ok (.iconst 0, 1) := by decide +kernel
theorem dX5_laws_13 : decode cX5_laws 13 = .ok (.istore_n 3, 1) := by decide +kernel
theorem dX5_laws_14 : decode cX5_laws 14 = .ok (.iconst 0, 1) := by decide +kernel
theorem dX5_laws_15 : decode cX5_laws 15 = .ok (.istore 4, 2) := by decide +kernel
theorem dX5_laws_17 : decode cX5_laws 17 = .ok (.iload 4, 2) := by decide +kernel
theorem dX5_laws_19 : decode cX5_laws 19 = .ok (.aload_n 0, 1) := by decide +kernel
theorem dX5_laws_20 : decode cX5_laws 20 = .ok (.getfield 35, 3) := by decide +kernel
theorem dX5_laws_23 : decode cX5_laws 23 = .ok (.if_icmp .ge 54, 3) := by decide +kernel
theorem dX5_laws_26 : decode cX5_laws 26 = .ok (.iload 4, 2) := by decide +kernel
theorem dX5_laws_28 : decode cX5_laws 28 = .ok (.bipush 6, 2) := by decide +kernel
theorem dX5_laws_30 : decode cX5_laws 30 = .ok (.if_icmp .ge 47, 3) := by decide +kernel
theorem dX5_laws_33 : decode cX5_laws 33 = .ok (.aload_n 0, 1) := by decide +kernel
theorem dX5_laws_34 : decode cX5_laws 34 = .ok (.invokevirtual 157, 3) := by decide +kernel
theorem dX5_laws_37 : decode cX5_laws 37 = .ok (.astore 5, 2) := by decide +kernel
theorem dX5_laws_39 : decode cX5_laws 39 = .ok (.aload 5, 2) := by decide +kernel
theorem dX5_laws_41 : decode cX5_laws 41 = .ok (.aload_n 0, 1) := by decide +kernel
theorem dX5_laws_42 : decode cX5_laws 42 = .ok (.getfield 11, 3) := by decide +kernel
theorem dX5_laws_45 : decode cX5_laws 45 = .ok (.iload 4, 2) := by decide +kernel
theorem dX5_laws_47 : decode cX5_laws 47 = .ok (.aaload, 1) := by decide +kernel
theorem dX5_laws_48 : decode cX5_laws 48 = .ok (.iload 4, 2) := by decide +kernel
theorem dX5_laws_50 : decode cX5_laws 50 = .ok (.invokevirtual 97, 3) := by decide +kernel
theorem dX5_laws_53 : decode cX5_laws 53 = .ok (.aload_n 0, 1) := by decide +kernel
theorem dX5_laws_54 : decode cX5_laws 54 = .ok (.iload_n 1, 1) := by decide +kernel
theorem dX5_laws_55 : decode cX5_laws 55 = .ok (.aload 5, 2) := by decide +kernel
theorem dX5_laws_57 : decode cX5_laws 57 = .ok (.invokevirtual 207, 3) := by decide +kernel
theorem dX5_laws_60 : decode cX5_laws 60 = .ok (.iconst (-1), 1) := by decide +kernel
theorem dX5_laws_61 : decode cX5_laws 61 = .ok (.if_icmp .ne 10, 3) := by decide +kernel
theorem dX5_laws_64 : decode cX5_laws 64 = .ok (.iload_n 3, 1) := by decide +kernel
theorem dX5_laws_65 : decode cX5_laws 65 = .ok (.iconst 1, 1) := by decide +kernel
theorem dX5_laws_66 : decode cX5_laws 66 = .ok (.iload 4, 2) := by decide +kernel
theorem dX5_laws_68 : decode cX5_laws 68 = .ok (.ishl, 1) := by decide +kernel
theorem dX5_laws_69 : decode cX5_laws 69 = .ok (.ior, 1) := by decide +kernel
theorem dX5_laws_70 : decode cX5_laws 70 = .ok (.istore_n 3, 1) := by decide +kernel
theorem dX5_laws_71 : decode cX5_laws 71 = .ok (.iinc 4 1, 3) := by decide +kernel
theorem dX5_laws_74 : decode cX5_laws 74 = .ok (.goto (-57), 3) := by decide +kernel
theorem dX5_laws_77 : decode cX5_laws 77 = .ok (.iload_n 3, 1) := by decide +kernel
theorem dX5_laws_78 : decode cX5_laws 78 = .ok (.ireturn, 1) := by decide +kernel
theorem dX5_film_0 : decode cX5_film 0 = .ok (.iload_n 1, 1) := by decide +kernel
theorem dX5_film_1 : decode cX5_film 1 = .ok (.invokestatic 217, 3) := by decide +kernel
theorem dX5_film_4 : decode cX5_film 4 = .ok (.ifCond .ne 6, 3) := by decide +kernel
theorem dX5_film_7 : decode cX5_film 7 = .ok (.bipush (-2), 2) := by decide +kernel
theorem dX5_film_9 : decode cX5_film 9 = .ok (.ireturn, 1) := by decide +kernel
theorem dX5_film_10 : decode cX5_film 10 = .ok (.iload_n 2, 1) := by decide +kernel
theorem dX5_film_11 : decode cX5_film 11 = .ok (.iconst 0, 1) := by decide +kernel
theorem dX5_film_12 : decode cX5_film 12 = .ok (.bipush 24, 2) := by decide +kernel
theorem dX5_film_14 : decode cX5_film 14 = .ok (.invokestatic 81, 3) := by decide +kernel
theorem dX5_film_17 : decode cX5_film 17 = .ok (.ifCond .ne 6, 3) := by decide +kernel
theorem dX5_film_20 : decode cX5_film 20 = .ok (.bipush (-7), 2) := by decide +kernel
theorem dX5_film_22 : decode cX5_film 22 = .ok (.ireturn, 1) := by decide +kernel
theorem dX5_film_23 : decode cX5_film 23 = .ok (.aload_n 0, 1) := by decide +kernel
theorem dX5_film_24 : decode cX5_film 24 = .ok (.getfield 17, 3) := by decide +kernel
theorem dX5_film_27 : decode cX5_film 27 = .ok (.iload_n 1, 1) := by decide +kernel
theorem dX5_film_28 : decode cX5_film 28 = .ok (.aaload, 1) := by decide +kernel
theorem dX5_film_29 : decode cX5_film 29 = .ok (.astore_n 3, 1) := by decide +kernel
theorem dX5_film_30 : decode cX5_film 30 = .ok (.aload_n 3, 1) := by decide +kernel
theorem dX5_film_31 : decode cX5_film 31 = .ok (.iconst 2, 1) := by decide +kernel
theorem dX5_film_32 : decode cX5_film 32 = .ok (.iload_n 2, 1) := by decide +kernel
theorem dX5_film_33 : decode cX5_film 33 = .ok (.invokevirtual 220, 3) := by decide +kernel
theorem dX5_film_36 : decode cX5_film 36 = .ok (.aload_n 0, 1) := by decide +kernel
theorem dX5_film_37 : decode cX5_film 37 = .ok (.invokevirtual 157, 3) := by decide +kernel
theorem dX5_film_40 : decode cX5_film 40 = .ok (.astore 4, 2) := by decide +kernel
theorem dX5_film_42 : decode cX5_film 42 = .ok (.iconst 0, 1) := by decide +kernel
theorem dX5_film_43 : decode cX5_film 43 = .ok (.istore 5, 2) := by decide +kernel
theorem dX5_film_45 : decode cX5_film 45 = .ok (.iload 5, 2) := by decide +kernel
theorem dX5_film_47 : decode cX5_film 47 = .ok (.iload_n 2, 1) := by decide +kernel
theorem dX5_film_48 : decode cX5_film 48 = .ok (.if_icmp .ge 25, 3) := by decide +kernel
theorem dX5_film_51 : decode cX5_film 51 = .ok (.aload_n 3, 1) := by decide +kernel
theorem dX5_film_52 : decode cX5_film 52 = .ok (.iload 5, 2) := by decide +kernel
theorem dX5_film_54 : decode cX5_film 54 = .ok (.aload 4, 2) := by decide +kernel
theorem dX5_film_56 : decode cX5_film 56 = .ok (.aload 4, 2) := by decide +kernel
theorem dX5_film_58 : decode cX5_film 58 = .ok (.invokevirtual 144, 3) := by decide +kernel
theorem dX5_film_61 : decode cX5_film 61 = .ok (.invokevirtual 154, 3) := by decide +kernel
theorem dX5_film_64 : decode cX5_film 64 = .ok (.invokevirtual 223, 3) := by decide +kernel
theorem dX5_film_67 : decode cX5_film 67 = .ok (.iinc 5 1, 3) := by decide +kernel
theorem dX5_film_70 : decode cX5_film 70 = .ok (.goto (-25), 3) := by decide +kernel
theorem dX5_film_73 : decode cX5_film 73 = .ok (.iload_n 2, 1) := by decide +kernel
theorem dX5_film_74 : decode cX5_film 74 = .ok (.ireturn, 1) := by decide +kernel
theorem dX5_drawn_0 : decode cX5_drawn 0 = .ok (.iload_n 1, 1) := by decide +kernel
theorem dX5_drawn_1 : decode cX5_drawn 1 = .ok (.iconst 0, 1) := by decide +kernel
theorem dX5_drawn_2 : decode cX5_drawn 2 = .ok (.ldc 226, 2) := by decide +kernel
theorem dX5_drawn_4 : decode cX5_drawn 4 = .ok (.invokestatic 81, 3) := by decide +kernel
theorem dX5_drawn_7 : decode cX5_drawn 7 = .ok (.ifCond .eq 22, 3) := by decide +kernel
theorem dX5_drawn_10 : decode cX5_drawn 10 = .ok (.iload_n 2, 1) := by decide +kernel
theorem dX5_drawn_11 : decode cX5_drawn 11 = .ok (.iconst 0, 1) := by decide +kernel
theorem dX5_drawn_12 : decode cX5_drawn 12 = .ok (.bipush 48, 2) := by decide +kernel
theorem dX5_drawn_14 : decode cX5_drawn 14 = .ok (.invokestatic 81, 3) := by decide +kernel
theorem dX5_drawn_17 : decode cX5_drawn 17 = .ok (.ifCond .eq 12, 3) := by decide +kernel
theorem dX5_drawn_20 : decode cX5_drawn 20 = .ok (.iload_n 3, 1) := by decide +kernel
theorem dX5_drawn_21 : decode cX5_drawn 21 = .ok (.iconst 0, 1) := by decide +kernel
theorem dX5_drawn_22 : decode cX5_drawn 22 = .ok (.iconst 1, 1) := by decide +kernel
theorem dX5_drawn_23 : decode cX5_drawn 23 = .ok (.invokestatic 81, 3) := by decide +kernel
theorem dX5_drawn_26 : decode cX5_drawn 26 = .ok (.ifCond .ne 6, 3) := by decide +kernel
theorem dX5_drawn_29 : decode cX5_drawn 29 = .ok (.bipush (-2), 2) := by decide +kernel
theorem dX5_drawn_31 : decode cX5_drawn 31 = .ok (.ireturn, 1) := by decide +kernel
theorem dX5_drawn_32 : decode cX5_drawn 32 = .ok (.aload_n 0, 1) := by decide +kernel
theorem dX5_drawn_33 : decode cX5_drawn 33 = .ok (.iload_n 1, 1) := by decide +kernel
theorem dX5_drawn_34 : decode cX5_drawn 34 = .ok (.iload_n 2, 1) := by decide +kernel
theorem dX5_drawn_35 : decode cX5_drawn 35 = .ok (.iload_n 3, 1) := by decide +kernel
theorem dX5_drawn_36 : decode cX5_drawn 36 = .ok (.invokevirtual 227, 3) := by decide +kernel
theorem dX5_drawn_39 : decode cX5_drawn 39 = .ok (.ireturn, 1) := by decide +kernel
theorem dX5_odds_0 : decode cX5_odds 0 = .ok (.iload_n 1, 1) := by decide +kernel
theorem dX5_odds_1 : decode cX5_odds 1 = .ok (.iconst 0, 1) := by decide +kernel
theorem dX5_odds_2 : decode cX5_odds 2 = .ok (.ldc 226, 2) := by decide +kernel
theorem dX5_odds_4 : decode cX5_odds 4 = .ok (.invokestatic 81, 3) := by decide +kernel
theorem dX5_odds_7 : decode cX5_odds 7 = .ok (.ifCond .eq 34, 3) := by decide +kernel
theorem dX5_odds_10 : decode cX5_odds 10 = .ok (.iload_n 2, 1) := by decide +kernel
theorem dX5_odds_11 : decode cX5_odds 11 = .ok (.iconst 1, 1) := by decide +kernel
theorem dX5_odds_12 : decode cX5_odds 12 = .ok (.bipush 40, 2) := by decide +kernel
theorem dX5_odds_14 : decode cX5_odds 14 = .ok (.invokestatic 81, 3) := by decide +kernel
