theorem dX5_odds_17 : decode cX5_odds 17 = .ok (.ifCond .eq 24, 3) := by decide +kernel
theorem dX5_odds_20 : decode cX5_odds 20 = .ok (.iload_n 3, 1) := by decide +kernel
theorem dX5_odds_21 : decode cX5_odds 21 = .ok (.iconst 0, 1) := by decide +kernel
theorem dX5_odds_22 : decode cX5_odds 22 = .ok (.sipush 9999, 3) := by decide +kernel
theorem dX5_odds_25 : decode cX5_odds 25 = .ok (.invokestatic 81, 3) := by decide +kernel
theorem dX5_odds_28 : decode cX5_odds 28 = .ok (.ifCond .eq 13, 3) := by decide +kernel
theorem dX5_odds_31 : decode cX5_odds 31 = .ok (.iload 4, 2) := by decide +kernel
theorem dX5_odds_33 : decode cX5_odds 33 = .ok (.iconst 0, 1) := by decide +kernel
theorem dX5_odds_34 : decode cX5_odds 34 = .ok (.iconst 1, 1) := by decide +kernel
theorem dX5_odds_35 : decode cX5_odds 35 = .ok (.invokestatic 81, 3) := by decide +kernel
theorem dX5_odds_38 : decode cX5_odds 38 = .ok (.ifCond .ne 7, 3) := by decide +kernel
theorem dX5_odds_41 : decode cX5_odds 41 = .ok (.ldc2_w 198, 3) := by decide +kernel
theorem dX5_odds_44 : decode cX5_odds 44 = .ok (.lreturn, 1) := by decide +kernel
theorem dX5_odds_45 : decode cX5_odds 45 = .ok (.iconst 0, 1) := by decide +kernel
theorem dX5_odds_46 : decode cX5_odds 46 = .ok (.istore 5, 2) := by decide +kernel
theorem dX5_odds_48 : decode cX5_odds 48 = .ok (.iconst 0, 1) := by decide +kernel
theorem dX5_odds_49 : decode cX5_odds 49 = .ok (.istore 6, 2) := by decide +kernel
theorem dX5_odds_51 : decode cX5_odds 51 = .ok (.iload 6, 2) := by decide +kernel
theorem dX5_odds_53 : decode cX5_odds 53 = .ok (.iload_n 2, 1) := by decide +kernel
theorem dX5_odds_54 : decode cX5_odds 54 = .ok (.if_icmp .ge 27, 3) := by decide +kernel
theorem dX5_odds_57 : decode cX5_odds 57 = .ok (.aload_n 0, 1) := by decide +kernel
theorem dX5_odds_58 : decode cX5_odds 58 = .ok (.iload_n 1, 1) := by decide +kernel
theorem dX5_odds_59 : decode cX5_odds 59 = .ok (.iload 6, 2) := by decide +kernel
theorem dX5_odds_61 : decode cX5_odds 61 = .ok (.iadd, 1) := by decide +kernel
theorem dX5_odds_62 : decode cX5_odds 62 = .ok (.bipush 12, 2) := by decide +kernel
theorem dX5_odds_64 : decode cX5_odds 64 = .ok (.iconst 0, 1) := by decide +kernel
theorem dX5_odds_65 : decode cX5_odds 65 = .ok (.invokevirtual 227, 3) := by decide +kernel
theorem dX5_odds_68 : decode cX5_odds 68 = .ok (.iload_n 3, 1) := by decide +kernel
theorem dX5_odds_69 : decode cX5_odds 69 = .ok (.if_icmp .lt 6, 3) := by decide +kernel
theorem dX5_odds_72 : decode cX5_odds 72 = .ok (.iinc 5 1, 3) := by decide +kernel
theorem dX5_odds_75 : decode cX5_odds 75 = .ok (.iinc 6 1, 3) := by decide +kernel
theorem dX5_odds_78 : decode cX5_odds 78 = .ok (.goto (-27), 3) := by decide +kernel
theorem dX5_odds_81 : decode cX5_odds 81 = .ok (.iload 5, 2) := by decide +kernel
theorem dX5_odds_83 : decode cX5_odds 83 = .ok (.i2l, 1) := by decide +kernel
theorem dX5_odds_84 : decode cX5_odds 84 = .ok (.iload_n 2, 1) := by decide +kernel
theorem dX5_odds_85 : decode cX5_odds 85 = .ok (.i2l, 1) := by decide +kernel
theorem dX5_odds_86 : decode cX5_odds 86 = .ok (.iload 4, 2) := by decide +kernel
theorem dX5_odds_88 : decode cX5_odds 88 = .ok (.invokestatic 200, 3) := by decide +kernel
theorem dX5_odds_91 : decode cX5_odds 91 = .ok (.lreturn, 1) := by decide +kernel
theorem dX5_image_0 : decode cX5_image 0 = .ok (.aload_n 0, 1) := by decide +kernel
theorem dX5_image_1 : decode cX5_image 1 = .ok (.getfield 60, 3) := by decide +kernel
theorem dX5_image_4 : decode cX5_image 4 = .ok (.aload_n 0, 1) := by decide +kernel
theorem dX5_image_5 : decode cX5_image 5 = .ok (.getfield 53, 3) := by decide +kernel
theorem dX5_image_8 : decode cX5_image 8 = .ok (.invokevirtual 230, 3) := by decide +kernel
theorem dX5_image_11 : decode cX5_image 11 = .ok (.aload_n 0, 1) := by decide +kernel
theorem dX5_image_12 : decode cX5_image 12 = .ok (.iconst 1, 1) := by decide +kernel
theorem dX5_image_13 : decode cX5_image 13 = .ok (.putfield 39, 3) := by decide +kernel
theorem dX5_image_16 : decode cX5_image 16 = .ok (.aload_n 0, 1) := by decide +kernel
theorem dX5_image_17 : decode cX5_image 17 = .ok (.getfield 60, 3) := by decide +kernel
theorem dX5_image_20 : decode cX5_image 20 = .ok (.getfield 63, 3) := by decide +kernel
theorem dX5_image_23 : decode cX5_image 23 = .ok (.ireturn, 1) := by decide +kernel
theorem dX5_back_0 : decode cX5_back 0 = .ok (.aload_n 0, 1) := by decide +kernel
theorem dX5_back_1 : decode cX5_back 1 = .ok (.getfield 39, 3) := by decide +kernel
theorem dX5_back_4 : decode cX5_back 4 = .ok (.ifCond .ne 6, 3) := by decide +kernel
theorem dX5_back_7 : decode cX5_back 7 = .ok (.bipush (-3), 2) := by decide +kernel
theorem dX5_back_9 : decode cX5_back 9 = .ok (.ireturn, 1) := by decide +kernel
theorem dX5_back_10 : decode cX5_back 10 = .ok (.aload_n 0, 1) := by decide +kernel
theorem dX5_back_11 : decode cX5_back 11 = .ok (.getfield 53, 3) := by decide +kernel
theorem dX5_back_14 : decode cX5_back 14 = .ok (.aload_n 0, 1) := by decide +kernel
theorem dX5_back_15 : decode cX5_back 15 = .ok (.getfield 60, 3) := by decide +kernel
theorem dX5_back_18 : decode cX5_back 18 = .ok (.invokevirtual 230, 3) := by decide +kernel
theorem dX5_back_21 : decode cX5_back 21 = .ok (.aload_n 0, 1) := by decide +kernel
theorem dX5_back_22 : decode cX5_back 22 = .ok (.getfield 53, 3) := by decide +kernel
theorem dX5_back_25 : decode cX5_back 25 = .ok (.getfield 63, 3) := by decide +kernel
theorem dX5_back_28 : decode cX5_back 28 = .ok (.ireturn, 1) := by decide +kernel
theorem dX5_sheet_0 : decode cX5_sheet 0 = .ok (.iload_n 1, 1) := by decide +kernel
theorem dX5_sheet_1 : decode cX5_sheet 1 = .ok (.invokestatic 217, 3) := by decide +kernel
theorem dX5_sheet_4 : decode cX5_sheet 4 = .ok (.ifCond .eq 12, 3) := by decide +kernel
theorem dX5_sheet_7 : decode cX5_sheet 7 = .ok (.iload_n 2, 1) := by decide +kernel
theorem dX5_sheet_8 : decode cX5_sheet 8 = .ok (.iconst (-1), 1) := by decide +kernel
theorem dX5_sheet_9 : decode cX5_sheet 9 = .ok (.iconst 2, 1) := by decide +kernel
theorem dX5_sheet_10 : decode cX5_sheet 10 = .ok (.invokestatic 81, 3) := by decide +kernel
theorem dX5_sheet_13 : decode cX5_sheet 13 = .ok (.ifCond .ne 6, 3) := by decide +kernel
theorem dX5_sheet_16 : decode cX5_sheet 16 = .ok (.bipush (-2), 2) := by decide +kernel
theorem dX5_sheet_18 : decode cX5_sheet 18 = .ok (.ireturn, 1) := by decide +kernel
theorem dX5_sheet_19 : decode cX5_sheet 19 = .ok (.iload_n 2, 1) := by decide +kernel
theorem dX5_sheet_20 : decode cX5_sheet 20 = .ok (.iconst (-1), 1) := by decide +kernel
theorem dX5_sheet_21 : decode cX5_sheet 21 = .ok (.if_icmp .ne 16, 3) := by decide +kernel
theorem dX5_sheet_24 : decode cX5_sheet 24 = .ok (.aload_n 0, 1) := by decide +kernel
theorem dX5_sheet_25 : decode cX5_sheet 25 = .ok (.getfield 17, 3) := by decide +kernel
theorem dX5_sheet_28 : decode cX5_sheet 28 = .ok (.iload_n 1, 1) := by decide +kernel
theorem dX5_sheet_29 : decode cX5_sheet 29 = .ok (.aaload, 1) := by decide +kernel
theorem dX5_sheet_30 : decode cX5_sheet 30 = .ok (.iload_n 2, 1) := by decide +kernel
theorem dX5_sheet_31 : decode cX5_sheet 31 = .ok (.iconst 0, 1) := by decide +kernel
theorem dX5_sheet_32 : decode cX5_sheet 32 = .ok (.invokevirtual 220, 3) := by decide +kernel
theorem dX5_sheet_35 : decode cX5_sheet 35 = .ok (.iconst 1, 1) := by decide +kernel
theorem dX5_sheet_36 : decode cX5_sheet 36 = .ok (.ireturn, 1) := by decide +kernel
theorem dX5_sheet_37 : decode cX5_sheet 37 = .ok (.iload_n 3, 1) := by decide +kernel
theorem dX5_sheet_38 : decode cX5_sheet 38 = .ok (.bipush 40, 2) := by decide +kernel
theorem dX5_sheet_40 : decode cX5_sheet 40 = .ok (.if_icmp .le 6, 3) := by decide +kernel
theorem dX5_sheet_43 : decode cX5_sheet 43 = .ok (.bipush (-2), 2) := by decide +kernel
theorem dX5_sheet_45 : decode cX5_sheet 45 = .ok (.ireturn, 1) := by decide +kernel
theorem dX5_sheet_46 : decode cX5_sheet 46 = .ok (.iload_n 3, 1) := by decide +kernel
theorem dX5_sheet_47 : decode cX5_sheet 47 = .ok (.ifCond .ge 6, 3) := by decide +kernel
theorem dX5_sheet_50 : decode cX5_sheet 50 = .ok (.bipush (-14), 2) := by decide +kernel
theorem dX5_sheet_52 : decode cX5_sheet 52 = .ok (.ireturn, 1) := by decide +kernel
theorem dX5_sheet_53 : decode cX5_sheet 53 = .ok (.aload_n 0, 1) := by decide +kernel
theorem dX5_sheet_54 : decode cX5_sheet 54 = .ok (.getfield 17, 3) := by decide +kernel
theorem dX5_sheet_57 : decode cX5_sheet 57 = .ok (.iload_n 1, 1) := by decide +kernel
theorem dX5_sheet_58 : decode cX5_sheet 58 = .ok (.aaload, 1) := by decide +kernel
theorem dX5_sheet_59 : decode cX5_sheet 59 = .ok (.iload_n 2, 1) := by decide +kernel
theorem dX5_sheet_60 : decode cX5_sheet 60 = .ok (.iload_n 3, 1) := by decide +kernel
theorem dX5_sheet_61 : decode cX5_sheet 61 = .ok (.invokevirtual 220, 3) := by decide +kernel
theorem dX5_sheet_64 : decode cX5_sheet 64 = .ok (.iconst 1, 1) := by decide +kernel
theorem dX5_sheet_65 : decode cX5_sheet 65 = .ok (.ireturn, 1) := by decide +kernel
theorem dX5_cell_0 : decode cX5_cell 0 = .ok (.iload_n 1, 1) := by decide +kernel
theorem dX5_cell_1 : decode cX5_cell 1 = .ok (.invokestatic 217, 3) := by decide +kernel
theorem dX5_cell_4 : decode cX5_cell 4 = .ok (.ifCond .ne 6, 3) := by decide +kernel
theorem dX5_cell_7 : decode cX5_cell 7 = .ok (.bipush (-2), 2) := by decide +kernel
theorem dX5_cell_9 : decode cX5_cell 9 = .ok (.ireturn, 1) := by decide +kernel
theorem dX5_cell_10 : decode cX5_cell 10 = .ok (.aload_n 0, 1) := by decide +kernel
theorem dX5_cell_11 : decode cX5_cell 11 = .ok (.getfield 17, 3) := by decide +kernel
theorem dX5_cell_14 : decode cX5_cell 14 = .ok (.iload_n 1, 1) := by decide +kernel
theorem dX5_cell_15 : decode cX5_cell 15 = .ok (.aaload, 1) := by decide +kernel
theorem dX5_cell_16 : decode cX5_cell 16 = .ok (.astore 4, 2) := by decide +kernel
theorem dX5_cell_18 : decode cX5_cell 18 = .ok (.aload 4, 2) := by decide +kernel
theorem dX5_cell_20 : decode cX5_cell 20 = .ok (.invokevirtual 232, 3) := by decide +kernel
theorem dX5_cell_23 : decode cX5_cell 23 = .ok (.ifCond .eq 6, 3) := by decide +kernel
theorem dX5_cell_26 : decode cX5_cell 26 = .ok (.bipush (-11), 2) := by decide +kernel
theorem dX5_cell_28 : decode cX5_cell 28 = .ok (.ireturn, 1) := by decide +kernel
theorem dX5_cell_29 : decode cX5_cell 29 = .ok (.aload 4, 2) := by decide +kernel
theorem dX5_cell_31 : decode cX5_cell 31 = .ok (.iload_n 2, 1) := by decide +kernel
theorem dX5_cell_32 : decode cX5_cell 32 = .ok (.iconst 1, 1) := by decide +kernel
theorem dX5_cell_33 : decode cX5_cell 33 = .ok (.invokevirtual 236, 3) := by decide +kernel
theorem dX5_cell_36 : decode cX5_cell 36 = .ok (.ifCond .ne 6, 3) := by decide +kernel
theorem dX5_cell_39 : decode cX5_cell 39 = .ok (.bipush (-12), 2) := by decide +kernel
theorem dX5_cell_41 : decode cX5_cell 41 = .ok (.ireturn, 1) := by decide +kernel
theorem dX5_cell_42 : decode cX5_cell 42 = .ok (.aload 4, 2) := by decide +kernel
theorem dX5_cell_44 : decode cX5_cell 44 = .ok (.iload_n 2, 1) := by decide +kernel
theorem dX5_cell_45 : decode cX5_cell 45 = .ok (.iload_n 3, 1) := by decide +kernel
theorem dX5_cell_46 : decode cX5_cell 46 = .ok (.invokevirtual 223, 3) := by decide +kernel
theorem dX5_cell_49 : decode cX5_cell 49 = .ok (.iconst 1, 1) := by decide +kernel
theorem dX5_cell_50 : decode cX5_cell 50 = .ok (.ireturn, 1) := by decide +kernel
theorem dX5_copy_0 : decode cX5_copy 0 = .ok (.iload_n 1, 1) := by decide +kernel
theorem dX5_copy_1 : decode cX5_copy 1 = .ok (.invokestatic 217, 3) := by decide +kernel
theorem dX5_copy_4 : decode cX5_copy 4 = .ok (.ifCond .eq 10, 3) := by decide +kernel
theorem dX5_copy_7 : decode cX5_copy 7 = .ok (.iload_n 3, 1) := by decide +kernel
theorem dX5_copy_8 : decode cX5_copy 8 = .ok (.invokestatic 217, 3) := by decide +kernel
theorem dX5_copy_11 : decode cX5_copy 11 = .ok (.ifCond .ne 6, 3) := by decide +kernel
theorem dX5_copy_14 : decode cX5_copy 14 = .ok (.bipush (-2), 2) := by decide +kernel
theorem dX5_copy_16 : decode cX5_copy 16 = .ok (.ireturn, 1) := by decide +kernel
theorem dX5_copy_17 : decode cX5_copy 17 = .ok (.aload_n 0, 1) := by decide +kernel
theorem dX5_copy_18 : decode cX5_copy 18 = .ok (.getfield 17, 3) := by decide +kernel
theorem dX5_copy_21 : decode cX5_copy 21 = .ok (.iload_n 1, 1) := by decide +kernel
theorem dX5_copy_22 : decode cX5_copy 22 = .ok (.aaload, 1) := by decide +kernel
theorem dX5_copy_23 : decode cX5_copy 23 = .ok (.astore 6, 2) := by decide +kernel
theorem dX5_copy_25 : decode cX5_copy 25 = .ok (.aload_n 0, 1) := by decide +kernel
theorem dX5_copy_26 : decode cX5_copy 26 = .ok (.getfield 17, 3) := by decide +kernel
theorem dX5_copy_29 : decode cX5_copy 29 = .ok (.iload_n 3, 1) := by decide +kernel
theorem dX5_copy_30 : decode cX5_copy 30 = .ok (.aaload, 1) := by decide +kernel
theorem dX5_copy_31 : decode cX5_copy 31 = .ok (.astore 7, 2) := by decide +kernel
theorem dX5_copy_33 : decode cX5_copy 33 = .ok (.aload 6, 2) := by decide +kernel
theorem dX5_copy_35 : decode cX5_copy 35 = .ok (.invokevirtual 232, 3) := by decide +kernel
theorem dX5_copy_38 : decode cX5_copy 38 = .ok (.ifCond .ne 11, 3) := by decide +kernel
theorem dX5_copy_41 : decode cX5_copy 41 = .ok (.aload 7, 2) := by decide +kernel
theorem dX5_copy_43 : decode cX5_copy 43 = .ok (.invokevirtual 232, 3) := by decide +kernel
theorem dX5_copy_46 : decode cX5_copy 46 = .ok (.ifCond .eq 6, 3) := by decide +kernel
theorem dX5_copy_49 : decode cX5_copy 49 = .ok (.bipush (-11), 2) := by decide +kernel
theorem dX5_copy_51 : decode cX5_copy 51 = .ok (.ireturn, 1) := by decide +kernel
theorem dX5_copy_52 : decode cX5_copy 52 = .ok (.aload 6, 2) := by decide +kernel
theorem dX5_copy_54 : decode cX5_copy 54 = .ok (.getfield 239, 3) := by decide +kernel
theorem dX5_copy_57 : decode cX5_copy 57 = .ok (.aload 7, 2) := by decide +kernel
theorem dX5_copy_59 : decode cX5_copy 59 = .ok (.getfield 239, 3) := by decide +kernel
theorem dX5_copy_62 : decode cX5_copy 62 = .ok (.if_icmp .eq 6, 3) := by decide +kernel
theorem dX5_copy_65 : decode cX5_copy 65 = .ok (.bipush (-13), 2) := by decide +kernel
theorem dX5_copy_67 : decode cX5_copy 67 = .ok (.ireturn, 1) := by decide +kernel
theorem dX5_copy_68 : decode cX5_copy 68 = .ok (.aload 6, 2) := by decide +kernel
theorem dX5_copy_70 : decode cX5_copy 70 = .ok (.iload_n 2, 1) := by decide +kernel
theorem dX5_copy_71 : decode cX5_copy 71 = .ok (.iload 5, 2) := by decide +kernel
theorem dX5_copy_73 : decode cX5_copy 73 = .ok (.invokevirtual 236, 3) := by decide +kernel
theorem dX5_copy_76 : decode cX5_copy 76 = .ok (.ifCond .eq 15, 3) := by decide +kernel
theorem dX5_copy_79 : decode cX5_copy 79 = .ok (.aload 7, 2) := by decide +kernel
theorem dX5_copy_81 : decode cX5_copy 81 = .ok (.iload 4, 2) := by decide +kernel
theorem dX5_copy_83 : decode cX5_copy 83 = .ok (.iload 5, 2) := by decide +kernel
theorem dX5_copy_85 : decode cX5_copy 85 = .ok (.invokevirtual 236, 3) := by decide +kernel
theorem dX5_copy_88 : decode cX5_copy 88 = .ok (.ifCond .ne 6, 3) := by decide +kernel
theorem dX5_copy_91 : decode cX5_copy 91 = .ok (.bipush (-12), 2) := by decide +kernel
theorem dX5_copy_93 : decode cX5_copy 93 = .ok (.ireturn, 1) := by decide +kernel
theorem dX5_copy_94 : decode cX5_copy 94 = .ok (.aload 6, 2) := by decide +kernel
theorem dX5_copy_96 : decode cX5_copy 96 = .ok (.getfield 242, 3) := by decide +kernel
theorem dX5_copy_99 : decode cX5_copy 99 = .ok (.iload_n 2, 1) := by decide +kernel
theorem dX5_copy_100 : decode cX5_copy 100 = .ok (.aload 7, 2) := by decide +kernel
theorem dX5_copy_102 : decode cX5_copy 102 = .ok (.getfield 242, 3) := by decide +kernel
theorem dX5_copy_105 : decode cX5_copy 105 = .ok (.iload 4, 2) := by decide +kernel
theorem dX5_copy_107 : decode cX5_copy 107 = .ok (.iload 5, 2) := by decide +kernel
theorem dX5_copy_109 : decode cX5_copy 109 = .ok (.invokestatic 245, 3) := by decide +kernel
theorem dX5_copy_112 : decode cX5_copy 112 = .ok (.iload 5, 2) := by decide +kernel
theorem dX5_copy_114 : decode cX5_copy 114 = .ok (.ireturn, 1) := by decide +kernel
theorem dX5_townBy_0 : decode cX5_townBy 0 = .ok (.iload_n 1, 1) := by decide +kernel
theorem dX5_townBy_1 : decode cX5_townBy 1 = .ok (.invokestatic 217, 3) := by decide +kernel
theorem dX5_townBy_4 : decode cX5_townBy 4 = .ok (.ifCond .eq 23, 3) := by decide +kernel
theorem dX5_townBy_7 : decode cX5_townBy 7 = .ok (.iload_n 2, 1) := by decide +kernel
theorem dX5_townBy_8 : decode cX5_townBy 8 = .ok (.iconst 0, 1) := by decide +kernel
theorem dX5_townBy_9 : decode cX5_townBy 9 = .ok (.iconst 2, 1) := by decide +kernel
theorem dX5_townBy_10 : decode cX5_townBy 10 = .ok (.invokestatic 81, 3) := by decide +kernel
theorem dX5_townBy_13 : decode cX5_townBy 13 = .ok (.ifCond .eq 14, 3) := by decide +kernel
theorem dX5_townBy_16 : decode cX5_townBy 16 = .ok (.iload 4, 2) := by decide +kernel
theorem dX5_townBy_18 : decode cX5_townBy 18 = .ok (.iconst 0, 1) := by decide +kernel
theorem dX5_townBy_19 : decode cX5_townBy 19 = .ok (.bipush 6, 2) := by decide +kernel
theorem dX5_townBy_21 : decode cX5_townBy 21 = .ok (.invokestatic 81, 3) := by decide +kernel
theorem dX5_townBy_24 : decode cX5_townBy 24 = .ok (.ifCond .ne 6, 3) := by decide +kernel
theorem dX5_townBy_27 : decode cX5_townBy 27 = .ok (.bipush (-2), 2) := by decide +kernel
theorem dX5_townBy_29 : decode cX5_townBy 29 = .ok (.ireturn, 1) := by decide +kernel
theorem dX5_townBy_30 : decode cX5_townBy 30 = .ok (.aload_n 0, 1) := by decide +kernel
theorem dX5_townBy_31 : decode cX5_townBy 31 = .ok (.getfield 17, 3) := by decide +kernel
theorem dX5_townBy_34 : decode cX5_townBy 34 = .ok (.iload_n 1, 1) := by decide +kernel
theorem dX5_townBy_35 : decode cX5_townBy 35 = .ok (.aaload, 1) := by decide +kernel
theorem dX5_townBy_36 : decode cX5_townBy 36 = .ok (.astore 5, 2) := by decide +kernel
theorem dX5_townBy_38 : decode cX5_townBy 38 = .ok (.aload 5, 2) := by decide +kernel
theorem dX5_townBy_40 : decode cX5_townBy 40 = .ok (.invokevirtual 232, 3) := by decide +kernel
theorem dX5_townBy_43 : decode cX5_townBy 43 = .ok (.ifCond .eq 6, 3) := by decide +kernel
theorem dX5_townBy_46 : decode cX5_townBy 46 = .ok (.bipush (-11), 2) := by decide +kernel
theorem dX5_townBy_48 : decode cX5_townBy 48 = .ok (.ireturn, 1) := by decide +kernel
theorem dX5_townBy_49 : decode cX5_townBy 49 = .ok (.aload 5, 2) := by decide +kernel
theorem dX5_townBy_51 : decode cX5_townBy 51 = .ok (.getfield 239, 3) := by decide +kernel
theorem dX5_townBy_54 : decode cX5_townBy 54 = .ok (.iload_n 2, 1) := by decide +kernel
theorem dX5_townBy_55 : decode cX5_townBy 55 = .ok (.if_icmp .eq 6, 3) := by decide +kernel
theorem dX5_townBy_58 : decode cX5_townBy 58 = .ok (.bipush (-13), 2) := by decide +kernel
theorem dX5_townBy_60 : decode cX5_townBy 60 = .ok (.ireturn, 1) := by decide +kernel
theorem dX5_townBy_61 : decode cX5_townBy 61 = .ok (.iconst 0, 1) := by decide +kernel
theorem dX5_townBy_62 : decode cX5_townBy 62 = .ok (.istore 6, 2) := by decide +kernel
theorem dX5_townBy_64 : decode cX5_townBy 64 = .ok (.iconst 0, 1) := by decide +kernel
theorem dX5_townBy_65 : decode cX5_townBy 65 = .ok (.istore 7, 2) := by decide +kernel
theorem dX5_townBy_67 : decode cX5_townBy 67 = .ok (.iload 7, 2) := by decide +kernel
theorem dX5_townBy_69 : decode cX5_townBy 69 = .ok (.iload 4, 2) := by decide +kernel
theorem dX5_townBy_71 : decode cX5_townBy 71 = .ok (.if_icmp .ge 72, 3) := by decide +kernel
theorem dX5_townBy_74 : decode cX5_townBy 74 = .ok (.iload_n 3, 1) := by decide +kernel
theorem dX5_townBy_75 : decode cX5_townBy 75 = .ok (.iconst 3, 1) := by decide +kernel
theorem dX5_townBy_76 : decode cX5_townBy 76 = .ok (.iload 7, 2) := by decide +kernel
theorem dX5_townBy_78 : decode cX5_townBy 78 = .ok (.imul, 1) := by decide +kernel
theorem dX5_townBy_79 : decode cX5_townBy 79 = .ok (.iadd, 1) := by decide +kernel
theorem dX5_townBy_80 : decode cX5_townBy 80 = .ok (.istore 8, 2) := by decide +kernel
theorem dX5_townBy_82 : decode cX5_townBy 82 = .ok (.aload 5, 2) := by decide +kernel
theorem dX5_townBy_84 : decode cX5_townBy 84 = .ok (.iload 8, 2) := by decide +kernel
theorem dX5_townBy_86 : decode cX5_townBy 86 = .ok (.iconst 3, 1) := by decide +kernel
theorem dX5_townBy_87 : decode cX5_townBy 87 = .ok (.invokevirtual 236, 3) := by decide +kernel
theorem dX5_townBy_90 : decode cX5_townBy 90 = .ok (.ifCond .ne 6, 3) := by decide +kernel
theorem dX5_townBy_93 : decode cX5_townBy 93 = .ok (.bipush (-12), 2) := by decide +kernel
theorem dX5_townBy_95 : decode cX5_townBy 95 = .ok (.ireturn, 1) := by decide +kernel
theorem dX5_townBy_96 : decode cX5_townBy 96 = .ok (.aload_n 0, 1) := by decide +kernel
theorem dX5_townBy_97 : decode cX5_townBy 97 = .ok (.getfield 53, 3) := by decide +kernel
theorem dX5_townBy_100 : decode cX5_townBy 100 = .ok (.aload 5, 2) := by decide +kernel
theorem dX5_townBy_102 : decode cX5_townBy 102 = .ok (.getfield 242, 3) := by decide +kernel
theorem dX5_townBy_105 : decode cX5_townBy 105 = .ok (.iload 8, 2) := by decide +kernel
theorem dX5_townBy_107 : decode cX5_townBy 107 = .ok (.iaload, 1) := by decide +kernel
theorem dX5_townBy_108 : decode cX5_townBy 108 = .ok (.aload 5, 2) := by decide +kernel
theorem dX5_townBy_110 : decode cX5_townBy 110 = .ok (.getfield 242, 3) := by decide +kernel
theorem dX5_townBy_113 : decode cX5_townBy 113 = .ok (.iload 8, 2) := by decide +kernel
theorem dX5_townBy_115 : decode cX5_townBy 115 = .ok (.iconst 1, 1) := by decide +kernel
theorem dX5_townBy_116 : decode cX5_townBy 116 = .ok (.iadd, 1) := by decide +kernel
theorem dX5_townBy_117 : decode cX5_townBy 117 = .ok (.iaload, 1) := by decide +kernel
theorem dX5_townBy_118 : decode cX5_townBy 118 = .ok (.aload 5, 2) := by decide +kernel
theorem dX5_townBy_120 : decode cX5_townBy 120 = .ok (.getfield 242, 3) := by decide +kernel
theorem dX5_townBy_123 : decode cX5_townBy 123 = .ok (.iload 8, 2) := by decide +kernel
theorem dX5_townBy_125 : decode cX5_townBy 125 = .ok (.iconst 2, 1) := by decide +kernel
theorem dX5_townBy_126 : decode cX5_townBy 126 = .ok (.iadd, 1) := by decide +kernel
theorem dX5_townBy_127 : decode cX5_townBy 127 = .ok (.iaload, 1) := by decide +kernel
theorem dX5_townBy_128 : decode cX5_townBy 128 = .ok (.invokevirtual 112, 3) := by decide +kernel
theorem dX5_townBy_131 : decode cX5_townBy 131 = .ok (.ifCond .lt 6, 3) := by decide +kernel
theorem dX5_townBy_134 : decode cX5_townBy 134 = .ok (.iinc 6 1, 3) := by decide +kernel
theorem dX5_townBy_137 : decode cX5_townBy 137 = .ok (.iinc 7 1, 3) := by decide +kernel
theorem dX5_townBy_140 : decode cX5_townBy 140 = .ok (.goto (-73), 3) := by decide +kernel
theorem dX5_townBy_143 : decode cX5_townBy 143 = .ok (.iload 6, 2) := by decide +kernel
theorem dX5_townBy_145 : decode cX5_townBy 145 = .ok (.ireturn, 1) := by decide +kernel
theorem dX5_taken_0 : decode cX5_taken 0 = .ok (.iload_n 2, 1) := by decide +kernel
theorem dX5_taken_1 : decode cX5_taken 1 = .ok (.iconst 0, 1) := by decide +kernel
theorem dX5_taken_2 : decode cX5_taken 2 = .ok (.bipush 6, 2) := by decide +kernel
theorem dX5_taken_4 : decode cX5_taken 4 = .ok (.invokestatic 81, 3) := by decide +kernel
theorem dX5_taken_7 : decode cX5_taken 7 = .ok (.ifCond .ne 6, 3) := by decide +kernel
theorem dX5_taken_10 : decode cX5_taken 10 = .ok (.bipush (-2), 2) := by decide +kernel
theorem dX5_taken_12 : decode cX5_taken 12 = .ok (.ireturn, 1) := by decide +kernel
theorem dX5_taken_13 : decode cX5_taken 13 = .ok (.iload_n 1, 1) := by decide +kernel
theorem dX5_taken_14 : decode cX5_taken 14 = .ok (.iconst 0, 1) := by decide +kernel
theorem dX5_taken_15 : decode cX5_taken 15 = .ok (.bipush 11, 2) := by decide +kernel
theorem dX5_taken_17 : decode cX5_taken 17 = .ok (.invokestatic 81, 3) := by decide +kernel
theorem dX5_taken_20 : decode cX5_taken 20 = .ok (.ifCond .ne 6, 3) := by decide +kernel
theorem dX5_taken_23 : decode cX5_taken 23 = .ok (.bipush (-12), 2) := by decide +kernel
theorem dX5_taken_25 : decode cX5_taken 25 = .ok (.ireturn, 1) := by decide +kernel
theorem dX5_taken_26 : decode cX5_taken 26 = .ok (.iload_n 1, 1) := by decide +kernel
theorem dX5_taken_27 : decode cX5_taken 27 = .ok (.bipush 6, 2) := by decide +kernel
theorem dX5_taken_29 : decode cX5_taken 29 = .ok (.if_icmp .lt 7, 3) := by decide +kernel
theorem dX5_taken_32 : decode cX5_taken 32 = .ok (.iconst 1, 1) := by decide +kernel
theorem dX5_taken_33 : decode cX5_taken 33 = .ok (.goto 4, 3) := by decide +kernel
theorem dX5_taken_36 : decode cX5_taken 36 = .ok (.iconst 0, 1) := by decide +kernel
theorem dX5_taken_37 : decode cX5_taken 37 = .ok (.istore_n 3, 1) := by decide +kernel
theorem dX5_taken_38 : decode cX5_taken 38 = .ok (.iload_n 3, 1) := by decide +kernel
theorem dX5_taken_39 : decode cX5_taken 39 = .ok (.ifCond .eq 10, 3) := by decide +kernel
theorem dX5_taken_42 : decode cX5_taken 42 = .ok (.iload_n 1, 1) := by decide +kernel
theorem dX5_taken_43 : decode cX5_taken 43 = .ok (.bipush 6, 2) := by decide +kernel
theorem dX5_taken_45 : decode cX5_taken 45 = .ok (.isub, 1) := by decide +kernel
theorem dX5_taken_46 : decode cX5_taken 46 = .ok (.goto 4, 3) := by decide +kernel
theorem dX5_taken_49 : decode cX5_taken 49 = .ok (.iload_n 1, 1) := by decide +kernel
theorem dX5_taken_50 : decode cX5_taken 50 = .ok (.istore 4, 2) := by decide +kernel
theorem dX5_taken_52 : decode cX5_taken 52 = .ok (.aload_n 0, 1) := by decide +kernel
theorem dX5_taken_53 : decode cX5_taken 53 = .ok (.getfield 53, 3) := by decide +kernel
theorem dX5_taken_56 : decode cX5_taken 56 = .ok (.iload 4, 2) := by decide +kernel
theorem dX5_taken_58 : decode cX5_taken 58 = .ok (.invokevirtual 101, 3) := by decide +kernel
theorem dX5_taken_61 : decode cX5_taken 61 = .ok (.ifCond .ne 6, 3) := by decide +kernel
theorem dX5_taken_64 : decode cX5_taken 64 = .ok (.bipush (-11), 2) := by decide +kernel
theorem dX5_taken_66 : decode cX5_taken 66 = .ok (.ireturn, 1) := by decide +kernel
theorem dX5_taken_67 : decode cX5_taken 67 = .ok (.iload_n 3, 1) := by decide +kernel
theorem dX5_taken_68 : decode cX5_taken 68 = .ok (.ifCond .eq 25, 3) := by decide +kernel
theorem dX5_taken_71 : decode cX5_taken 71 = .ok (.iload_n 2, 1) := by decide +kernel
theorem dX5_taken_72 : decode cX5_taken 72 = .ok (.bipush 6, 2) := by decide +kernel
theorem dX5_taken_74 : decode cX5_taken 74 = .ok (.if_icmp .ne 16, 3) := by decide +kernel
theorem dX5_taken_77 : decode cX5_taken 77 = .ok (.aload_n 0, 1) := by decide +kernel
theorem dX5_taken_78 : decode cX5_taken 78 = .ok (.getfield 53, 3) := by decide +kernel
theorem dX5_taken_81 : decode cX5_taken 81 = .ok (.getfield 251, 3) := by decide +kernel
theorem dX5_taken_84 : decode cX5_taken 84 = .ok (.iload 4, 2) := by decide +kernel
theorem dX5_taken_86 : decode cX5_taken 86 = .ok (.iaload, 1) := by decide +kernel
theorem dX5_taken_87 : decode cX5_taken 87 = .ok (.goto 5, 3) := by decide +kernel
theorem dX5_taken_90 : decode cX5_taken 90 = .ok (.bipush (-13), 2) := by decide +kernel
theorem dX5_taken_92 : decode cX5_taken 92 = .ok (.ireturn, 1) := by decide +kernel
theorem dX5_taken_93 : decode cX5_taken 93 = .ok (.aload_n 0, 1) := by decide +kernel
theorem dX5_taken_94 : decode cX5_taken 94 = .ok (.getfield 53, 3) := by decide +kernel
theorem dX5_taken_97 : decode cX5_taken 97 = .ok (.getfield 128, 3) := by decide +kernel
theorem dX5_taken_100 : decode cX5_taken 100 = .ok (.iload 4, 2) := by decide +kernel
theorem dX5_taken_102 : decode cX5_taken 102 = .ok (.iaload, 1) := by decide +kernel
theorem dX5_taken_103 : decode cX5_taken 103 = .ok (.iload_n 2, 1) := by decide +kernel
theorem dX5_taken_104 : decode cX5_taken 104 = .ok (.invokestatic 254, 3) := by decide +kernel
theorem dX5_taken_107 : decode cX5_taken 107 = .ok (.ifCond .eq 8, 3) := by decide +kernel
theorem dX5_taken_110 : decode cX5_taken 110 = .ok (.iload 4, 2) := by decide +kernel
theorem dX5_taken_112 : decode cX5_taken 112 = .ok (.goto 5, 3) := by decide +kernel
theorem dX5_taken_115 : decode cX5_taken 115 = .ok (.bipush (-13), 2) := by decide +kernel
theorem dX5_taken_117 : decode cX5_taken 117 = .ok (.ireturn, 1) := by decide +kernel
theorem dX5_isWithin_0 : decode cX5_isWithin 0 = .ok (.iload_n 0, 1) := by decide +kernel
theorem dX5_isWithin_1 : decode cX5_isWithin 1 = .ok (.iload_n 1, 1) := by decide +kernel
theorem dX5_isWithin_2 : decode cX5_isWithin 2 = .ok (.if_icmp .lt 12, 3) := by decide +kernel
theorem dX5_isWithin_5 : decode cX5_isWithin 5 = .ok (.iload_n 0, 1) := by decide +kernel
theorem dX5_isWithin_6 : decode cX5_isWithin 6 = .ok (.iload_n 2, 1) := by decide +kernel
theorem dX5_isWithin_7 : decode cX5_isWithin 7 = .ok (.if_icmp .gt 7, 3) := by decide +kernel
theorem dX5_isWithin_10 : decode cX5_isWithin 10 = .ok (.iconst 1, 1) := by decide +kernel
theorem dX5_isWithin_11 : decode cX5_isWithin 11 = .ok (.goto 4, 3) := by decide +kernel
theorem dX5_isWithin_14 : decode cX5_isWithin 14 = .ok (.iconst 0, 1) := by decide +kernel
theorem dX5_isWithin_15 : decode cX5_isWithin 15 = .ok (.ireturn, 1) := by decide +kernel
theorem dX5_isByte_0 : decode cX5_isByte 0 = .ok (.iload_n 0, 1) := by decide +kernel
theorem dX5_isByte_1 : decode cX5_isByte 1 = .ok (.iconst 0, 1) := by decide +kernel
theorem dX5_isByte_2 : decode cX5_isByte 2 = .ok (.sipush 255, 3) := by decide +kernel
theorem dX5_isByte_5 : decode cX5_isByte 5 = .ok (.invokestatic 81, 3) := by decide +kernel
theorem dX5_isByte_8 : decode cX5_isByte 8 = .ok (.ireturn, 1) := by decide +kernel
theorem dX5_isSheet_0 : decode cX5_isSheet 0 = .ok (.iload_n 0, 1) := by decide +kernel
theorem dX5_isSheet_1 : decode cX5_isSheet 1 = .ok (.iconst 0, 1) := by decide +kernel
theorem dX5_isSheet_2 : decode cX5_isSheet 2 = .ok (.iconst 3, 1) := by decide +kernel
theorem dX5_isSheet_3 : decode cX5_isSheet 3 = .ok (.invokestatic 81, 3) := by decide +kernel
theorem dX5_isSheet_6 : decode cX5_isSheet 6 = .ok (.ireturn, 1) := by decide +kernel
theorem dX5_isKindOf_0 : decode cX5_isKindOf 0 = .ok (.iload_n 0, 1) := by decide +kernel
theorem dX5_isKindOf_1 : decode cX5_isKindOf 1 = .ok (.lookupswitch 67 #[(3, 27), (4, 47)], 27) := by decide +kernel
theorem dX5_isKindOf_28 : decode cX5_isKindOf 28 = .ok (.iload_n 1, 1) := by decide +kernel
theorem dX5_isKindOf_29 : decode cX5_isKindOf 29 = .ok (.iconst 3, 1) := by decide +kernel
theorem dX5_isKindOf_30 : decode cX5_isKindOf 30 = .ok (.if_icmp .eq 12, 3) := by decide +kernel
theorem dX5_isKindOf_33 : decode cX5_isKindOf 33 = .ok (.iload_n 1, 1) := by decide +kernel
theorem dX5_isKindOf_34 : decode cX5_isKindOf 34 = .ok (.iconst 1, 1) := by decide +kernel
theorem dX5_isKindOf_35 : decode cX5_isKindOf 35 = .ok (.if_icmp .eq 7, 3) := by decide +kernel
theorem dX5_isKindOf_38 : decode cX5_isKindOf 38 = .ok (.iload_n 1, 1) := by decide +kernel
theorem dX5_isKindOf_39 : decode cX5_isKindOf 39 = .ok (.ifCond .ne 7, 3) := by decide +kernel
theorem dX5_isKindOf_42 : decode cX5_isKindOf 42 = .ok (.iconst 1, 1) := by decide +kernel
theorem dX5_isKindOf_43 : decode cX5_isKindOf 43 = .ok (.goto 4, 3) := by decide +kernel
theorem dX5_isKindOf_46 : decode cX5_isKindOf 46 = .ok (.iconst 0, 1) := by decide +kernel
theorem dX5_isKindOf_47 : decode cX5_isKindOf 47 = .ok (.ireturn, 1) := by decide +kernel
theorem dX5_isKindOf_48 : decode cX5_isKindOf 48 = .ok (.iload_n 1, 1) := by decide +kernel
theorem dX5_isKindOf_49 : decode cX5_isKindOf 49 = .ok (.iconst 4, 1) := by decide +kernel
theorem dX5_isKindOf_50 : decode cX5_isKindOf 50 = .ok (.if_icmp .eq 12, 3) := by decide +kernel
theorem dX5_isKindOf_53 : decode cX5_isKindOf 53 = .ok (.iload_n 1, 1) := by decide +kernel
theorem dX5_isKindOf_54 : decode cX5_isKindOf 54 = .ok (.iconst 2, 1) := by decide +kernel
theorem dX5_isKindOf_55 : decode cX5_isKindOf 55 = .ok (.if_icmp .eq 7, 3) := by decide +kernel
theorem dX5_isKindOf_58 : decode cX5_isKindOf 58 = .ok (.iload_n 1, 1) := by decide +kernel
theorem dX5_isKindOf_59 : decode cX5_isKindOf 59 = .ok (.ifCond .ne 7, 3) := by decide +kernel
theorem dX5_isKindOf_62 : decode cX5_isKindOf 62 = .ok (.iconst 1, 1) := by decide +kernel
theorem dX5_isKindOf_63 : decode cX5_isKindOf 63 = .ok (.goto 4, 3) := by decide +kernel
theorem dX5_isKindOf_66 : decode cX5_isKindOf 66 = .ok (.iconst 0, 1) := by decide +kernel
theorem dX5_isKindOf_67 : decode cX5_isKindOf 67 = .ok (.ireturn, 1) := by decide +kernel
theorem dX5_isKindOf_68 : decode cX5_isKindOf 68 = .ok (.iload_n 1, 1) := by decide +kernel
theorem dX5_isKindOf_69 : decode cX5_isKindOf 69 = .ok (.iload_n 0, 1) := by decide +kernel
theorem dX5_isKindOf_70 : decode cX5_isKindOf 70 = .ok (.if_icmp .eq 7, 3) := by decide +kernel
theorem dX5_isKindOf_73 : decode cX5_isKindOf 73 = .ok (.iload_n 1, 1) := by decide +kernel
theorem dX5_isKindOf_74 : decode cX5_isKindOf 74 = .ok (.ifCond .ne 7, 3) := by decide +kernel
theorem dX5_isKindOf_77 : decode cX5_isKindOf 77 = .ok (.iconst 1, 1) := by decide +kernel
theorem dX5_isKindOf_78 : decode cX5_isKindOf 78 = .ok (.goto 4, 3) := by decide +kernel
theorem dX5_isKindOf_81 : decode cX5_isKindOf 81 = .ok (.iconst 0, 1) := by decide +kernel
theorem dX5_isKindOf_82 : decode cX5_isKindOf 82 = .ok (.ireturn, 1) := by decide +kernel
theorem dX5_mostOf_0 : decode cX5_mostOf 0 = .ok (.iload_n 0, 1) := by decide +kernel
theorem dX5_mostOf_1 : decode cX5_mostOf 1 = .ok (.tableswitch 44 0 3 #[31, 34, 38, 42], 31) := by decide +kernel
theorem dX5_mostOf_32 : decode cX5_mostOf 32 = .ok (.bipush 99, 2) := by decide +kernel
theorem dX5_mostOf_34 : decode cX5_mostOf 34 = .ok (.ireturn, 1) := by decide +kernel
theorem dX5_mostOf_35 : decode cX5_mostOf 35 = .ok (.sipush 9999, 3) := by decide +kernel
theorem dX5_mostOf_38 : decode cX5_mostOf 38 = .ok (.ireturn, 1) := by decide +kernel
theorem dX5_mostOf_39 : decode cX5_mostOf 39 = .ok (.ldc_w 257, 3) := by decide +kernel
theorem dX5_mostOf_42 : decode cX5_mostOf 42 = .ok (.ireturn, 1) := by decide +kernel
theorem dX5_mostOf_43 : decode cX5_mostOf 43 = .ok (.iconst 1, 1) := by decide +kernel
theorem dX5_mostOf_44 : decode cX5_mostOf 44 = .ok (.ireturn, 1) := by decide +kernel
theorem dX5_mostOf_45 : decode cX5_mostOf 45 = .ok (.iconst (-1), 1) := by decide +kernel
theorem dX5_mostOf_46 : decode cX5_mostOf 46 = .ok (.ireturn, 1) := by decide +kernel
theorem dX5_lowestTerms_0 : decode cX5_lowestTerms 0 = .ok (.lload_n 0, 1) := by decide +kernel
theorem dX5_lowestTerms_1 : decode cX5_lowestTerms 1 = .ok (.lstore 5, 2) := by decide +kernel
theorem dX5_lowestTerms_3 : decode cX5_lowestTerms 3 = .ok (.lload_n 2, 1) := by decide +kernel
theorem dX5_lowestTerms_4 : decode cX5_lowestTerms 4 = .ok (.lstore 7, 2) := by decide +kernel
theorem dX5_lowestTerms_6 : decode cX5_lowestTerms 6 = .ok (.iconst 0, 1) := by decide +kernel
theorem dX5_lowestTerms_7 : decode cX5_lowestTerms 7 = .ok (.istore 9, 2) := by decide +kernel
theorem dX5_lowestTerms_9 : decode cX5_lowestTerms 9 = .ok (.iload 9, 2) := by decide +kernel
theorem dX5_lowestTerms_11 : decode cX5_lowestTerms 11 = .ok (.sipush 1000, 3) := by decide +kernel
theorem dX5_lowestTerms_14 : decode cX5_lowestTerms 14 = .ok (.if_icmp .ge 31, 3) := by decide +kernel
theorem dX5_lowestTerms_17 : decode cX5_lowestTerms 17 = .ok (.lload 5, 2) := by decide +kernel
theorem dX5_lowestTerms_19 : decode cX5_lowestTerms 19 = .ok (.lconst 0, 1) := by decide +kernel
theorem dX5_lowestTerms_20 : decode cX5_lowestTerms 20 = .ok (.lcmp, 1) := by decide +kernel
theorem dX5_lowestTerms_21 : decode cX5_lowestTerms 21 = .ok (.ifCond .eq 24, 3) := by decide +kernel
theorem dX5_lowestTerms_24 : decode cX5_lowestTerms 24 = .ok (.lload 7, 2) := by decide +kernel
theorem dX5_lowestTerms_26 : decode cX5_lowestTerms 26 = .ok (.lload 5, 2) := by decide +kernel
theorem dX5_lowestTerms_28 : decode cX5_lowestTerms 28 = .ok (.lrem, 1) := by decide +kernel
theorem dX5_lowestTerms_29 : decode cX5_lowestTerms 29 = .ok (.lstore 10, 2) := by decide +kernel
theorem dX5_lowestTerms_31 : decode cX5_lowestTerms 31 = .ok (.lload 5, 2) := by decide +kernel
theorem dX5_lowestTerms_33 : decode cX5_lowestTerms 33 = .ok (.lstore 7, 2) := by decide +kernel
theorem dX5_lowestTerms_35 : decode cX5_lowestTerms 35 = .ok (.lload 10, 2) := by decide +kernel
theorem dX5_lowestTerms_37 : decode cX5_lowestTerms 37 = .ok (.lstore 5, 2) := by decide +kernel
theorem dX5_lowestTerms_39 : decode cX5_lowestTerms 39 = .ok (.iinc 9 1, 3) := by decide +kernel
theorem dX5_lowestTerms_42 : decode cX5_lowestTerms 42 = .ok (.goto (-33), 3) := by decide +kernel
theorem dX5_lowestTerms_45 : decode cX5_lowestTerms 45 = .ok (.lload 7, 2) := by decide +kernel
theorem dX5_lowestTerms_47 : decode cX5_lowestTerms 47 = .ok (.lconst 0, 1) := by decide +kernel
theorem dX5_lowestTerms_48 : decode cX5_lowestTerms 48 = .ok (.lcmp, 1) := by decide +kernel
theorem dX5_lowestTerms_49 : decode cX5_lowestTerms 49 = .ok (.ifCond .ne 7, 3) := by decide +kernel
theorem dX5_lowestTerms_52 : decode cX5_lowestTerms 52 = .ok (.ldc2_w 198, 3) := by decide +kernel
theorem dX5_lowestTerms_55 : decode cX5_lowestTerms 55 = .ok (.lreturn, 1) := by decide +kernel
theorem dX5_lowestTerms_56 : decode cX5_lowestTerms 56 = .ok (.iload 4, 2) := by decide +kernel
theorem dX5_lowestTerms_58 : decode cX5_lowestTerms 58 = .ok (.ifCond .ne 10, 3) := by decide +kernel
theorem dX5_lowestTerms_61 : decode cX5_lowestTerms 61 = .ok (.lload_n 0, 1) := by decide +kernel
theorem dX5_lowestTerms_62 : decode cX5_lowestTerms 62 = .ok (.lload 7, 2) := by decide +kernel
theorem dX5_lowestTerms_64 : decode cX5_lowestTerms 64 = .ok (.ldiv, 1) := by decide +kernel
theorem dX5_lowestTerms_65 : decode cX5_lowestTerms 65 = .ok (.goto 7, 3) := by decide +kernel
theorem dX5_lowestTerms_68 : decode cX5_lowestTerms 68 = .ok (.lload_n 2, 1) := by decide +kernel
theorem dX5_lowestTerms_69 : decode cX5_lowestTerms 69 = .ok (.lload 7, 2) := by decide +kernel
theorem dX5_lowestTerms_71 : decode cX5_lowestTerms 71 = .ok (.ldiv, 1) := by decide +kernel
theorem dX5_lowestTerms_72 : decode cX5_lowestTerms 72 = .ok (.lreturn, 1) := by decide +kernel
theorem dX5_startThought_0 : decode cX5_startThought 0 = .ok (.aload_n 0, 1) := by decide +kernel
theorem dX5_startThought_1 : decode cX5_startThought 1 = .ok (.getfield 57, 3) := by decide +kernel
theorem dX5_startThought_4 : decode cX5_startThought 4 = .ok (.aload_n 0, 1) := by decide +kernel
theorem dX5_startThought_5 : decode cX5_startThought 5 = .ok (.getfield 53, 3) := by decide +kernel
theorem dX5_startThought_8 : decode cX5_startThought 8 = .ok (.invokevirtual 230, 3) := by decide +kernel
theorem dX5_startThought_11 : decode cX5_startThought 11 = .ok (.aload_n 0, 1) := by decide +kernel
theorem dX5_startThought_12 : decode cX5_startThought 12 = .ok (.getfield 57, 3) := by decide +kernel
theorem dX5_startThought_15 : decode cX5_startThought 15 = .ok (.areturn, 1) := by decide +kernel
theorem dX5_refusalOfTold_0 : decode cX5_refusalOfTold 0 = .ok (.iload_n 1, 1) := by decide +kernel
theorem dX5_refusalOfTold_1 : decode cX5_refusalOfTold 1 = .ok (.invokestatic 217, 3) := by decide +kernel
theorem dX5_refusalOfTold_4 : decode cX5_refusalOfTold 4 = .ok (.ifCond .ne 6, 3) := by decide +kernel
theorem dX5_refusalOfTold_7 : decode cX5_refusalOfTold 7 = .ok (.bipush (-2), 2) := by decide +kernel
theorem dX5_refusalOfTold_9 : decode cX5_refusalOfTold 9 = .ok (.ireturn, 1) := by decide +kernel
theorem dX5_refusalOfTold_10 : decode cX5_refusalOfTold 10 = .ok (.aload_n 0, 1) := by decide +kernel
theorem dX5_refusalOfTold_11 : decode cX5_refusalOfTold 11 = .ok (.getfield 17, 3) := by decide +kernel
theorem dX5_refusalOfTold_14 : decode cX5_refusalOfTold 14 = .ok (.iload_n 1, 1) := by decide +kernel
theorem dX5_refusalOfTold_15 : decode cX5_refusalOfTold 15 = .ok (.aaload, 1) := by decide +kernel
theorem dX5_refusalOfTold_16 : decode cX5_refusalOfTold 16 = .ok (.invokevirtual 232, 3) := by decide +kernel
theorem dX5_refusalOfTold_19 : decode cX5_refusalOfTold 19 = .ok (.ifCond .eq 6, 3) := by decide +kernel
theorem dX5_refusalOfTold_22 : decode cX5_refusalOfTold 22 = .ok (.bipush (-11), 2) := by decide +kernel
theorem dX5_refusalOfTold_24 : decode cX5_refusalOfTold 24 = .ok (.ireturn, 1) := by decide +kernel
theorem dX5_refusalOfTold_25 : decode cX5_refusalOfTold 25 = .ok (.aload_n 0, 1) := by decide +kernel
theorem dX5_refusalOfTold_26 : decode cX5_refusalOfTold 26 = .ok (.getfield 17, 3) := by decide +kernel
theorem dX5_refusalOfTold_29 : decode cX5_refusalOfTold 29 = .ok (.iload_n 1, 1) := by decide +kernel
theorem dX5_refusalOfTold_30 : decode cX5_refusalOfTold 30 = .ok (.aaload, 1) := by decide +kernel
theorem dX5_refusalOfTold_31 : decode cX5_refusalOfTold 31 = .ok (.getfield 258, 3) := by decide +kernel
theorem dX5_refusalOfTold_34 : decode cX5_refusalOfTold 34 = .ok (.bipush 24, 2) := by decide +kernel
theorem dX5_refusalOfTold_36 : decode cX5_refusalOfTold 36 = .ok (.if_icmp .le 8, 3) := by decide +kernel
theorem dX5_refusalOfTold_39 : decode cX5_refusalOfTold 39 = .ok (.bipush (-2), 2) := by decide +kernel
theorem dX5_refusalOfTold_41 : decode cX5_refusalOfTold 41 = .ok (.goto 4, 3) := by decide +kernel
theorem dX5_refusalOfTold_44 : decode cX5_refusalOfTold 44 = .ok (.iconst 0, 1) := by decide +kernel
theorem dX5_refusalOfTold_45 : decode cX5_refusalOfTold 45 = .ok (.ireturn, 1) := by decide +kernel
theorem dX5_refusalOfToldAbout_0 : decode cX5_refusalOfToldAbout 0 = .ok (.aload_n 0, 1) := by decide +kernel
theorem dX5_refusalOfToldAbout_1 : decode cX5_refusalOfToldAbout 1 = .ok (.iload_n 1, 1) := by decide +kernel
theorem dX5_refusalOfToldAbout_2 : decode cX5_refusalOfToldAbout 2 = .ok (.invokevirtual 204, 3) := by decide +kernel
theorem dX5_refusalOfToldAbout_5 : decode cX5_refusalOfToldAbout 5 = .ok (.istore 4, 2) := by decide +kernel
theorem dX5_refusalOfToldAbout_7 : decode cX5_refusalOfToldAbout 7 = .ok (.iload 4, 2) := by decide +kernel
theorem dX5_refusalOfToldAbout_9 : decode cX5_refusalOfToldAbout 9 = .ok (.ifCond .eq 6, 3) := by decide +kernel
theorem dX5_refusalOfToldAbout_12 : decode cX5_refusalOfToldAbout 12 = .ok (.iload 4, 2) := by decide +kernel
theorem dX5_refusalOfToldAbout_14 : decode cX5_refusalOfToldAbout 14 = .ok (.ireturn, 1) := by decide +kernel
theorem dX5_refusalOfToldAbout_15 : decode cX5_refusalOfToldAbout 15 = .ok (.aload_n 0, 1) := by decide +kernel
theorem dX5_refusalOfToldAbout_16 : decode cX5_refusalOfToldAbout 16 = .ok (.getfield 53, 3) := by decide +kernel
theorem dX5_refusalOfToldAbout_19 : decode cX5_refusalOfToldAbout 19 = .ok (.iload_n 2, 1) := by decide +kernel
theorem dX5_refusalOfToldAbout_20 : decode cX5_refusalOfToldAbout 20 = .ok (.invokevirtual 101, 3) := by decide +kernel
theorem dX5_refusalOfToldAbout_23 : decode cX5_refusalOfToldAbout 23 = .ok (.ifCond .ne 6, 3) := by decide +kernel
theorem dX5_refusalOfToldAbout_26 : decode cX5_refusalOfToldAbout 26 = .ok (.bipush (-5), 2) := by decide +kernel
theorem dX5_refusalOfToldAbout_28 : decode cX5_refusalOfToldAbout 28 = .ok (.ireturn, 1) := by decide +kernel
theorem dX5_refusalOfToldAbout_29 : decode cX5_refusalOfToldAbout 29 = .ok (.iload_n 3, 1) := by decide +kernel
theorem dX5_refusalOfToldAbout_30 : decode cX5_refusalOfToldAbout 30 = .ok (.iconst 0, 1) := by decide +kernel
theorem dX5_refusalOfToldAbout_31 : decode cX5_refusalOfToldAbout 31 = .ok (.iconst 1, 1) := by decide +kernel
theorem dX5_refusalOfToldAbout_32 : decode cX5_refusalOfToldAbout 32 = .ok (.invokestatic 81, 3) := by decide +kernel
theorem dX5_refusalOfToldAbout_35 : decode cX5_refusalOfToldAbout 35 = .ok (.ifCond .eq 7, 3) := by decide +kernel
theorem dX5_refusalOfToldAbout_38 : decode cX5_refusalOfToldAbout 38 = .ok (.iconst 0, 1) := by decide +kernel
theorem dX5_refusalOfToldAbout_39 : decode cX5_refusalOfToldAbout 39 = .ok (.goto 5, 3) := by decide +kernel
theorem dX5_refusalOfToldAbout_42 : decode cX5_refusalOfToldAbout 42 = .ok (.bipush (-7), 2) := by decide +kernel
theorem dX5_refusalOfToldAbout_44 : decode cX5_refusalOfToldAbout 44 = .ok (.ireturn, 1) := by decide +kernel
theorem dX5_firstOtherwise_0 : decode cX5_firstOtherwise 0 = .ok (.aload_n 0, 1) := by decide +kernel
theorem dX5_firstOtherwise_1 : decode cX5_firstOtherwise 1 = .ok (.getfield 17, 3) := by decide +kernel
theorem dX5_firstOtherwise_4 : decode cX5_firstOtherwise 4 = .ok (.iload_n 1, 1) := by decide +kernel
theorem dX5_firstOtherwise_5 : decode cX5_firstOtherwise 5 = .ok (.aaload, 1) := by decide +kernel
theorem dX5_firstOtherwise_6 : decode cX5_firstOtherwise 6 = .ok (.astore_n 3, 1) := by decide +kernel
theorem dX5_firstOtherwise_7 : decode cX5_firstOtherwise 7 = .ok (.iconst 0, 1) := by decide +kernel
theorem dX5_firstOtherwise_8 : decode cX5_firstOtherwise 8 = .ok (.istore 4, 2) := by decide +kernel
theorem dX5_firstOtherwise_10 : decode cX5_firstOtherwise 10 = .ok (.iload 4, 2) := by decide +kernel
theorem dX5_firstOtherwise_12 : decode cX5_firstOtherwise 12 = .ok (.aload_n 3, 1) := by decide +kernel
theorem dX5_firstOtherwise_13 : decode cX5_firstOtherwise 13 = .ok (.getfield 258, 3) := by decide +kernel
theorem dX5_firstOtherwise_16 : decode cX5_firstOtherwise 16 = .ok (.if_icmp .ge 37, 3) := by decide +kernel
theorem dX5_firstOtherwise_19 : decode cX5_firstOtherwise 19 = .ok (.iload 4, 2) := by decide +kernel
theorem dX5_firstOtherwise_21 : decode cX5_firstOtherwise 21 = .ok (.bipush 40, 2) := by decide +kernel
theorem dX5_firstOtherwise_23 : decode cX5_firstOtherwise 23 = .ok (.if_icmp .ge 30, 3) := by decide +kernel
theorem dX5_firstOtherwise_26 : decode cX5_firstOtherwise 26 = .ok (.aload_n 2, 1) := by decide +kernel
theorem dX5_firstOtherwise_27 : decode cX5_firstOtherwise 27 = .ok (.aload_n 2, 1) := by decide +kernel
theorem dX5_firstOtherwise_28 : decode cX5_firstOtherwise 28 = .ok (.invokevirtual 144, 3) := by decide +kernel
theorem dX5_firstOtherwise_31 : decode cX5_firstOtherwise 31 = .ok (.invokevirtual 154, 3) := by decide +kernel
theorem dX5_firstOtherwise_34 : decode cX5_firstOtherwise 34 = .ok (.aload_n 3, 1) := by decide +kernel
theorem dX5_firstOtherwise_35 : decode cX5_firstOtherwise 35 = .ok (.getfield 242, 3) := by decide +kernel
theorem dX5_firstOtherwise_38 : decode cX5_firstOtherwise 38 = .ok (.iload 4, 2) := by decide +kernel
theorem dX5_firstOtherwise_40 : decode cX5_firstOtherwise 40 = .ok (.iaload, 1) := by decide +kernel
theorem dX5_firstOtherwise_41 : decode cX5_firstOtherwise 41 = .ok (.if_icmp .eq 6, 3) := by decide +kernel
theorem dX5_firstOtherwise_44 : decode cX5_firstOtherwise 44 = .ok (.iload 4, 2) := by decide +kernel
theorem dX5_firstOtherwise_46 : decode cX5_firstOtherwise 46 = .ok (.ireturn, 1) := by decide +kernel
theorem dX5_firstOtherwise_47 : decode cX5_firstOtherwise 47 = .ok (.iinc 4 1, 3) := by decide +kernel
theorem dX5_firstOtherwise_50 : decode cX5_firstOtherwise 50 = .ok (.goto (-40), 3) := by decide +kernel
theorem dX5_firstOtherwise_53 : decode cX5_firstOtherwise 53 = .ok (.iconst (-1), 1) := by decide +kernel
theorem dX5_firstOtherwise_54 : decode cX5_firstOtherwise 54 = .ok (.ireturn, 1) := by decide +kernel
theorem dX5_inCrowd_0 : decode cX5_inCrowd 0 = .ok (.aload_n 0, 1) := by decide +kernel
theorem dX5_inCrowd_1 : decode cX5_inCrowd 1 = .ok (.invokevirtual 157, 3) := by decide +kernel
theorem dX5_inCrowd_4 : decode cX5_inCrowd 4 = .ok (.astore 4, 2) := by decide +kernel
theorem dX5_inCrowd_6 : decode cX5_inCrowd 6 = .ok (.iload_n 1, 1) := by decide +kernel
theorem dX5_inCrowd_7 : decode cX5_inCrowd 7 = .ok (.i2l, 1) := by decide +kernel
theorem dX5_inCrowd_8 : decode cX5_inCrowd 8 = .ok (.lconst 1, 1) := by decide +kernel
theorem dX5_inCrowd_9 : decode cX5_inCrowd 9 = .ok (.ladd, 1) := by decide +kernel
theorem dX5_inCrowd_10 : decode cX5_inCrowd 10 = .ok (.lstore 5, 2) := by decide +kernel
theorem dX5_inCrowd_12 : decode cX5_inCrowd 12 = .ok (.iconst 0, 1) := by decide +kernel
theorem dX5_inCrowd_13 : decode cX5_inCrowd 13 = .ok (.istore 7, 2) := by decide +kernel
theorem dX5_inCrowd_15 : decode cX5_inCrowd 15 = .ok (.iconst 0, 1) := by decide +kernel
theorem dX5_inCrowd_16 : decode cX5_inCrowd 16 = .ok (.istore 8, 2) := by decide +kernel
theorem dX5_inCrowd_18 : decode cX5_inCrowd 18 = .ok (.iconst 0, 1) := by decide +kernel
theorem dX5_inCrowd_19 : decode cX5_inCrowd 19 = .ok (.istore 9, 2) := by decide +kernel
theorem dX5_inCrowd_21 : decode cX5_inCrowd 21 = .ok (.iload 9, 2) := by decide +kernel
theorem dX5_inCrowd_23 : decode cX5_inCrowd 23 = .ok (.iload_n 2, 1) := by decide +kernel
theorem dX5_inCrowd_24 : decode cX5_inCrowd 24 = .ok (.if_icmp .ge 62, 3) := by decide +kernel
theorem dX5_inCrowd_27 : decode cX5_inCrowd 27 = .ok (.lload 5, 2) := by decide +kernel
theorem dX5_inCrowd_29 : decode cX5_inCrowd 29 = .ok (.ldc2_w 259, 3) := by decide +kernel
theorem dX5_inCrowd_32 : decode cX5_inCrowd 32 = .ok (.lmul, 1) := by decide +kernel
theorem dX5_inCrowd_33 : decode cX5_inCrowd 33 = .ok (.ldc2_w 261, 3) := by decide +kernel
theorem dX5_inCrowd_36 : decode cX5_inCrowd 36 = .ok (.lrem, 1) := by decide +kernel
theorem dX5_inCrowd_37 : decode cX5_inCrowd 37 = .ok (.lstore 5, 2) := by decide +kernel
theorem dX5_inCrowd_39 : decode cX5_inCrowd 39 = .ok (.aload 4, 2) := by decide +kernel
theorem dX5_inCrowd_41 : decode cX5_inCrowd 41 = .ok (.lload 5, 2) := by decide +kernel
theorem dX5_inCrowd_43 : decode cX5_inCrowd 43 = .ok (.ldc2_w 263, 3) := by decide +kernel
theorem dX5_inCrowd_46 : decode cX5_inCrowd 46 = .ok (.lrem, 1) := by decide +kernel
theorem dX5_inCrowd_47 : decode cX5_inCrowd 47 = .ok (.l2i, 1) := by decide +kernel
theorem dX5_inCrowd_48 : decode cX5_inCrowd 48 = .ok (.invokevirtual 183, 3) := by decide +kernel
theorem dX5_inCrowd_51 : decode cX5_inCrowd 51 = .ok (.aload 4, 2) := by decide +kernel
theorem dX5_inCrowd_53 : decode cX5_inCrowd 53 = .ok (.invokevirtual 144, 3) := by decide +kernel
theorem dX5_inCrowd_56 : decode cX5_inCrowd 56 = .ok (.istore 10, 2) := by decide +kernel
theorem dX5_inCrowd_58 : decode cX5_inCrowd 58 = .ok (.iload 8, 2) := by decide +kernel
theorem dX5_inCrowd_60 : decode cX5_inCrowd 60 = .ok (.iload 10, 2) := by decide +kernel
theorem dX5_inCrowd_62 : decode cX5_inCrowd 62 = .ok (.invokestatic 186, 3) := by decide +kernel
theorem dX5_inCrowd_65 : decode cX5_inCrowd 65 = .ok (.iadd, 1) := by decide +kernel
theorem dX5_inCrowd_66 : decode cX5_inCrowd 66 = .ok (.istore 8, 2) := by decide +kernel
theorem dX5_inCrowd_68 : decode cX5_inCrowd 68 = .ok (.iload 7, 2) := by decide +kernel
theorem dX5_inCrowd_70 : decode cX5_inCrowd 70 = .ok (.aload 4, 2) := by decide +kernel
theorem dX5_inCrowd_72 : decode cX5_inCrowd 72 = .ok (.iload 10, 2) := by decide +kernel
theorem dX5_inCrowd_74 : decode cX5_inCrowd 74 = .ok (.invokevirtual 154, 3) := by decide +kernel
theorem dX5_inCrowd_77 : decode cX5_inCrowd 77 = .ok (.iadd, 1) := by decide +kernel
theorem dX5_inCrowd_78 : decode cX5_inCrowd 78 = .ok (.istore 7, 2) := by decide +kernel
theorem dX5_inCrowd_80 : decode cX5_inCrowd 80 = .ok (.iinc 9 1, 3) := by decide +kernel
theorem dX5_inCrowd_83 : decode cX5_inCrowd 83 = .ok (.goto (-62), 3) := by decide +kernel
theorem dX5_inCrowd_86 : decode cX5_inCrowd 86 = .ok (.iload_n 3, 1) := by decide +kernel
theorem dX5_inCrowd_87 : decode cX5_inCrowd 87 = .ok (.ifCond .ne 8, 3) := by decide +kernel
theorem dX5_inCrowd_90 : decode cX5_inCrowd 90 = .ok (.iload 7, 2) := by decide +kernel
theorem dX5_inCrowd_92 : decode cX5_inCrowd 92 = .ok (.goto 5, 3) := by decide +kernel
theorem dX5_inCrowd_95 : decode cX5_inCrowd 95 = .ok (.iload 8, 2) := by decide +kernel
theorem dX5_inCrowd_97 : decode cX5_inCrowd 97 = .ok (.ireturn, 1) := by decide +kernel
theorem dX6_init_0 : decode cX6_init 0 = .ok (.aload_n 0, 1) := by decide +kernel
theorem dX6_init_1 : decode cX6_init 1 = .ok (.invokespecial 1, 3) := by decide +kernel
theorem dX6_init_4 : decode cX6_init 4 = .ok (.aload_n 0, 1) := by decide +kernel
theorem dX6_init_5 : decode cX6_init 5 = .ok (.bipush 6, 2) := by decide +kernel
theorem dX6_init_7 : decode cX6_init 7 = .ok (.newarray .int, 2) := by decide +kernel
theorem dX6_init_9 : decode cX6_init 9 = .ok (.putfield 7, 3) := by decide +kernel
theorem dX6_init_12 : decode cX6_init 12 = .ok (.aload_n 0, 1) := by decide +kernel
theorem dX6_init_13 : decode cX6_init 13 = .ok (.bipush 6, 2) := by decide +kernel
theorem dX6_init_15 : decode cX6_init 15 = .ok (.newarray .int, 2) := by decide +kernel
theorem dX6_init_17 : decode cX6_init 17 = .ok (.putfield 13, 3) := by decide +kernel
theorem dX6_init_20 : decode cX6_init 20 = .ok (.aload_n 0, 1) := by decide +kernel
theorem dX6_init_21 : decode cX6_init 21 = .ok (.bipush 24, 2) := by decide +kernel
theorem dX6_init_23 : decode cX6_init 23 = .ok (.newarray .int, 2) := by decide +kernel
theorem dX6_init_25 : decode cX6_init 25 = .ok (.putfield 16, 3) := by decide +kernel
theorem dX6_init_28 : decode cX6_init 28 = .ok (.aload_n 0, 1) := by decide +kernel
theorem dX6_init_29 : decode cX6_init 29 = .ok (.iconst 3, 1) := by decide +kernel
theorem dX6_init_30 : decode cX6_init 30 = .ok (.newarray .int, 2) := by decide +kernel
theorem dX6_init_32 : decode cX6_init 32 = .ok (.putfield 19, 3) := by decide +kernel
theorem dX6_init_35 : decode cX6_init 35 = .ok (.aload_n 0, 1) := by decide +kernel
theorem dX6_init_36 : decode cX6_init 36 = .ok (.sipush 160, 3) := by decide +kernel
theorem dX6_init_39 : decode cX6_init 39 = .ok (.newarray .int, 2) := by decide +kernel
theorem dX6_init_41 : decode cX6_init 41 = .ok (.putfield 22, 3) := by decide +kernel
theorem dX6_init_44 : decode cX6_init 44 = .ok (.aload_n 0, 1) := by decide +kernel
theorem dX6_init_45 : decode cX6_init 45 = .ok (.sipush 1200, 3) := by decide +kernel
theorem dX6_init_48 : decode cX6_init 48 = .ok (.newarray .int, 2) := by decide +kernel
theorem dX6_init_50 : decode cX6_init 50 = .ok (.putfield 25, 3) := by decide +kernel
theorem dX6_init_53 : decode cX6_init 53 = .ok (.aload_n 0, 1) := by decide +kernel
theorem dX6_init_54 : decode cX6_init 54 = .ok (.bipush 24, 2) := by decide +kernel
theorem dX6_init_56 : decode cX6_init 56 = .ok (.newarray .int, 2) := by decide +kernel
theorem dX6_init_58 : decode cX6_init 58 = .ok (.putfield 28, 3) := by decide +kernel
theorem dX6_init_61 : decode cX6_init 61 = .ok (.aload_n 0, 1) := by decide +kernel
theorem dX6_init_62 : decode cX6_init 62 = .ok (.bipush 27, 2) := by decide +kernel
theorem dX6_init_64 : decode cX6_init 64 = .ok (.newarray .int, 2) := by decide +kernel
theorem dX6_init_66 : decode cX6_init 66 = .ok (.putfield 31, 3) := by decide +kernel
theorem dX6_init_69 : decode cX6_init 69 = .ok (.aload_n 0, 1) := by decide +kernel
theorem dX6_init_70 : decode cX6_init 70 = .ok (.iconst 2, 1) := by decide +kernel
theorem dX6_init_71 : decode cX6_init 71 = .ok (.newarray .int, 2) := by decide +kernel
theorem dX6_init_73 : decode cX6_init 73 = .ok (.putfield 34, 3) := by decide +kernel
theorem dX6_init_76 : decode cX6_init 76 = .ok (.aload_n 0, 1) := by decide +kernel
theorem dX6_init_77 : decode cX6_init 77 = .ok (.iconst 4, 1) := by decide +kernel
theorem dX6_init_78 : decode cX6_init 78 = .ok (.newarray .int, 2) := by decide +kernel
theorem dX6_init_80 : decode cX6_init 80 = .ok (.dup, 1) := by decide +kernel
theorem dX6_init_81 : decode cX6_init 81 = .ok (.iconst 0, 1) := by decide +kernel
theorem dX6_init_82 : decode cX6_init 82 = .ok (.iconst (-1), 1) := by decide +kernel
theorem dX6_init_83 : decode cX6_init 83 = .ok (.iastore, 1) := by decide +kernel
theorem dX6_init_84 : decode cX6_init 84 = .ok (.dup, 1) := by decide +kernel
theorem dX6_init_85 : decode cX6_init 85 = .ok (.iconst 1, 1) := by decide +kernel
theorem dX6_init_86 : decode cX6_init 86 = .ok (.iconst (-1), 1) := by decide +kernel
theorem dX6_init_87 : decode cX6_init 87 = .ok (.iastore, 1) := by decide +kernel
theorem dX6_init_88 : decode cX6_init 88 = .ok (.dup, 1) := by decide +kernel
theorem dX6_init_89 : decode cX6_init 89 = .ok (.iconst 2, 1) := by decide +kernel
theorem dX6_init_90 : decode cX6_init 90 = .ok (.iconst (-1), 1) := by decide +kernel
theorem dX6_init_91 : decode cX6_init 91 = .ok (.iastore, 1) := by decide +kernel
theorem dX6_init_92 : decode cX6_init 92 = .ok (.dup, 1) := by decide +kernel
theorem dX6_init_93 : decode cX6_init 93 = .ok (.iconst 3, 1) := by decide +kernel
theorem dX6_init_94 : decode cX6_init 94 = .ok (.iconst (-1), 1) := by decide +kernel
theorem dX6_init_95 : decode cX6_init 95 = .ok (.iastore, 1) := by decide +kernel
theorem dX6_init_96 : decode cX6_init 96 = .ok (.putfield 37, 3) := by decide +kernel
theorem dX6_init_99 : decode cX6_init 99 = .ok (.aload_n 0, 1) := by decide +kernel
theorem dX6_init_100 : decode cX6_init 100 = .ok (.iconst 4, 1) := by decide +kernel
theorem dX6_init_101 : decode cX6_init 101 = .ok (.newarray .int, 2) := by decide +kernel
theorem dX6_init_103 : decode cX6_init 103 = .ok (.putfield 40, 3) := by decide +kernel
theorem dX6_init_106 : decode cX6_init 106 = .ok (.aload_n 0, 1) := by decide +kernel
theorem dX6_init_107 : decode cX6_init 107 = .ok (.sipush 160, 3) := by decide +kernel
theorem dX6_init_110 : decode cX6_init 110 = .ok (.newarray .int, 2) := by decide +kernel
theorem dX6_init_112 : decode cX6_init 112 = .ok (.putfield 43, 3) := by decide +kernel
theorem dX6_init_115 : decode cX6_init 115 = .ok (.aload_n 0, 1) := by decide +kernel
theorem dX6_init_116 : decode cX6_init 116 = .ok (.bipush 34, 2) := by decide +kernel
theorem dX6_init_118 : decode cX6_init 118 = .ok (.newarray .int, 2) := by decide +kernel
theorem dX6_init_120 : decode cX6_init 120 = .ok (.dup, 1) := by decide +kernel
theorem dX6_init_121 : decode cX6_init 121 = .ok (.iconst 0, 1) := by decide +kernel
theorem dX6_init_122 : decode cX6_init 122 = .ok (.bipush 108, 2) := by decide +kernel
theorem dX6_init_124 : decode cX6_init 124 = .ok (.iastore, 1) := by decide +kernel
theorem dX6_init_125 : decode cX6_init 125 = .ok (.dup, 1) := by decide +kernel
theorem dX6_init_126 : decode cX6_init 126 = .ok (.iconst 1, 1) := by decide +kernel
theorem dX6_init_127 : decode cX6_init 127 = .ok (.bipush 105, 2) := by decide +kernel
theorem dX6_init_129 : decode cX6_init 129 = .ok (.iastore, 1) := by decide +kernel
theorem dX6_init_130 : decode cX6_init 130 = .ok (.dup, 1) := by decide +kernel
theorem dX6_init_131 : decode cX6_init 131 = .ok (.iconst 2, 1) := by decide +kernel
theorem dX6_init_132 : decode cX6_init 132 = .ok (.bipush 101, 2) := by decide +kernel
theorem dX6_init_134 : decode cX6_init 134 = .ok (.iastore, 1) := by decide +kernel
theorem dX6_init_135 : decode cX6_init 135 = .ok (.dup, 1) := by decide +kernel
theorem dX6_init_136 : decode cX6_init 136 = .ok (.iconst 3, 1) := by decide +kernel
theorem dX6_init_137 : decode cX6_init 137 = .ok (.bipush 115, 2) := by decide +kernel
theorem dX6_init_139 : decode cX6_init 139 = .ok (.iastore, 1) := by decide +kernel
theorem dX6_init_140 : decode cX6_init 140 = .ok (.dup, 1) := by decide +kernel
theorem dX6_init_141 : decode cX6_init 141 = .ok (.iconst 4, 1) := by decide +kernel
theorem dX6_init_142 : decode cX6_init 142 = .ok (.bipush 32, 2) := by decide +kernel
theorem dX6_init_144 : decode cX6_init 144 = .ok (.iastore, 1) := by decide +kernel
theorem dX6_init_145 : decode cX6_init 145 = .ok (.dup, 1) := by decide +kernel
theorem dX6_init_146 : decode cX6_init 146 = .ok (.iconst 5, 1) := by decide +kernel
theorem dX6_init_147 : decode cX6_init 147 = .ok (.bipush 110, 2) := by decide +kernel
theorem dX6_init_149 : decode cX6_init 149 = .ok (.iastore, 1) := by decide +kernel
theorem dX6_init_150 : decode cX6_init 150 = .ok (.dup, 1) := by decide +kernel
theorem dX6_init_151 : decode cX6_init 151 = .ok (.bipush 6, 2) := by decide +kernel
theorem dX6_init_153 : decode cX6_init 153 = .ok (.bipush 101, 2) := by decide +kernel
theorem dX6_init_155 : decode cX6_init 155 = .ok (.iastore, 1) := by decide +kernel
theorem dX6_init_156 : decode cX6_init 156 = .ok (.dup, 1) := by decide +kernel
theorem dX6_init_157 : decode cX6_init 157 = .ok (.bipush 7, 2) := by decide +kernel
theorem dX6_init_159 : decode cX6_init 159 = .ok (.bipush 114, 2) := by decide +kernel
theorem dX6_init_161 : decode cX6_init 161 = .ok (.iastore, 1) := by decide +kernel
theorem dX6_init_162 : decode cX6_init 162 = .ok (.dup, 1) := by decide +kernel
theorem dX6_init_163 : decode cX6_init 163 = .ok (.bipush 8, 2) := by decide +kernel
theorem dX6_init_165 : decode cX6_init 165 = .ok (.bipush 118, 2) := by decide +kernel
theorem dX6_init_167 : decode cX6_init 167 = .ok (.iastore, 1) := by decide +kernel
theorem dX6_init_168 : decode cX6_init 168 = .ok (.dup, 1) := by decide +kernel
theorem dX6_init_169 : decode cX6_init 169 = .ok (.bipush 9, 2) := by decide +kernel
theorem dX6_init_171 : decode cX6_init 171 = .ok (.bipush 101, 2) := by decide +kernel
theorem dX6_init_173 : decode cX6_init 173 = .ok (.iastore, 1) := by decide +kernel
theorem dX6_init_174 : decode cX6_init 174 = .ok (.dup, 1) := by decide +kernel
theorem dX6_init_175 : decode cX6_init 175 = .ok (.bipush 10, 2) := by decide +kernel
theorem dX6_init_177 : decode cX6_init 177 = .ok (.bipush 32, 2) := by decide +kernel
theorem dX6_init_179 : decode cX6_init 179 = .ok (.iastore, 1) := by decide +kernel
theorem dX6_init_180 : decode cX6_init 180 = .ok (.dup, 1) := by decide +kernel
theorem dX6_init_181 : decode cX6_init 181 = .ok (.bipush 11, 2) := by decide +kernel
theorem dX6_init_183 : decode cX6_init 183 = .ok (.bipush 59, 2) := by decide +kernel
theorem dX6_init_185 : decode cX6_init 185 = .ok (.iastore, 1) := by decide +kernel
theorem dX6_init_186 : decode cX6_init 186 = .ok (.dup, 1) := by decide +kernel
theorem dX6_init_187 : decode cX6_init 187 = .ok (.bipush 12, 2) := by decide +kernel
theorem dX6_init_189 : decode cX6_init 189 = .ok (.bipush 32, 2) := by decide +kernel
theorem dX6_init_191 : decode cX6_init 191 = .ok (.iastore, 1) := by decide +kernel
theorem dX6_init_192 : decode cX6_init 192 = .ok (.dup, 1) := by decide +kernel
theorem dX6_init_193 : decode cX6_init 193 = .ok (.bipush 13, 2) := by decide +kernel
theorem dX6_init_195 : decode cX6_init 195 = .ok (.bipush 99, 2) := by decide +kernel
theorem dX6_init_197 : decode cX6_init 197 = .ok (.iastore, 1) := by decide +kernel
theorem dX6_init_198 : decode cX6_init 198 = .ok (.dup, 1) := by decide +kernel
theorem dX6_init_199 : decode cX6_init 199 = .ok (.bipush 14, 2) := by decide +kernel
theorem dX6_init_201 : decode cX6_init 201 = .ok (.bipush 111, 2) := by decide +kernel
theorem dX6_init_203 : decode cX6_init 203 = .ok (.iastore, 1) := by decide +kernel
theorem dX6_init_204 : decode cX6_init 204 = .ok (.dup, 1) := by decide +kernel
theorem dX6_init_205 : decode cX6_init 205 = .ok (.bipush 15, 2) := by decide +kernel
theorem dX6_init_207 : decode cX6_init 207 = .ok (.bipush 115, 2) := by decide +kernel
theorem dX6_init_209 : decode cX6_init 209 = .ok (.iastore, 1) := by decide +kernel
theorem dX6_init_210 : decode cX6_init 210 = .ok (.dup, 1) := by decide +kernel
theorem dX6_init_211 : decode cX6_init 211 = .ok (.bipush 16, 2) := by decide +kernel
theorem dX6_init_213 : decode cX6_init 213 = .ok (.bipush 116, 2) := by decide +kernel
theorem dX6_init_215 : decode cX6_init 215 = .ok (.iastore, 1) := by decide +kernel
theorem dX6_init_216 : decode cX6_init 216 = .ok (.dup, 1) := by decide +kernel
theorem dX6_init_217 : decode cX6_init 217 = .ok (.bipush 17, 2) := by decide +kernel
theorem dX6_init_219 : decode cX6_init 219 = .ok (.bipush 115, 2) := by decide +kernel
theorem dX6_init_221 : decode cX6_init 221 = .ok (.iastore, 1) := by decide +kernel
theorem dX6_init_222 : decode cX6_init 222 = .ok (.dup, 1) := by decide +kernel
theorem dX6_init_223 : decode cX6_init 223 = .ok (.bipush 18, 2) := by decide +kernel
theorem dX6_init_225 : decode cX6_init 225 = .ok (.bipush 32, 2) := by decide +kernel
theorem dX6_init_227 : decode cX6_init 227 = .ok (.iastore, 1) := by decide +kernel
theorem dX6_init_228 : decode cX6_init 228 = .ok (.dup, 1) := by decide +kernel
theorem dX6_init_229 : decode cX6_init 229 = .ok (.bipush 19, 2) := by decide +kernel
theorem dX6_init_231 : decode cX6_init 231 = .ok (.bipush 49, 2) := by decide +kernel
theorem dX6_init_233 : decode cX6_init 233 = .ok (.iastore, 1) := by decide +kernel
theorem dX6_init_234 : decode cX6_init 234 = .ok (.dup, 1) := by decide +kernel
theorem dX6_init_235 : decode cX6_init 235 = .ok (.bipush 20, 2) := by decide +kernel
theorem dX6_init_237 : decode cX6_init 237 = .ok (.bipush 32, 2) := by decide +kernel
theorem dX6_init_239 : decode cX6_init 239 = .ok (.iastore, 1) := by decide +kernel
theorem dX6_init_240 : decode cX6_init 240 = .ok (.dup, 1) := by decide +kernel
theorem dX6_init_241 : decode cX6_init 241 = .ok (.bipush 21, 2) := by decide +kernel
theorem dX6_init_243 : decode cX6_init 243 = .ok (.bipush 59, 2) := by decide +kernel
theorem dX6_init_245 : decode cX6_init 245 = .ok (.iastore, 1) := by decide +kernel
theorem dX6_init_246 : decode cX6_init 246 = .ok (.dup, 1) := by decide +kernel
theorem dX6_init_247 : decode cX6_init 247 = .ok (.bipush 22, 2) := by decide +kernel
theorem dX6_init_249 : decode cX6_init 249 = .ok (.bipush 32, 2) := by decide +kernel
theorem dX6_init_251 : decode cX6_init 251 = .ok (.iastore, 1) := by decide +kernel
theorem dX6_init_252 : decode cX6_init 252 = .ok (.dup, 1) := by decide +kernel
theorem dX6_init_253 : decode cX6_init 253 = .ok (.bipush 23, 2) := by decide +kernel
theorem dX6_init_255 : decode cX6_init 255 = .ok (.bipush 115, 2) := by decide +kernel
theorem dX6_init_257 : decode cX6_init 257 = .ok (.iastore, 1) := by decide +kernel
theorem dX6_init_258 : decode cX6_init 258 = .ok (.dup, 1) := by decide +kernel
theorem dX6_init_259 : decode cX6_init 259 = .ok (.bipush 24, 2) := by decide +kernel
theorem dX6_init_261 : decode cX6_init 261 = .ok (.bipush 116, 2) := by decide +kernel
theorem dX6_init_263 : decode cX6_init 263 = .ok (.iastore, 1) := by decide +kernel
theorem dX6_init_264 : decode cX6_init 264 = .ok (.dup, 1) := by decide +kernel
theorem dX6_init_265 : decode cX6_init 265 = .ok (.bipush 25, 2) := by decide +kernel
theorem dX6_init_267 : decode cX6_init 267 = .ok (.bipush 114, 2) := by decide +kernel
theorem dX6_init_269 : decode cX6_init 269 = .ok (.iastore, 1) := by decide +kernel
theorem dX6_init_270 : decode cX6_init 270 = .ok (.dup, 1) := by decide +kernel
theorem dX6_init_271 : decode cX6_init 271 = .ok (.bipush 26, 2) := by decide +kernel
theorem dX6_init_273 : decode cX6_init 273 = .ok (.bipush 111, 2) := by decide +kernel
theorem dX6_init_275 : decode cX6_init 275 = .ok (.iastore, 1) := by decide +kernel
theorem dX6_init_276 : decode cX6_init 276 = .ok (.dup, 1) := by decide +kernel
theorem dX6_init_277 : decode cX6_init 277 = .ok (.bipush 27, 2) := by decide +kernel
theorem dX6_init_279 : decode cX6_init 279 = .ok (.bipush 107, 2) := by decide +kernel
theorem dX6_init_281 : decode cX6_init 281 = .ok (.iastore, 1) := by decide +kernel
theorem dX6_init_282 : decode cX6_init 282 = .ok (.dup, 1) := by decide +kernel
theorem dX6_init_283 : decode cX6_init 283 = .ok (.bipush 28, 2) := by decide +kernel
theorem dX6_init_285 : decode cX6_init 285 = .ok (.bipush 101, 2) := by decide +kernel
theorem dX6_init_287 : decode cX6_init 287 = .ok (.iastore, 1) := by decide +kernel
theorem dX6_init_288 : decode cX6_init 288 = .ok (.dup, 1) := by decide +kernel
theorem dX6_init_289 : decode cX6_init 289 = .ok (.bipush 29, 2) := by decide +kernel
theorem dX6_init_291 : decode cX6_init 291 = .ok (.bipush 115, 2) := by decide +kernel
theorem dX6_init_293 : decode cX6_init 293 = .ok (.iastore, 1) := by decide +kernel
theorem dX6_init_294 : decode cX6_init 294 = .ok (.dup, 1) := by decide +kernel
theorem dX6_init_295 : decode cX6_init 295 = .ok (.bipush 30, 2) := by decide +kernel
theorem dX6_init_297 : decode cX6_init 297 = .ok (.bipush 32, 2) := by decide +kernel
theorem dX6_init_299 : decode cX6_init 299 = .ok (.iastore, 1) := by decide +kernel
theorem dX6_init_300 : decode cX6_init 300 = .ok (.dup, 1) := by decide +kernel
theorem dX6_init_301 : decode cX6_init 301 = .ok (.bipush 31, 2) := by decide +kernel
theorem dX6_init_303 : decode cX6_init 303 = .ok (.bipush 49, 2) := by decide +kernel
theorem dX6_init_305 : decode cX6_init 305 = .ok (.iastore, 1) := by decide +kernel
theorem dX6_init_306 : decode cX6_init 306 = .ok (.dup, 1) := by decide +kernel
theorem dX6_init_307 : decode cX6_init 307 = .ok (.bipush 32, 2) := by decide +kernel
theorem dX6_init_309 : decode cX6_init 309 = .ok (.bipush 32, 2) := by decide +kernel
theorem dX6_init_311 : decode cX6_init 311 = .ok (.iastore, 1) := by decide +kernel
theorem dX6_init_312 : decode cX6_init 312 = .ok (.dup, 1) := by decide +kernel
theorem dX6_init_313 : decode cX6_init 313 = .ok (.bipush 33, 2) := by decide +kernel
theorem dX6_init_315 : decode cX6_init 315 = .ok (.bipush 59, 2) := by decide +kernel
theorem dX6_init_317 : decode cX6_init 317 = .ok (.iastore, 1) := by decide +kernel
theorem dX6_init_318 : decode cX6_init 318 = .ok (.putfield 46, 3) := by decide +kernel
theorem dX6_init_321 : decode cX6_init 321 = .ok (.aload_n 0, 1) := by decide +kernel
theorem dX6_init_322 : decode cX6_init 322 = .ok (.bipush 96, 2) := by decide +kernel
theorem dX6_init_324 : decode cX6_init 324 = .ok (.newarray .int, 2) := by decide +kernel
theorem dX6_init_326 : decode cX6_init 326 = .ok (.dup, 1) := by decide +kernel
theorem dX6_init_327 : decode cX6_init 327 = .ok (.iconst 0, 1) := by decide +kernel
theorem dX6_init_328 : decode cX6_init 328 = .ok (.bipush 108, 2) := by decide +kernel
theorem dX6_init_330 : decode cX6_init 330 = .ok (.iastore, 1) := by decide +kernel
theorem dX6_init_331 : decode cX6_init 331 = .ok (.dup, 1) := by decide +kernel
theorem dX6_init_332 : decode cX6_init 332 = .ok (.iconst 1, 1) := by decide +kernel
theorem dX6_init_333 : decode cX6_init 333 = .ok (.bipush 105, 2) := by decide +kernel
theorem dX6_init_335 : decode cX6_init 335 = .ok (.iastore, 1) := by decide +kernel
theorem dX6_init_336 : decode cX6_init 336 = .ok (.dup, 1) := by decide +kernel
theorem dX6_init_337 : decode cX6_init 337 = .ok (.iconst 2, 1) := by decide +kernel
theorem dX6_init_338 : decode cX6_init 338 = .ok (.bipush 101, 2) := by decide +kernel
theorem dX6_init_340 : decode cX6_init 340 = .ok (.iastore, 1) := by decide +kernel
theorem dX6_init_341 : decode cX6_init 341 = .ok (.dup, 1) := by decide +kernel
theorem dX6_init_342 : decode cX6_init 342 = .ok (.iconst 3, 1) := by decide +kernel
theorem dX6_init_343 : decode cX6_init 343 = .ok (.bipush 115, 2) := by decide +kernel
theorem dX6_init_345 : decode cX6_init 345 = .ok (.iastore, 1) := by decide +kernel
theorem dX6_init_346 : decode cX6_init 346 = .ok (.dup, 1) := by decide +kernel
theorem dX6_init_347 : decode cX6_init 347 = .ok (.iconst 4, 1) := by decide +kernel
theorem dX6_init_348 : decode cX6_init 348 = .ok (.bipush 32, 2) := by decide +kernel
theorem dX6_init_350 : decode cX6_init 350 = .ok (.iastore, 1) := by decide +kernel
theorem dX6_init_351 : decode cX6_init 351 = .ok (.dup, 1) := by decide +kernel
theorem dX6_init_352 : decode cX6_init 352 = .ok (.iconst 5, 1) := by decide +kernel
theorem dX6_init_353 : decode cX6_init 353 = .ok (.bipush 32, 2) := by decide +kernel
theorem dX6_init_355 : decode cX6_init 355 = .ok (.iastore, 1) := by decide +kernel
theorem dX6_init_356 : decode cX6_init 356 = .ok (.dup, 1) := by decide +kernel
theorem dX6_init_357 : decode cX6_init 357 = .ok (.bipush 6, 2) := by decide +kernel
theorem dX6_init_359 : decode cX6_init 359 = .ok (.bipush 32, 2) := by decide +kernel
theorem dX6_init_361 : decode cX6_init 361 = .ok (.iastore, 1) := by decide +kernel
theorem dX6_init_362 : decode cX6_init 362 = .ok (.dup, 1) := by decide +kernel
theorem dX6_init_363 : decode cX6_init 363 = .ok (.bipush 7, 2) := by decide +kernel
theorem dX6_init_365 : decode cX6_init 365 = .ok (.bipush 32, 2) := by decide +kernel
theorem dX6_init_367 : decode cX6_init 367 = .ok (.iastore, 1) := by decide +kernel
theorem dX6_init_368 : decode cX6_init 368 = .ok (.dup, 1) := by decide +kernel
theorem dX6_init_369 : decode cX6_init 369 = .ok (.bipush 8, 2) := by decide +kernel
theorem dX6_init_371 : decode cX6_init 371 = .ok (.bipush 99, 2) := by decide +kernel
theorem dX6_init_373 : decode cX6_init 373 = .ok (.iastore, 1) := by decide +kernel
theorem dX6_init_374 : decode cX6_init 374 = .ok (.dup, 1) := by decide +kernel
theorem dX6_init_375 : decode cX6_init 375 = .ok (.bipush 9, 2) := by decide +kernel
theorem dX6_init_377 : decode cX6_init 377 = .ok (.bipush 111, 2) := by decide +kernel
theorem dX6_init_379 : decode cX6_init 379 = .ok (.iastore, 1) := by decide +kernel
theorem dX6_init_380 : decode cX6_init 380 = .ok (.dup, 1) := by decide +kernel
theorem dX6_init_381 : decode cX6_init 381 = .ok (.bipush 10, 2) := by decide +kernel
theorem dX6_init_383 : decode cX6_init 383 = .ok (.bipush 115, 2) := by decide +kernel
theorem dX6_init_385 : decode cX6_init 385 = .ok (.iastore, 1) := by decide +kernel
theorem dX6_init_386 : decode cX6_init 386 = .ok (.dup, 1) := by decide +kernel
theorem dX6_init_387 : decode cX6_init 387 = .ok (.bipush 11, 2) := by decide +kernel
theorem dX6_init_389 : decode cX6_init 389 = .ok (.bipush 116, 2) := by decide +kernel
theorem dX6_init_391 : decode cX6_init 391 = .ok (.iastore, 1) := by decide +kernel
theorem dX6_init_392 : decode cX6_init 392 = .ok (.dup, 1) := by decide +kernel
theorem dX6_init_393 : decode cX6_init 393 = .ok (.bipush 12, 2) := by decide +kernel
theorem dX6_init_395 : decode cX6_init 395 = .ok (.bipush 115, 2) := by decide +kernel
theorem dX6_init_397 : decode cX6_init 397 = .ok (.iastore, 1) := by decide +kernel
theorem dX6_init_398 : decode cX6_init 398 = .ok (.dup, 1) := by decide +kernel
theorem dX6_init_399 : decode cX6_init 399 = .ok (.bipush 13, 2) := by decide +kernel
theorem dX6_init_401 : decode cX6_init 401 = .ok (.bipush 32, 2) := by decide +kernel
theorem dX6_init_403 : decode cX6_init 403 = .ok (.iastore, 1) := by decide +kernel
theorem dX6_init_404 : decode cX6_init 404 = .ok (.dup, 1) := by decide +kernel
theorem dX6_init_405 : decode cX6_init 405 = .ok (.bipush 14, 2) := by decide +kernel
theorem dX6_init_407 : decode cX6_init 407 = .ok (.bipush 32, 2) := by decide +kernel
theorem dX6_init_409 : decode cX6_init 409 = .ok (.iastore, 1) := by decide +kernel
theorem dX6_init_410 : decode cX6_init 410 = .ok (.dup, 1) := by decide +kernel
theorem dX6_init_411 : decode cX6_init 411 = .ok (.bipush 15, 2) := by decide +kernel
theorem dX6_init_413 : decode cX6_init 413 = .ok (.bipush 32, 2) := by decide +kernel
theorem dX6_init_415 : decode cX6_init 415 = .ok (.iastore, 1) := by decide +kernel
theorem dX6_init_416 : decode cX6_init 416 = .ok (.dup, 1) := by decide +kernel
theorem dX6_init_417 : decode cX6_init 417 = .ok (.bipush 16, 2) := by decide +kernel
theorem dX6_init_419 : decode cX6_init 419 = .ok (.bipush 115, 2) := by decide +kernel
theorem dX6_init_421 : decode cX6_init 421 = .ok (.iastore, 1) := by decide +kernel
theorem dX6_init_422 : decode cX6_init 422 = .ok (.dup, 1) := by decide +kernel
theorem dX6_init_423 : decode cX6_init 423 = .ok (.bipush 17, 2) := by decide +kernel
theorem dX6_init_425 : decode cX6_init 425 = .ok (.bipush 116, 2) := by decide +kernel
theorem dX6_init_427 : decode cX6_init 427 = .ok (.iastore, 1) := by decide +kernel
theorem dX6_init_428 : decode cX6_init 428 = .ok (.dup, 1) := by decide +kernel
theorem dX6_init_429 : decode cX6_init 429 = .ok (.bipush 18, 2) := by decide +kernel
theorem dX6_init_431 : decode cX6_init 431 = .ok (.bipush 114, 2) := by decide +kernel
theorem dX6_init_433 : decode cX6_init 433 = .ok (.iastore, 1) := by decide +kernel
theorem dX6_init_434 : decode cX6_init 434 = .ok (.dup, 1) := by decide +kernel
theorem dX6_init_435 : decode cX6_init 435 = .ok (.bipush 19, 2) := by decide +kernel
theorem dX6_init_437 : decode cX6_init 437 = .ok (.bipush 111, 2) := by decide +kernel
theorem dX6_init_439 : decode cX6_init 439 = .ok (.iastore, 1) := by decide +kernel
theorem dX6_init_440 : decode cX6_init 440 = .ok (.dup, 1) := by decide +kernel
theorem dX6_init_441 : decode cX6_init 441 = .ok (.bipush 20, 2) := by decide +kernel
theorem dX6_init_443 : decode cX6_init 443 = .ok (.bipush 107, 2) := by decide +kernel
theorem dX6_init_445 : decode cX6_init 445 = .ok (.iastore, 1) := by decide +kernel
theorem dX6_init_446 : decode cX6_init 446 = .ok (.dup, 1) := by decide +kernel
theorem dX6_init_447 : decode cX6_init 447 = .ok (.bipush 21, 2) := by decide +kernel
theorem dX6_init_449 : decode cX6_init 449 = .ok (.bipush 101, 2) := by decide +kernel
theorem dX6_init_451 : decode cX6_init 451 = .ok (.iastore, 1) := by decide +kernel
theorem dX6_init_452 : decode cX6_init 452 = .ok (.dup, 1) := by decide +kernel
theorem dX6_init_453 : decode cX6_init 453 = .ok (.bipush 22, 2) := by decide +kernel
theorem dX6_init_455 : decode cX6_init 455 = .ok (.bipush 115, 2) := by decide +kernel
theorem dX6_init_457 : decode cX6_init 457 = .ok (.iastore, 1) := by decide +kernel
theorem dX6_init_458 : decode cX6_init 458 = .ok (.dup, 1) := by decide +kernel
theorem dX6_init_459 : decode cX6_init 459 = .ok (.bipush 23, 2) := by decide +kernel
theorem dX6_init_461 : decode cX6_init 461 = .ok (.bipush 32, 2) := by decide +kernel
theorem dX6_init_463 : decode cX6_init 463 = .ok (.iastore, 1) := by decide +kernel
theorem dX6_init_464 : decode cX6_init 464 = .ok (.dup, 1) := by decide +kernel
theorem dX6_init_465 : decode cX6_init 465 = .ok (.bipush 24, 2) := by decide +kernel
theorem dX6_init_467 : decode cX6_init 467 = .ok (.bipush 110, 2) := by decide +kernel
theorem dX6_init_469 : decode cX6_init 469 = .ok (.iastore, 1) := by decide +kernel
theorem dX6_init_470 : decode cX6_init 470 = .ok (.dup, 1) := by decide +kernel
theorem dX6_init_471 : decode cX6_init 471 = .ok (.bipush 25, 2) := by decide +kernel
theorem dX6_init_473 : decode cX6_init 473 = .ok (.bipush 101, 2) := by decide +kernel
theorem dX6_init_475 : decode cX6_init 475 = .ok (.iastore, 1) := by decide +kernel
theorem dX6_init_476 : decode cX6_init 476 = .ok (.dup, 1) := by decide +kernel
theorem dX6_init_477 : decode cX6_init 477 = .ok (.bipush 26, 2) := by decide +kernel
theorem dX6_init_479 : decode cX6_init 479 = .ok (.bipush 114, 2) := by decide +kernel
theorem dX6_init_481 : decode cX6_init 481 = .ok (.iastore, 1) := by decide +kernel
theorem dX6_init_482 : decode cX6_init 482 = .ok (.dup, 1) := by decide +kernel
theorem dX6_init_483 : decode cX6_init 483 = .ok (.bipush 27, 2) := by decide +kernel
theorem dX6_init_485 : decode cX6_init 485 = .ok (.bipush 118, 2) := by decide +kernel
theorem dX6_init_487 : decode cX6_init 487 = .ok (.iastore, 1) := by decide +kernel
theorem dX6_init_488 : decode cX6_init 488 = .ok (.dup, 1) := by decide +kernel
theorem dX6_init_489 : decode cX6_init 489 = .ok (.bipush 28, 2) := by decide +kernel
theorem dX6_init_491 : decode cX6_init 491 = .ok (.bipush 101, 2) := by decide +kernel
theorem dX6_init_493 : decode cX6_init 493 = .ok (.iastore, 1) := by decide +kernel
theorem dX6_init_494 : decode cX6_init 494 = .ok (.dup, 1) := by decide +kernel
theorem dX6_init_495 : decode cX6_init 495 = .ok (.bipush 29, 2) := by decide +kernel
theorem dX6_init_497 : decode cX6_init 497 = .ok (.bipush 32, 2) := by decide +kernel
theorem dX6_init_499 : decode cX6_init 499 = .ok (.iastore, 1) := by decide +kernel
theorem dX6_init_500 : decode cX6_init 500 = .ok (.dup, 1) := by decide +kernel
theorem dX6_init_501 : decode cX6_init 501 = .ok (.bipush 30, 2) := by decide +kernel
theorem dX6_init_503 : decode cX6_init 503 = .ok (.bipush 32, 2) := by decide +kernel
theorem dX6_init_505 : decode cX6_init 505 = .ok (.iastore, 1) := by decide +kernel
theorem dX6_init_506 : decode cX6_init 506 = .ok (.dup, 1) := by decide +kernel
theorem dX6_init_507 : decode cX6_init 507 = .ok (.bipush 31, 2) := by decide +kernel
theorem dX6_init_509 : decode cX6_init 509 = .ok (.bipush 32, 2) := by decide +kernel
theorem dX6_init_511 : decode cX6_init 511 = .ok (.iastore, 1) := by decide +kernel
theorem dX6_init_512 : decode cX6_init 512 = .ok (.dup, 1) := by decide +kernel
theorem dX6_init_513 : decode cX6_init 513 = .ok (.bipush 32, 2) := by decide +kernel
theorem dX6_init_515 : decode cX6_init 515 = .ok (.bipush 116, 2) := by decide +kernel
theorem dX6_init_517 : decode cX6_init 517 = .ok (.iastore, 1) := by decide +kernel
theorem dX6_init_518 : decode cX6_init 518 = .ok (.dup, 1) := by decide +kernel
theorem dX6_init_519 : decode cX6_init 519 = .ok (.bipush 33, 2) := by decide +kernel
theorem dX6_init_521 : decode cX6_init 521 = .ok (.bipush 111, 2) := by decide +kernel
theorem dX6_init_523 : decode cX6_init 523 = .ok (.iastore, 1) := by decide +kernel
theorem dX6_init_524 : decode cX6_init 524 = .ok (.dup, 1) := by decide +kernel
theorem dX6_init_525 : decode cX6_init 525 = .ok (.bipush 34, 2) := by decide +kernel
theorem dX6_init_527 : decode cX6_init 527 = .ok (.bipush 108, 2) := by decide +kernel
theorem dX6_init_529 : decode cX6_init 529 = .ok (.iastore, 1) := by decide +kernel
theorem dX6_init_530 : decode cX6_init 530 = .ok (.dup, 1) := by decide +kernel
theorem dX6_init_531 : decode cX6_init 531 = .ok (.bipush 35, 2) := by decide +kernel
theorem dX6_init_533 : decode cX6_init 533 = .ok (.bipush 100, 2) := by decide +kernel
theorem dX6_init_535 : decode cX6_init 535 = .ok (.iastore, 1) := by decide +kernel
theorem dX6_init_536 : decode cX6_init 536 = .ok (.dup, 1) := by decide +kernel
theorem dX6_init_537 : decode cX6_init 537 = .ok (.bipush 36, 2) := by decide +kernel
theorem dX6_init_539 : decode cX6_init 539 = .ok (.bipush 32, 2) := by decide +kernel
theorem dX6_init_541 : decode cX6_init 541 = .ok (.iastore, 1) := by decide +kernel
theorem dX6_init_542 : decode cX6_init 542 = .ok (.dup, 1) := by decide +kernel
theorem dX6_init_543 : decode cX6_init 543 = .ok (.bipush 37, 2) := by decide +kernel
theorem dX6_init_545 : decode cX6_init 545 = .ok (.bipush 32, 2) := by decide +kernel
theorem dX6_init_547 : decode cX6_init 547 = .ok (.iastore, 1) := by decide +kernel
theorem dX6_init_548 : decode cX6_init 548 = .ok (.dup, 1) := by decide +kernel
theorem dX6_init_549 : decode cX6_init 549 = .ok (.bipush 38, 2) := by decide +kernel
theorem dX6_init_551 : decode cX6_init 551 = .ok (.bipush 32, 2) := by decide +kernel
theorem dX6_init_553 : decode cX6_init 553 = .ok (.iastore, 1) := by decide +kernel
theorem dX6_init_554 : decode cX6_init 554 = .ok (.dup, 1) := by decide +kernel
theorem dX6_init_555 : decode cX6_init 555 = .ok (.bipush 39, 2) := by decide +kernel
theorem dX6_init_557 : decode cX6_init 557 = .ok (.bipush 32, 2) := by decide +kernel
theorem dX6_init_559 : decode cX6_init 559 = .ok (.iastore, 1) := by decide +kernel
theorem dX6_init_560 : decode cX6_init 560 = .ok (.dup, 1) := by decide +kernel
theorem dX6_init_561 : decode cX6_init 561 = .ok (.bipush 40, 2) := by decide +kernel
theorem dX6_init_563 : decode cX6_init 563 = .ok (.bipush 104, 2) := by decide +kernel
theorem dX6_init_565 : decode cX6_init 565 = .ok (.iastore, 1) := by decide +kernel
theorem dX6_init_566 : decode cX6_init 566 = .ok (.dup, 1) := by decide +kernel
theorem dX6_init_567 : decode cX6_init 567 = .ok (.bipush 41, 2) := by decide +kernel
theorem dX6_init_569 : decode cX6_init 569 = .ok (.bipush 111, 2) := by decide +kernel
theorem dX6_init_571 : decode cX6_init 571 = .ok (.iastore, 1) := by decide +kernel
theorem dX6_init_572 : decode cX6_init 572 = .ok (.dup, 1) := by decide +kernel
theorem dX6_init_573 : decode cX6_init 573 = .ok (.bipush 42, 2) := by decide +kernel
theorem dX6_init_575 : decode cX6_init 575 = .ok (.bipush 117, 2) := by decide +kernel
theorem dX6_init_577 : decode cX6_init 577 = .ok (.iastore, 1) := by decide +kernel
theorem dX6_init_578 : decode cX6_init 578 = .ok (.dup, 1) := by decide +kernel
theorem dX6_init_579 : decode cX6_init 579 = .ok (.bipush 43, 2) := by decide +kernel
theorem dX6_init_581 : decode cX6_init 581 = .ok (.bipush 114, 2) := by decide +kernel
theorem dX6_init_583 : decode cX6_init 583 = .ok (.iastore, 1) := by decide +kernel
theorem dX6_init_584 : decode cX6_init 584 = .ok (.dup, 1) := by decide +kernel
theorem dX6_init_585 : decode cX6_init 585 = .ok (.bipush 44, 2) := by decide +kernel
theorem dX6_init_587 : decode cX6_init 587 = .ok (.bipush 32, 2) := by decide +kernel
theorem dX6_init_589 : decode cX6_init 589 = .ok (.iastore, 1) := by decide +kernel
theorem dX6_init_590 : decode cX6_init 590 = .ok (.dup, 1) := by decide +kernel
theorem dX6_init_591 : decode cX6_init 591 = .ok (.bipush 45, 2) := by decide +kernel
theorem dX6_init_593 : decode cX6_init 593 = .ok (.bipush 32, 2) := by decide +kernel
theorem dX6_init_595 : decode cX6_init 595 = .ok (.iastore, 1) := by decide +kernel
theorem dX6_init_596 : decode cX6_init 596 = .ok (.dup, 1) := by decide +kernel
theorem dX6_init_597 : decode cX6_init 597 = .ok (.bipush 46, 2) := by decide +kernel
theorem dX6_init_599 : decode cX6_init 599 = .ok (.bipush 32, 2) := by decide +kernel
theorem dX6_init_601 : decode cX6_init 601 = .ok (.iastore, 1) := by decide +kernel
theorem dX6_init_602 : decode cX6_init 602 = .ok (.dup, 1) := by decide +kernel
theorem dX6_init_603 : decode cX6_init 603 = .ok (.bipush 47, 2) := by decide +kernel
theorem dX6_init_605 : decode cX6_init 605 = .ok (.bipush 32, 2) := by decide +kernel
theorem dX6_init_607 : decode cX6_init 607 = .ok (.iastore, 1) := by decide +kernel
theorem dX6_init_608 : decode cX6_init 608 = .ok (.dup, 1) := by decide +kernel
theorem dX6_init_609 : decode cX6_init 609 = .ok (.bipush 48, 2) := by decide +kernel
theorem dX6_init_611 : decode cX6_init 611 = .ok (.bipush 108, 2) := by decide +kernel
theorem dX6_init_613 : decode cX6_init 613 = .ok (.iastore, 1) := by decide +kernel
theorem dX6_init_614 : decode cX6_init 614 = .ok (.dup, 1) := by decide +kernel
theorem dX6_init_615 : decode cX6_init 615 = .ok (.bipush 49, 2) := by decide +kernel
theorem dX6_init_617 : decode cX6_init 617 = .ok (.bipush 97, 2) := by decide +kernel
theorem dX6_init_619 : decode cX6_init 619 = .ok (.iastore, 1) := by decide +kernel
theorem dX6_init_620 : decode cX6_init 620 = .ok (.dup, 1) := by decide +kernel
theorem dX6_init_621 : decode cX6_init 621 = .ok (.bipush 50, 2) := by decide +kernel
theorem dX6_init_623 : decode cX6_init 623 = .ok (.bipush 115, 2) := by decide +kernel
theorem dX6_init_625 : decode cX6_init 625 = .ok (.iastore, 1) := by decide +kernel
theorem dX6_init_626 : decode cX6_init 626 = .ok (.dup, 1) := by decide +kernel
theorem dX6_init_627 : decode cX6_init 627 = .ok (.bipush 51, 2) := by decide +kernel
theorem dX6_init_629 : decode cX6_init 629 = .ok (.bipush 116, 2) := by decide +kernel
theorem dX6_init_631 : decode cX6_init 631 = .ok (.iastore, 1) := by decide +kernel
theorem dX6_init_632 : decode cX6_init 632 = .ok (.dup, 1) := by decide +kernel
theorem dX6_init_633 : decode cX6_init 633 = .ok (.bipush 52, 2) := by decide +kernel
theorem dX6_init_635 : decode cX6_init 635 = .ok (.bipush 32, 2) := by decide +kernel
theorem dX6_init_637 : decode cX6_init 637 = .ok (.iastore, 1) := by decide +kernel
theorem dX6_init_638 : decode cX6_init 638 = .ok (.dup, 1) := by decide +kernel
theorem dX6_init_639 : decode cX6_init 639 = .ok (.bipush 53, 2) := by decide +kernel
theorem dX6_init_641 : decode cX6_init 641 = .ok (.bipush 32, 2) := by decide +kernel
theorem dX6_init_643 : decode cX6_init 643 = .ok (.iastore, 1) := by decide +kernel
theorem dX6_init_644 : decode cX6_init 644 = .ok (.dup, 1) := by decide +kernel
theorem dX6_init_645 : decode cX6_init 645 = .ok (.bipush 54, 2) := by decide +kernel
theorem dX6_init_647 : decode cX6_init 647 = .ok (.bipush 32, 2) := by decide +kernel
theorem dX6_init_649 : decode cX6_init 649 = .ok (.iastore, 1) := by decide +kernel
theorem dX6_init_650 : decode cX6_init 650 = .ok (.dup, 1) := by decide +kernel
theorem dX6_init_651 : decode cX6_init 651 = .ok (.bipush 55, 2) := by decide +kernel
theorem dX6_init_653 : decode cX6_init 653 = .ok (.bipush 32, 2) := by decide +kernel
theorem dX6_init_655 : decode cX6_init 655 = .ok (.iastore, 1) := by decide +kernel
theorem dX6_init_656 : decode cX6_init 656 = .ok (.dup, 1) := by decide +kernel
theorem dX6_init_657 : decode cX6_init 657 = .ok (.bipush 56, 2) := by decide +kernel
theorem dX6_init_659 : decode cX6_init 659 = .ok (.bipush 112, 2) := by decide +kernel
theorem dX6_init_661 : decode cX6_init 661 = .ok (.iastore, 1) := by decide +kernel
theorem dX6_init_662 : decode cX6_init 662 = .ok (.dup, 1) := by decide +kernel
theorem dX6_init_663 : decode cX6_init 663 = .ok (.bipush 57, 2) := by decide +kernel
theorem dX6_init_665 : decode cX6_init 665 = .ok (.bipush 101, 2) := by decide +kernel
theorem dX6_init_667 : decode cX6_init 667 = .ok (.iastore, 1) := by decide +kernel
theorem dX6_init_668 : decode cX6_init 668 = .ok (.dup, 1) := by decide +kernel
theorem dX6_init_669 : decode cX6_init 669 = .ok (.bipush 58, 2) := by decide +kernel
theorem dX6_init_671 : decode cX6_init 671 = .ok (.bipush 111, 2) := by decide +kernel
theorem dX6_init_673 : decode cX6_init 673 = .ok (.iastore, 1) := by decide +kernel
theorem dX6_init_674 : decode cX6_init 674 = .ok (.dup, 1) := by decide +kernel
theorem dX6_init_675 : decode cX6_init 675 = .ok (.bipush 59, 2) := by decide +kernel
theorem dX6_init_677 : decode cX6_init 677 = .ok (.bipush 112, 2) := by decide +kernel
theorem dX6_init_679 : decode cX6_init 679 = .ok (.iastore, 1) := by decide +kernel
theorem dX6_init_680 : decode cX6_init 680 = .ok (.dup, 1) := by decide +kernel
theorem dX6_init_681 : decode cX6_init 681 = .ok (.bipush 60, 2) := by decide +kernel
theorem dX6_init_683 : decode cX6_init 683 = .ok (.bipush 108, 2) := by decide +kernel
theorem dX6_init_685 : decode cX6_init 685 = .ok (.iastore, 1) := by decide +kernel
theorem dX6_init_686 : decode cX6_init 686 = .ok (.dup, 1) := by decide +kernel
theorem dX6_init_687 : decode cX6_init 687 = .ok (.bipush 61, 2) := by decide +kernel
theorem dX6_init_689 : decode cX6_init 689 = .ok (.bipush 101, 2) := by decide +kernel
theorem dX6_init_691 : decode cX6_init 691 = .ok (.iastore, 1) := by decide +kernel
theorem dX6_init_692 : decode cX6_init 692 = .ok (.dup, 1) := by decide +kernel
theorem dX6_init_693 : decode cX6_init 693 = .ok (.bipush 62, 2) := by decide +kernel
theorem dX6_init_695 : decode cX6_init 695 = .ok (.bipush 32, 2) := by decide +kernel
theorem dX6_init_697 : decode cX6_init 697 = .ok (.iastore, 1) := by decide +kernel
theorem dX6_init_698 : decode cX6_init 698 = .ok (.dup, 1) := by decide +kernel
theorem dX6_init_699 : decode cX6_init 699 = .ok (.bipush 63, 2) := by decide +kernel
theorem dX6_init_701 : decode cX6_init 701 = .ok (.bipush 32, 2) := by decide +kernel
theorem dX6_init_703 : decode cX6_init 703 = .ok (.iastore, 1) := by decide +kernel
theorem dX6_init_704 : decode cX6_init 704 = .ok (.dup, 1) := by decide +kernel
theorem dX6_init_705 : decode cX6_init 705 = .ok (.bipush 64, 2) := by decide +kernel
theorem dX6_init_707 : decode cX6_init 707 = .ok (.bipush 109, 2) := by decide +kernel
theorem dX6_init_709 : decode cX6_init 709 = .ok (.iastore, 1) := by decide +kernel
theorem dX6_init_710 : decode cX6_init 710 = .ok (.dup, 1) := by decide +kernel
theorem dX6_init_711 : decode cX6_init 711 = .ok (.bipush 65, 2) := by decide +kernel
theorem dX6_init_713 : decode cX6_init 713 = .ok (.bipush 111, 2) := by decide +kernel
theorem dX6_init_715 : decode cX6_init 715 = .ok (.iastore, 1) := by decide +kernel
theorem dX6_init_716 : decode cX6_init 716 = .ok (.dup, 1) := by decide +kernel
theorem dX6_init_717 : decode cX6_init 717 = .ok (.bipush 66, 2) := by decide +kernel
theorem dX6_init_719 : decode cX6_init 719 = .ok (.bipush 114, 2) := by decide +kernel
theorem dX6_init_721 : decode cX6_init 721 = .ok (.iastore, 1) := by decide +kernel
theorem dX6_init_722 : decode cX6_init 722 = .ok (.dup, 1) := by decide +kernel
theorem dX6_init_723 : decode cX6_init 723 = .ok (.bipush 67, 2) := by decide +kernel
theorem dX6_init_725 : decode cX6_init 725 = .ok (.bipush 101, 2) := by decide +kernel
theorem dX6_init_727 : decode cX6_init 727 = .ok (.iastore, 1) := by decide +kernel
theorem dX6_init_728 : decode cX6_init 728 = .ok (.dup, 1) := by decide +kernel
theorem dX6_init_729 : decode cX6_init 729 = .ok (.bipush 68, 2) := by decide +kernel
theorem dX6_init_731 : decode cX6_init 731 = .ok (.bipush 32, 2) := by decide +kernel
theorem dX6_init_733 : decode cX6_init 733 = .ok (.iastore, 1) := by decide +kernel
theorem dX6_init_734 : decode cX6_init 734 = .ok (.dup, 1) := by decide +kernel
theorem dX6_init_735 : decode cX6_init 735 = .ok (.bipush 69, 2) := by decide +kernel
theorem dX6_init_737 : decode cX6_init 737 = .ok (.bipush 32, 2) := by decide +kernel
theorem dX6_init_739 : decode cX6_init 739 = .ok (.iastore, 1) := by decide +kernel
theorem dX6_init_740 : decode cX6_init 740 = .ok (.dup, 1) := by decide +kernel
theorem dX6_init_741 : decode cX6_init 741 = .ok (.bipush 70, 2) := by decide +kernel
theorem dX6_init_743 : decode cX6_init 743 = .ok (.bipush 32, 2) := by decide +kernel
theorem dX6_init_745 : decode cX6_init 745 = .ok (.iastore, 1) := by decide +kernel
theorem dX6_init_746 : decode cX6_init 746 = .ok (.dup, 1) := by decide +kernel
theorem dX6_init_747 : decode cX6_init 747 = .ok (.bipush 71, 2) := by decide +kernel
theorem dX6_init_749 : decode cX6_init 749 = .ok (.bipush 32, 2) := by decide +kernel
theorem dX6_init_751 : decode cX6_init 751 = .ok (.iastore, 1) := by decide +kernel
theorem dX6_init_752 : decode cX6_init 752 = .ok (.dup, 1) := by decide +kernel
theorem dX6_init_753 : decode cX6_init 753 = .ok (.bipush 72, 2) := by decide +kernel
theorem dX6_init_755 : decode cX6_init 755 = .ok (.bipush 111, 2) := by decide +kernel
theorem dX6_init_757 : decode cX6_init 757 = .ok (.iastore, 1) := by decide +kernel
theorem dX6_init_758 : decode cX6_init 758 = .ok (.dup, 1) := by decide +kernel
theorem dX6_init_759 : decode cX6_init 759 = .ok (.bipush 73, 2) := by decide +kernel
theorem dX6_init_761 : decode cX6_init 761 = .ok (.bipush 114, 2) := by decide +kernel
theorem dX6_init_763 : decode cX6_init 763 = .ok (.iastore, 1) := by decide +kernel
theorem dX6_init_764 : decode cX6_init 764 = .ok (.dup, 1) := by decide +kernel
theorem dX6_init_765 : decode cX6_init 765 = .ok (.bipush 74, 2) := by decide +kernel
theorem dX6_init_767 : decode cX6_init 767 = .ok (.bipush 32, 2) := by decide +kernel
theorem dX6_init_769 : decode cX6_init 769 = .ok (.iastore, 1) := by decide +kernel
theorem dX6_init_770 : decode cX6_init 770 = .ok (.dup, 1) := by decide +kernel
theorem dX6_init_771 : decode cX6_init 771 = .ok (.bipush 75, 2) := by decide +kernel
theorem dX6_init_773 : decode cX6_init 773 = .ok (.bipush 32, 2) := by decide +kernel
theorem dX6_init_775 : decode cX6_init 775 = .ok (.iastore, 1) := by decide +kernel
theorem dX6_init_776 : decode cX6_init 776 = .ok (.dup, 1) := by decide +kernel
theorem dX6_init_777 : decode cX6_init 777 = .ok (.bipush 76, 2) := by decide +kernel
theorem dX6_init_779 : decode cX6_init 779 = .ok (.bipush 32, 2) := by decide +kernel
theorem dX6_init_781 : decode cX6_init 781 = .ok (.iastore, 1) := by decide +kernel
theorem dX6_init_782 : decode cX6_init 782 = .ok (.dup, 1) := by decide +kernel
theorem dX6_init_783 : decode cX6_init 783 = .ok (.bipush 77, 2) := by decide +kernel
theorem dX6_init_785 : decode cX6_init 785 = .ok (.bipush 32, 2) := by decide +kernel
theorem dX6_init_787 : decode cX6_init 787 = .ok (.iastore, 1) := by decide +kernel
theorem dX6_init_788 : decode cX6_init 788 = .ok (.dup, 1) := by decide +kernel
theorem dX6_init_789 : decode cX6_init 789 = .ok (.bipush 78, 2) := by decide +kernel
theorem dX6_init_791 : decode cX6_init 791 = .ok (.bipush 32, 2) := by decide +kernel
theorem dX6_init_793 : decode cX6_init 793 = .ok (.iastore, 1) := by decide +kernel
theorem dX6_init_794 : decode cX6_init 794 = .ok (.dup, 1) := by decide +kernel
theorem dX6_init_795 : decode cX6_init 795 = .ok (.bipush 79, 2) := by decide +kernel
theorem dX6_init_797 : decode cX6_init 797 = .ok (.bipush 32, 2) := by decide +kernel
theorem dX6_init_799 : decode cX6_init 799 = .ok (.iastore, 1) := by decide +kernel
theorem dX6_init_800 : decode cX6_init 800 = .ok (.dup, 1) := by decide +kernel
theorem dX6_init_801 : decode cX6_init 801 = .ok (.bipush 80, 2) := by decide +kernel
theorem dX6_init_803 : decode cX6_init 803 = .ok (.bipush 97, 2) := by decide +kernel
theorem dX6_init_805 : decode cX6_init 805 = .ok (.iastore, 1) := by decide +kernel
theorem dX6_init_806 : decode cX6_init 806 = .ok (.dup, 1) := by decide +kernel
theorem dX6_init_807 : decode cX6_init 807 = .ok (.bipush 81, 2) := by decide +kernel
theorem dX6_init_809 : decode cX6_init 809 = .ok (.bipush 110, 2) := by decide +kernel
theorem dX6_init_811 : decode cX6_init 811 = .ok (.iastore, 1) := by decide +kernel
theorem dX6_init_812 : decode cX6_init 812 = .ok (.dup, 1) := by decide +kernel
theorem dX6_init_813 : decode cX6_init 813 = .ok (.bipush 82, 2) := by decide +kernel
theorem dX6_init_815 : decode cX6_init 815 = .ok (.bipush 100, 2) := by decide +kernel
theorem dX6_init_817 : decode cX6_init 817 = .ok (.iastore, 1) := by decide +kernel
theorem dX6_init_818 : decode cX6_init 818 = .ok (.dup, 1) := by decide +kernel
theorem dX6_init_819 : decode cX6_init 819 = .ok (.bipush 83, 2) := by decide +kernel
theorem dX6_init_821 : decode cX6_init 821 = .ok (.bipush 32, 2) := by decide +kernel
theorem dX6_init_823 : decode cX6_init 823 = .ok (.iastore, 1) := by decide +kernel
theorem dX6_init_824 : decode cX6_init 824 = .ok (.dup, 1) := by decide +kernel
theorem dX6_init_825 : decode cX6_init 825 = .ok (.bipush 84, 2) := by decide +kernel
theorem dX6_init_827 : decode cX6_init 827 = .ok (.bipush 32, 2) := by decide +kernel
theorem dX6_init_829 : decode cX6_init 829 = .ok (.iastore, 1) := by decide +kernel
theorem dX6_init_830 : decode cX6_init 830 = .ok (.dup, 1) := by decide +kernel
theorem dX6_init_831 : decode cX6_init 831 = .ok (.bipush 85, 2) := by decide +kernel
theorem dX6_init_833 : decode cX6_init 833 = .ok (.bipush 32, 2) := by decide +kernel
theorem dX6_init_835 : decode cX6_init 835 = .ok (.iastore, 1) := by decide +kernel
theorem dX6_init_836 : decode cX6_init 836 = .ok (.dup, 1) := by decide +kernel
theorem dX6_init_837 : decode cX6_init 837 = .ok (.bipush 86, 2) := by decide +kernel
theorem dX6_init_839 : decode cX6_init 839 = .ok (.bipush 32, 2) := by decide +kernel
theorem dX6_init_841 : decode cX6_init 841 = .ok (.iastore, 1) := by decide +kernel
theorem dX6_init_842 : decode cX6_init 842 = .ok (.dup, 1) := by decide +kernel
theorem dX6_init_843 : decode cX6_init 843 = .ok (.bipush 87, 2) := by decide +kernel
theorem dX6_init_845 : decode cX6_init 845 = .ok (.bipush 32, 2) := by decide +kernel
theorem dX6_init_847 : decode cX6_init 847 = .ok (.iastore, 1) := by decide +kernel
theorem dX6_init_848 : decode cX6_init 848 = .ok (.dup, 1) := by decide +kernel
theorem dX6_init_849 : decode cX6_init 849 = .ok (.bipush 88, 2) := by decide +kernel
theorem dX6_init_851 : decode cX6_init 851 = .ok (.bipush 110, 2) := by decide +kernel
theorem dX6_init_853 : decode cX6_init 853 = .ok (.iastore, 1) := by decide +kernel
theorem dX6_init_854 : decode cX6_init 854 = .ok (.dup, 1) := by decide +kernel
theorem dX6_init_855 : decode cX6_init 855 = .ok (.bipush 89, 2) := by decide +kernel
theorem dX6_init_857 : decode cX6_init 857 = .ok (.bipush 111, 2) := by decide +kernel
theorem dX6_init_859 : decode cX6_init 859 = .ok (.iastore, 1) := by decide +kernel
theorem dX6_init_860 : decode cX6_init 860 = .ok (.dup, 1) := by decide +kernel
theorem dX6_init_861 : decode cX6_init 861 = .ok (.bipush 90, 2) := by decide +kernel
theorem dX6_init_863 : decode cX6_init 863 = .ok (.bipush 116, 2) := by decide +kernel
theorem dX6_init_865 : decode cX6_init 865 = .ok (.iastore, 1) := by decide +kernel
theorem dX6_init_866 : decode cX6_init 866 = .ok (.dup, 1) := by decide +kernel
theorem dX6_init_867 : decode cX6_init 867 = .ok (.bipush 91, 2) := by decide +kernel
theorem dX6_init_869 : decode cX6_init 869 = .ok (.bipush 32, 2) := by decide +kernel
theorem dX6_init_871 : decode cX6_init 871 = .ok (.iastore, 1) := by decide +kernel
theorem dX6_init_872 : decode cX6_init 872 = .ok (.dup, 1) := by decide +kernel
theorem dX6_init_873 : decode cX6_init 873 = .ok (.bipush 92, 2) := by decide +kernel
theorem dX6_init_875 : decode cX6_init 875 = .ok (.bipush 32, 2) := by decide +kernel
theorem dX6_init_877 : decode cX6_init 877 = .ok (.iastore, 1) := by decide +kernel
theorem dX6_init_878 : decode cX6_init 878 = .ok (.dup, 1) := by decide +kernel
theorem dX6_init_879 : decode cX6_init 879 = .ok (.bipush 93, 2) := by decide +kernel
theorem dX6_init_881 : decode cX6_init 881 = .ok (.bipush 32, 2) := by decide +kernel
theorem dX6_init_883 : decode cX6_init 883 = .ok (.iastore, 1) := by decide +kernel
theorem dX6_init_884 : decode cX6_init 884 = .ok (.dup, 1) := by decide +kernel
theorem dX6_init_885 : decode cX6_init 885 = .ok (.bipush 94, 2) := by decide +kernel
theorem dX6_init_887 : decode cX6_init 887 = .ok (.bipush 32, 2) := by decide +kernel
theorem dX6_init_889 : decode cX6_init 889 = .ok (.iastore, 1) := by decide +kernel
theorem dX6_init_890 : decode cX6_init 890 = .ok (.dup, 1) := by decide +kernel
theorem dX6_init_891 : decode cX6_init 891 = .ok (.bipush 95, 2) := by decide +kernel
theorem dX6_init_893 : decode cX6_init 893 = .ok (.bipush 32, 2) := by decide +kernel
theorem dX6_init_895 : decode cX6_init 895 = .ok (.iastore, 1) := by decide +kernel
theorem dX6_init_896 : decode cX6_init 896 = .ok (.putfield 49, 3) := by decide +kernel
theorem dX6_init_899 : decode cX6_init 899 = .ok (.aload_n 0, 1) := by decide +kernel
theorem dX6_init_900 : decode cX6_init 900 = .ok (.sipush 200, 3) := by decide +kernel
theorem dX6_init_903 : decode cX6_init 903 = .ok (.newarray .int, 2) := by decide +kernel
theorem dX6_init_905 : decode cX6_init 905 = .ok (.putfield 52, 3) := by decide +kernel
theorem dX6_init_908 : decode cX6_init 908 = .ok (.aload_n 0, 1) := by decide +kernel
theorem dX6_init_909 : decode cX6_init 909 = .ok (.sipush 200, 3) := by decide +kernel
theorem dX6_init_912 : decode cX6_init 912 = .ok (.newarray .int, 2) := by decide +kernel
theorem dX6_init_914 : decode cX6_init 914 = .ok (.putfield 55, 3) := by decide +kernel
theorem dX6_init_917 : decode cX6_init 917 = .ok (.aload_n 0, 1) := by decide +kernel
theorem dX6_init_918 : decode cX6_init 918 = .ok (.bipush 6, 2) := by decide +kernel
theorem dX6_init_920 : decode cX6_init 920 = .ok (.newarray .int, 2) := by decide +kernel
theorem dX6_init_922 : decode cX6_init 922 = .ok (.putfield 58, 3) := by decide +kernel
theorem dX6_init_925 : decode cX6_init 925 = .ok (.aload_n 0, 1) := by decide +kernel
theorem dX6_init_926 : decode cX6_init 926 = .ok (.bipush 27, 2) := by decide +kernel
theorem dX6_init_928 : decode cX6_init 928 = .ok (.newarray .int, 2) := by decide +kernel
theorem dX6_init_930 : decode cX6_init 930 = .ok (.putfield 61, 3) := by decide +kernel
theorem dX6_init_933 : decode cX6_init 933 = .ok (.aload_n 0, 1) := by decide +kernel
theorem dX6_init_934 : decode cX6_init 934 = .ok (.bipush 24, 2) := by decide +kernel
theorem dX6_init_936 : decode cX6_init 936 = .ok (.newarray .int, 2) := by decide +kernel
theorem dX6_init_938 : decode cX6_init 938 = .ok (.putfield 64, 3) := by decide +kernel
theorem dX6_init_941 : decode cX6_init 941 = .ok (.aload_n 0, 1) := by decide +kernel
theorem dX6_init_942 : decode cX6_init 942 = .ok (.bipush 24, 2) := by decide +kernel
theorem dX6_init_944 : decode cX6_init 944 = .ok (.newarray .int, 2) := by decide +kernel
theorem dX6_init_946 : decode cX6_init 946 = .ok (.putfield 67, 3) := by decide +kernel
theorem dX6_init_949 : decode cX6_init 949 = .ok (.iconst 0, 1) := by decide +kernel
theorem dX6_init_950 : decode cX6_init 950 = .ok (.istore_n 1, 1) := by decide +kernel
theorem dX6_init_951 : decode cX6_init 951 = .ok (.iload_n 1, 1) := by decide +kernel
theorem dX6_init_952 : decode cX6_init 952 = .ok (.bipush 34, 2) := by decide +kernel
theorem dX6_init_954 : decode cX6_init 954 = .ok (.if_icmp .ge 21, 3) := by decide +kernel
theorem dX6_init_957 : decode cX6_init 957 = .ok (.aload_n 0, 1) := by decide +kernel
theorem dX6_init_958 : decode cX6_init 958 = .ok (.getfield 22, 3) := by decide +kernel
theorem dX6_init_961 : decode cX6_init 961 = .ok (.iload_n 1, 1) := by decide +kernel
theorem dX6_init_962 : decode cX6_init 962 = .ok (.aload_n 0, 1) := by decide +kernel
theorem dX6_init_963 : decode cX6_init 963 = .ok (.getfield 46, 3) := by decide +kernel
theorem dX6_init_966 : decode cX6_init 966 = .ok (.iload_n 1, 1) := by decide +kernel
theorem dX6_init_967 : decode cX6_init 967 = .ok (.iaload, 1) := by decide +kernel
theorem dX6_init_968 : decode cX6_init 968 = .ok (.iastore, 1) := by decide +kernel
theorem dX6_init_969 : decode cX6_init 969 = .ok (.iinc 1 1, 3) := by decide +kernel
theorem dX6_init_972 : decode cX6_init 972 = .ok (.goto (-21), 3) := by decide +kernel
theorem dX6_init_975 : decode cX6_init 975 = .ok (.aload_n 0, 1) := by decide +kernel
theorem dX6_init_976 : decode cX6_init 976 = .ok (.bipush 34, 2) := by decide +kernel
theorem dX6_init_978 : decode cX6_init 978 = .ok (.putfield 70, 3) := by decide +kernel
theorem dX6_init_981 : decode cX6_init 981 = .ok (.aload_n 0, 1) := by decide +kernel
theorem dX6_init_982 : decode cX6_init 982 = .ok (.invokevirtual 74, 3) := by decide +kernel
theorem dX6_init_985 : decode cX6_init 985 = .ok (.pop, 1) := by decide +kernel
theorem dX6_init_986 : decode cX6_init 986 = .ok (.return_, 1) := by decide +kernel
theorem dX6_in_0 : decode cX6_in 0 = .ok (.iload_n 0, 1) := by decide +kernel
theorem dX6_in_1 : decode cX6_in 1 = .ok (.iload_n 1, 1) := by decide +kernel
theorem dX6_in_2 : decode cX6_in 2 = .ok (.if_icmp .lt 12, 3) := by decide +kernel
theorem dX6_in_5 : decode cX6_in 5 = .ok (.iload_n 0, 1) := by decide +kernel
theorem dX6_in_6 : decode cX6_in 6 = .ok (.iload_n 2, 1) := by decide +kernel
theorem dX6_in_7 : decode cX6_in 7 = .ok (.if_icmp .gt 7, 3) := by decide +kernel
theorem dX6_in_10 : decode cX6_in 10 = .ok (.iconst 1, 1) := by decide +kernel
theorem dX6_in_11 : decode cX6_in 11 = .ok (.goto 4, 3) := by decide +kernel
theorem dX6_in_14 : decode cX6_in 14 = .ok (.iconst 0, 1) := by decide +kernel
theorem dX6_in_15 : decode cX6_in 15 = .ok (.ireturn, 1) := by decide +kernel
theorem dX6_within_0 : decode cX6_within 0 = .ok (.iload_n 0, 1) := by decide +kernel
theorem dX6_within_1 : decode cX6_within 1 = .ok (.iload_n 1, 1) := by decide +kernel
theorem dX6_within_2 : decode cX6_within 2 = .ok (.if_icmp .ge 7, 3) := by decide +kernel
theorem dX6_within_5 : decode cX6_within 5 = .ok (.iload_n 1, 1) := by decide +kernel
theorem dX6_within_6 : decode cX6_within 6 = .ok (.goto 13, 3) := by decide +kernel
theorem dX6_within_9 : decode cX6_within 9 = .ok (.iload_n 0, 1) := by decide +kernel
theorem dX6_within_10 : decode cX6_within 10 = .ok (.iload_n 2, 1) := by decide +kernel
theorem dX6_within_11 : decode cX6_within 11 = .ok (.if_icmp .le 7, 3) := by decide +kernel
theorem dX6_within_14 : decode cX6_within 14 = .ok (.iload_n 2, 1) := by decide +kernel
theorem dX6_within_15 : decode cX6_within 15 = .ok (.goto 4, 3) := by decide +kernel
theorem dX6_within_18 : decode cX6_within 18 = .ok (.iload_n 0, 1) := by decide +kernel
theorem dX6_within_19 : decode cX6_within 19 = .ok (.ireturn, 1) := by decide +kernel
theorem dX6_onesOf_0 : decode cX6_onesOf 0 = .ok (.iconst 0, 1) := by decide +kernel
theorem dX6_onesOf_1 : decode cX6_onesOf 1 = .ok (.istore_n 1, 1) := by decide +kernel
theorem dX6_onesOf_2 : decode cX6_onesOf 2 = .ok (.iconst 0, 1) := by decide +kernel
theorem dX6_onesOf_3 : decode cX6_onesOf 3 = .ok (.istore_n 2, 1) := by decide +kernel
theorem dX6_onesOf_4 : decode cX6_onesOf 4 = .ok (.iload_n 2, 1) := by decide +kernel
theorem dX6_onesOf_5 : decode cX6_onesOf 5 = .ok (.bipush 6, 2) := by decide +kernel
theorem dX6_onesOf_7 : decode cX6_onesOf 7 = .ok (.if_icmp .ge 17, 3) := by decide +kernel
theorem dX6_onesOf_10 : decode cX6_onesOf 10 = .ok (.iload_n 1, 1) := by decide +kernel
theorem dX6_onesOf_11 : decode cX6_onesOf 11 = .ok (.iload_n 0, 1) := by decide +kernel
theorem dX6_onesOf_12 : decode cX6_onesOf 12 = .ok (.iload_n 2, 1) := by decide +kernel
theorem dX6_onesOf_13 : decode cX6_onesOf 13 = .ok (.ishr, 1) := by decide +kernel
theorem dX6_onesOf_14 : decode cX6_onesOf 14 = .ok (.iconst 1, 1) := by decide +kernel
theorem dX6_onesOf_15 : decode cX6_onesOf 15 = .ok (.iand, 1) := by decide +kernel
theorem dX6_onesOf_16 : decode cX6_onesOf 16 = .ok (.iadd, 1) := by decide +kernel
theorem dX6_onesOf_17 : decode cX6_onesOf 17 = .ok (.istore_n 1, 1) := by decide +kernel
theorem dX6_onesOf_18 : decode cX6_onesOf 18 = .ok (.iinc 2 1, 3) := by decide +kernel
theorem dX6_onesOf_21 : decode cX6_onesOf 21 = .ok (.goto (-17), 3) := by decide +kernel
theorem dX6_onesOf_24 : decode cX6_onesOf 24 = .ok (.iload_n 1, 1) := by decide +kernel
theorem dX6_onesOf_25 : decode cX6_onesOf 25 = .ok (.ireturn, 1) := by decide +kernel
theorem dX6_isOne_0 : decode cX6_isOne 0 = .ok (.iload_n 1, 1) := by decide +kernel
theorem dX6_isOne_1 : decode cX6_isOne 1 = .ok (.iconst 0, 1) := by decide +kernel
theorem dX6_isOne_2 : decode cX6_isOne 2 = .ok (.aload_n 0, 1) := by decide +kernel
theorem dX6_isOne_3 : decode cX6_isOne 3 = .ok (.getfield 78, 3) := by decide +kernel
theorem dX6_isOne_6 : decode cX6_isOne 6 = .ok (.iconst 1, 1) := by decide +kernel
theorem dX6_isOne_7 : decode cX6_isOne 7 = .ok (.isub, 1) := by decide +kernel
theorem dX6_isOne_8 : decode cX6_isOne 8 = .ok (.invokestatic 81, 3) := by decide +kernel
theorem dX6_isOne_11 : decode cX6_isOne 11 = .ok (.ireturn, 1) := by decide +kernel
theorem dX6_ofDay_0 : decode cX6_ofDay 0 = .ok (.aload_n 0, 1) := by decide +kernel
theorem dX6_ofDay_1 : decode cX6_ofDay 1 = .ok (.getfield 19, 3) := by decide +kernel
theorem dX6_ofDay_4 : decode cX6_ofDay 4 = .ok (.iconst 0, 1) := by decide +kernel
theorem dX6_ofDay_5 : decode cX6_ofDay 5 = .ok (.iaload, 1) := by decide +kernel
theorem dX6_ofDay_6 : decode cX6_ofDay 6 = .ok (.bipush 24, 2) := by decide +kernel
theorem dX6_ofDay_8 : decode cX6_ofDay 8 = .ok (.irem, 1) := by decide +kernel
theorem dX6_ofDay_9 : decode cX6_ofDay 9 = .ok (.ireturn, 1) := by decide +kernel
theorem dX6_count_0 : decode cX6_count 0 = .ok (.iload_n 1, 1) := by decide +kernel
theorem dX6_count_1 : decode cX6_count 1 = .ok (.tableswitch 84 0 6 #[43, 48, 55, 62, 67, 72, 77], 43) := by decide +kernel
theorem dX6_count_44 : decode cX6_count 44 = .ok (.aload_n 0, 1) := by decide +kernel
theorem dX6_count_45 : decode cX6_count 45 = .ok (.getfield 78, 3) := by decide +kernel
theorem dX6_count_48 : decode cX6_count 48 = .ok (.ireturn, 1) := by decide +kernel
theorem dX6_count_49 : decode cX6_count 49 = .ok (.aload_n 0, 1) := by decide +kernel
theorem dX6_count_50 : decode cX6_count 50 = .ok (.getfield 19, 3) := by decide +kernel
theorem dX6_count_53 : decode cX6_count 53 = .ok (.iconst 0, 1) := by decide +kernel
theorem dX6_count_54 : decode cX6_count 54 = .ok (.iaload, 1) := by decide +kernel
theorem dX6_count_55 : decode cX6_count 55 = .ok (.ireturn, 1) := by decide +kernel
theorem dX6_count_56 : decode cX6_count 56 = .ok (.aload_n 0, 1) := by decide +kernel
theorem dX6_count_57 : decode cX6_count 57 = .ok (.getfield 19, 3) := by decide +kernel
theorem dX6_count_60 : decode cX6_count 60 = .ok (.iconst 1, 1) := by decide +kernel
theorem dX6_count_61 : decode cX6_count 61 = .ok (.iaload, 1) := by decide +kernel
theorem dX6_count_62 : decode cX6_count 62 = .ok (.ireturn, 1) := by decide +kernel
theorem dX6_count_63 : decode cX6_count 63 = .ok (.aload_n 0, 1) := by decide +kernel
theorem dX6_count_64 : decode cX6_count 64 = .ok (.getfield 85, 3) := by decide +kernel
theorem dX6_count_67 : decode cX6_count 67 = .ok (.ireturn, 1) := by decide +kernel
theorem dX6_count_68 : decode cX6_count 68 = .ok (.aload_n 0, 1) := by decide +kernel
theorem dX6_count_69 : decode cX6_count 69 = .ok (.getfield 88, 3) := by decide +kernel
theorem dX6_count_72 : decode cX6_count 72 = .ok (.ireturn, 1) := by decide +kernel
theorem dX6_count_73 : decode cX6_count 73 = .ok (.aload_n 0, 1) := by decide +kernel
theorem dX6_count_74 : decode cX6_count 74 = .ok (.getfield 70, 3) := by decide +kernel
theorem dX6_count_77 : decode cX6_count 77 = .ok (.ireturn, 1) := by decide +kernel
theorem dX6_count_78 : decode cX6_count 78 = .ok (.aload_n 0, 1) := by decide +kernel
theorem dX6_count_79 : decode cX6_count 79 = .ok (.getfield 19, 3) := by decide +kernel
theorem dX6_count_82 : decode cX6_count 82 = .ok (.iconst 2, 1) := by decide +kernel
theorem dX6_count_83 : decode cX6_count 83 = .ok (.iaload, 1) := by decide +kernel
theorem dX6_count_84 : decode cX6_count 84 = .ok (.ireturn, 1) := by decide +kernel
theorem dX6_count_85 : decode cX6_count 85 = .ok (.bipush (-2), 2) := by decide +kernel
theorem dX6_count_87 : decode cX6_count 87 = .ok (.ireturn, 1) := by decide +kernel
theorem dX6_clock_0 : decode cX6_clock 0 = .ok (.iload_n 1, 1) := by decide +kernel
theorem dX6_clock_1 : decode cX6_clock 1 = .ok (.iconst 0, 1) := by decide +kernel
theorem dX6_clock_2 : decode cX6_clock 2 = .ok (.sipush 9999, 3) := by decide +kernel
theorem dX6_clock_5 : decode cX6_clock 5 = .ok (.invokestatic 81, 3) := by decide +kernel
theorem dX6_clock_8 : decode cX6_clock 8 = .ok (.ifCond .ne 6, 3) := by decide +kernel
theorem dX6_clock_11 : decode cX6_clock 11 = .ok (.bipush (-2), 2) := by decide +kernel
theorem dX6_clock_13 : decode cX6_clock 13 = .ok (.ireturn, 1) := by decide +kernel
theorem dX6_clock_14 : decode cX6_clock 14 = .ok (.aload_n 0, 1) := by decide +kernel
theorem dX6_clock_15 : decode cX6_clock 15 = .ok (.getfield 19, 3) := by decide +kernel
theorem dX6_clock_18 : decode cX6_clock 18 = .ok (.iconst 0, 1) := by decide +kernel
theorem dX6_clock_19 : decode cX6_clock 19 = .ok (.iaload, 1) := by decide +kernel
theorem dX6_clock_20 : decode cX6_clock 20 = .ok (.istore_n 2, 1) := by decide +kernel
theorem dX6_clock_21 : decode cX6_clock 21 = .ok (.aload_n 0, 1) := by decide +kernel
theorem dX6_clock_22 : decode cX6_clock 22 = .ok (.getfield 19, 3) := by decide +kernel
theorem dX6_clock_25 : decode cX6_clock 25 = .ok (.iconst 0, 1) := by decide +kernel
theorem dX6_clock_26 : decode cX6_clock 26 = .ok (.iload_n 1, 1) := by decide +kernel
theorem dX6_clock_27 : decode cX6_clock 27 = .ok (.iastore, 1) := by decide +kernel
theorem dX6_clock_28 : decode cX6_clock 28 = .ok (.iload_n 2, 1) := by decide +kernel
theorem dX6_clock_29 : decode cX6_clock 29 = .ok (.ireturn, 1) := by decide +kernel
theorem dX6_isByte_0 : decode cX6_isByte 0 = .ok (.iload_n 0, 1) := by decide +kernel
theorem dX6_isByte_1 : decode cX6_isByte 1 = .ok (.iconst 0, 1) := by decide +kernel
theorem dX6_isByte_2 : decode cX6_isByte 2 = .ok (.sipush 255, 3) := by decide +kernel
theorem dX6_isByte_5 : decode cX6_isByte 5 = .ok (.invokestatic 81, 3) := by decide +kernel
theorem dX6_isByte_8 : decode cX6_isByte 8 = .ok (.ireturn, 1) := by decide +kernel
theorem dX6_feed_0 : decode cX6_feed 0 = .ok (.iload_n 1, 1) := by decide +kernel
theorem dX6_feed_1 : decode cX6_feed 1 = .ok (.iconst 1, 1) := by decide +kernel
theorem dX6_feed_2 : decode cX6_feed 2 = .ok (.iconst 5, 1) := by decide +kernel
theorem dX6_feed_3 : decode cX6_feed 3 = .ok (.invokestatic 81, 3) := by decide +kernel
theorem dX6_feed_6 : decode cX6_feed 6 = .ok (.ifCond .eq 41, 3) := by decide +kernel
theorem dX6_feed_9 : decode cX6_feed 9 = .ok (.iload_n 2, 1) := by decide +kernel
theorem dX6_feed_10 : decode cX6_feed 10 = .ok (.invokestatic 91, 3) := by decide +kernel
theorem dX6_feed_13 : decode cX6_feed 13 = .ok (.ifCond .eq 34, 3) := by decide +kernel
theorem dX6_feed_16 : decode cX6_feed 16 = .ok (.iload_n 3, 1) := by decide +kernel
theorem dX6_feed_17 : decode cX6_feed 17 = .ok (.invokestatic 91, 3) := by decide +kernel
theorem dX6_feed_20 : decode cX6_feed 20 = .ok (.ifCond .eq 27, 3) := by decide +kernel
theorem dX6_feed_23 : decode cX6_feed 23 = .ok (.iload 4, 2) := by decide +kernel
theorem dX6_feed_25 : decode cX6_feed 25 = .ok (.invokestatic 91, 3) := by decide +kernel
theorem dX6_feed_28 : decode cX6_feed 28 = .ok (.ifCond .eq 19, 3) := by decide +kernel
theorem dX6_feed_31 : decode cX6_feed 31 = .ok (.iload 5, 2) := by decide +kernel
theorem dX6_feed_33 : decode cX6_feed 33 = .ok (.invokestatic 91, 3) := by decide +kernel
theorem dX6_feed_36 : decode cX6_feed 36 = .ok (.ifCond .eq 11, 3) := by decide +kernel
theorem dX6_feed_39 : decode cX6_feed 39 = .ok (.iload 6, 2) := by decide +kernel
theorem dX6_feed_41 : decode cX6_feed 41 = .ok (.invokestatic 91, 3) := by decide +kernel
theorem dX6_feed_44 : decode cX6_feed 44 = .ok (.ifCond .ne 6, 3) := by decide +kernel
theorem dX6_feed_47 : decode cX6_feed 47 = .ok (.bipush (-2), 2) := by decide +kernel
theorem dX6_feed_49 : decode cX6_feed 49 = .ok (.ireturn, 1) := by decide +kernel
theorem dX6_feed_50 : decode cX6_feed 50 = .ok (.aload_n 0, 1) := by decide +kernel
theorem dX6_feed_51 : decode cX6_feed 51 = .ok (.getfield 70, 3) := by decide +kernel
theorem dX6_feed_54 : decode cX6_feed 54 = .ok (.iload_n 1, 1) := by decide +kernel
theorem dX6_feed_55 : decode cX6_feed 55 = .ok (.iadd, 1) := by decide +kernel
theorem dX6_feed_56 : decode cX6_feed 56 = .ok (.sipush 160, 3) := by decide +kernel
theorem dX6_feed_59 : decode cX6_feed 59 = .ok (.if_icmp .le 6, 3) := by decide +kernel
theorem dX6_feed_62 : decode cX6_feed 62 = .ok (.bipush (-4), 2) := by decide +kernel
theorem dX6_feed_64 : decode cX6_feed 64 = .ok (.ireturn, 1) := by decide +kernel
theorem dX6_feed_65 : decode cX6_feed 65 = .ok (.iconst 0, 1) := by decide +kernel
theorem dX6_feed_66 : decode cX6_feed 66 = .ok (.istore 7, 2) := by decide +kernel
theorem dX6_feed_68 : decode cX6_feed 68 = .ok (.iload 7, 2) := by decide +kernel
theorem dX6_feed_70 : decode cX6_feed 70 = .ok (.iload_n 1, 1) := by decide +kernel
theorem dX6_feed_71 : decode cX6_feed 71 = .ok (.if_icmp .ge 71, 3) := by decide +kernel
theorem dX6_feed_74 : decode cX6_feed 74 = .ok (.aload_n 0, 1) := by decide +kernel
theorem dX6_feed_75 : decode cX6_feed 75 = .ok (.getfield 22, 3) := by decide +kernel
theorem dX6_feed_78 : decode cX6_feed 78 = .ok (.aload_n 0, 1) := by decide +kernel
theorem dX6_feed_79 : decode cX6_feed 79 = .ok (.getfield 70, 3) := by decide +kernel
theorem dX6_feed_82 : decode cX6_feed 82 = .ok (.iload 7, 2) := by decide +kernel
theorem dX6_feed_84 : decode cX6_feed 84 = .ok (.ifCond .ne 7, 3) := by decide +kernel
theorem dX6_feed_87 : decode cX6_feed 87 = .ok (.iload_n 2, 1) := by decide +kernel
theorem dX6_feed_88 : decode cX6_feed 88 = .ok (.goto 37, 3) := by decide +kernel
theorem dX6_feed_91 : decode cX6_feed 91 = .ok (.iload 7, 2) := by decide +kernel
theorem dX6_feed_93 : decode cX6_feed 93 = .ok (.iconst 1, 1) := by decide +kernel
theorem dX6_feed_94 : decode cX6_feed 94 = .ok (.if_icmp .ne 7, 3) := by decide +kernel
theorem dX6_feed_97 : decode cX6_feed 97 = .ok (.iload_n 3, 1) := by decide +kernel
theorem dX6_feed_98 : decode cX6_feed 98 = .ok (.goto 27, 3) := by decide +kernel
theorem dX6_feed_101 : decode cX6_feed 101 = .ok (.iload 7, 2) := by decide +kernel
theorem dX6_feed_103 : decode cX6_feed 103 = .ok (.iconst 2, 1) := by decide +kernel
theorem dX6_feed_104 : decode cX6_feed 104 = .ok (.if_icmp .ne 8, 3) := by decide +kernel
theorem dX6_feed_107 : decode cX6_feed 107 = .ok (.iload 4, 2) := by decide +kernel
theorem dX6_feed_109 : decode cX6_feed 109 = .ok (.goto 16, 3) := by decide +kernel
theorem dX6_feed_112 : decode cX6_feed 112 = .ok (.iload 7, 2) := by decide +kernel
theorem dX6_feed_114 : decode cX6_feed 114 = .ok (.iconst 3, 1) := by decide +kernel
theorem dX6_feed_115 : decode cX6_feed 115 = .ok (.if_icmp .ne 8, 3) := by decide +kernel
theorem dX6_feed_118 : decode cX6_feed 118 = .ok (.iload 5, 2) := by decide +kernel
theorem dX6_feed_120 : decode cX6_feed 120 = .ok (.goto 5, 3) := by decide +kernel
theorem dX6_feed_123 : decode cX6_feed 123 = .ok (.iload 6, 2) := by decide +kernel
theorem dX6_feed_125 : decode cX6_feed 125 = .ok (.iastore, 1) := by decide +kernel
theorem dX6_feed_126 : decode cX6_feed 126 = .ok (.aload_n 0, 1) := by decide +kernel
theorem dX6_feed_127 : decode cX6_feed 127 = .ok (.dup, 1) := by decide +kernel
theorem dX6_feed_128 : decode cX6_feed 128 = .ok (.getfield 70, 3) := by decide +kernel
theorem dX6_feed_131 : decode cX6_feed 131 = .ok (.iconst 1, 1) := by decide +kernel
theorem dX6_feed_132 : decode cX6_feed 132 = .ok (.iadd, 1) := by decide +kernel
theorem dX6_feed_133 : decode cX6_feed 133 = .ok (.putfield 70, 3) := by decide +kernel
theorem dX6_feed_136 : decode cX6_feed 136 = .ok (.iinc 7 1, 3) := by decide +kernel
theorem dX6_feed_139 : decode cX6_feed 139 = .ok (.goto (-71), 3) := by decide +kernel
theorem dX6_feed_142 : decode cX6_feed 142 = .ok (.aload_n 0, 1) := by decide +kernel
theorem dX6_feed_143 : decode cX6_feed 143 = .ok (.getfield 70, 3) := by decide +kernel
theorem dX6_feed_146 : decode cX6_feed 146 = .ok (.ireturn, 1) := by decide +kernel
theorem dX6_wordFrom_0 : decode cX6_wordFrom 0 = .ok (.iconst 0, 1) := by decide +kernel
theorem dX6_wordFrom_1 : decode cX6_wordFrom 1 = .ok (.istore_n 3, 1) := by decide +kernel
theorem dX6_wordFrom_2 : decode cX6_wordFrom 2 = .ok (.iload_n 3, 1) := by decide +kernel
theorem dX6_wordFrom_3 : decode cX6_wordFrom 3 = .ok (.bipush 12, 2) := by decide +kernel
theorem dX6_wordFrom_5 : decode cX6_wordFrom 5 = .ok (.if_icmp .ge 96, 3) := by decide +kernel
theorem dX6_wordFrom_8 : decode cX6_wordFrom 8 = .ok (.iload_n 2, 1) := by decide +kernel
theorem dX6_wordFrom_9 : decode cX6_wordFrom 9 = .ok (.iload_n 1, 1) := by decide +kernel
theorem dX6_wordFrom_10 : decode cX6_wordFrom 10 = .ok (.isub, 1) := by decide +kernel
theorem dX6_wordFrom_11 : decode cX6_wordFrom 11 = .ok (.bipush 8, 2) := by decide +kernel
theorem dX6_wordFrom_13 : decode cX6_wordFrom 13 = .ok (.if_icmp .gt 7, 3) := by decide +kernel
theorem dX6_wordFrom_16 : decode cX6_wordFrom 16 = .ok (.iconst 1, 1) := by decide +kernel
theorem dX6_wordFrom_17 : decode cX6_wordFrom 17 = .ok (.goto 4, 3) := by decide +kernel
theorem dX6_wordFrom_20 : decode cX6_wordFrom 20 = .ok (.iconst 0, 1) := by decide +kernel
theorem dX6_wordFrom_21 : decode cX6_wordFrom 21 = .ok (.istore 4, 2) := by decide +kernel
theorem dX6_wordFrom_23 : decode cX6_wordFrom 23 = .ok (.iconst 0, 1) := by decide +kernel
theorem dX6_wordFrom_24 : decode cX6_wordFrom 24 = .ok (.istore 5, 2) := by decide +kernel
theorem dX6_wordFrom_26 : decode cX6_wordFrom 26 = .ok (.iload 5, 2) := by decide +kernel
theorem dX6_wordFrom_28 : decode cX6_wordFrom 28 = .ok (.bipush 8, 2) := by decide +kernel
theorem dX6_wordFrom_30 : decode cX6_wordFrom 30 = .ok (.if_icmp .ge 58, 3) := by decide +kernel
theorem dX6_wordFrom_33 : decode cX6_wordFrom 33 = .ok (.iload 4, 2) := by decide +kernel
theorem dX6_wordFrom_35 : decode cX6_wordFrom 35 = .ok (.ifCond .eq 53, 3) := by decide +kernel
theorem dX6_wordFrom_38 : decode cX6_wordFrom 38 = .ok (.aload_n 0, 1) := by decide +kernel
theorem dX6_wordFrom_39 : decode cX6_wordFrom 39 = .ok (.getfield 49, 3) := by decide +kernel
theorem dX6_wordFrom_42 : decode cX6_wordFrom 42 = .ok (.bipush 8, 2) := by decide +kernel
theorem dX6_wordFrom_44 : decode cX6_wordFrom 44 = .ok (.iload_n 3, 1) := by decide +kernel
theorem dX6_wordFrom_45 : decode cX6_wordFrom 45 = .ok (.imul, 1) := by decide +kernel
theorem dX6_wordFrom_46 : decode cX6_wordFrom 46 = .ok (.iload 5, 2) := by decide +kernel
theorem dX6_wordFrom_48 : decode cX6_wordFrom 48 = .ok (.iadd, 1) := by decide +kernel
theorem dX6_wordFrom_49 : decode cX6_wordFrom 49 = .ok (.iaload, 1) := by decide +kernel
theorem dX6_wordFrom_50 : decode cX6_wordFrom 50 = .ok (.iload_n 1, 1) := by decide +kernel
theorem dX6_wordFrom_51 : decode cX6_wordFrom 51 = .ok (.iload 5, 2) := by decide +kernel
theorem dX6_wordFrom_53 : decode cX6_wordFrom 53 = .ok (.iadd, 1) := by decide +kernel
theorem dX6_wordFrom_54 : decode cX6_wordFrom 54 = .ok (.iload_n 2, 1) := by decide +kernel
theorem dX6_wordFrom_55 : decode cX6_wordFrom 55 = .ok (.if_icmp .ge 15, 3) := by decide +kernel
theorem dX6_wordFrom_58 : decode cX6_wordFrom 58 = .ok (.aload_n 0, 1) := by decide +kernel
theorem dX6_wordFrom_59 : decode cX6_wordFrom 59 = .ok (.getfield 22, 3) := by decide +kernel
theorem dX6_wordFrom_62 : decode cX6_wordFrom 62 = .ok (.iload_n 1, 1) := by decide +kernel
theorem dX6_wordFrom_63 : decode cX6_wordFrom 63 = .ok (.iload 5, 2) := by decide +kernel
theorem dX6_wordFrom_65 : decode cX6_wordFrom 65 = .ok (.iadd, 1) := by decide +kernel
theorem dX6_wordFrom_66 : decode cX6_wordFrom 66 = .ok (.iaload, 1) := by decide +kernel
theorem dX6_wordFrom_67 : decode cX6_wordFrom 67 = .ok (.goto 5, 3) := by decide +kernel
theorem dX6_wordFrom_70 : decode cX6_wordFrom 70 = .ok (.bipush 32, 2) := by decide +kernel
theorem dX6_wordFrom_72 : decode cX6_wordFrom 72 = .ok (.if_icmp .ne 7, 3) := by decide +kernel
theorem dX6_wordFrom_75 : decode cX6_wordFrom 75 = .ok (.iconst 1, 1) := by decide +kernel
theorem dX6_wordFrom_76 : decode cX6_wordFrom 76 = .ok (.goto 4, 3) := by decide +kernel
theorem dX6_wordFrom_79 : decode cX6_wordFrom 79 = .ok (.iconst 0, 1) := by decide +kernel
theorem dX6_wordFrom_80 : decode cX6_wordFrom 80 = .ok (.istore 4, 2) := by decide +kernel
theorem dX6_wordFrom_82 : decode cX6_wordFrom 82 = .ok (.iinc 5 1, 3) := by decide +kernel
theorem dX6_wordFrom_85 : decode cX6_wordFrom 85 = .ok (.goto (-59), 3) := by decide +kernel
theorem dX6_wordFrom_88 : decode cX6_wordFrom 88 = .ok (.iload 4, 2) := by decide +kernel
theorem dX6_wordFrom_90 : decode cX6_wordFrom 90 = .ok (.ifCond .eq 5, 3) := by decide +kernel
theorem dX6_wordFrom_93 : decode cX6_wordFrom 93 = .ok (.iload_n 3, 1) := by decide +kernel
theorem dX6_wordFrom_94 : decode cX6_wordFrom 94 = .ok (.ireturn, 1) := by decide +kernel
theorem dX6_wordFrom_95 : decode cX6_wordFrom 95 = .ok (.iinc 3 1, 3) := by decide +kernel
theorem dX6_wordFrom_98 : decode cX6_wordFrom 98 = .ok (.goto (-96), 3) := by decide +kernel
theorem dX6_wordFrom_101 : decode cX6_wordFrom 101 = .ok (.bipush 12, 2) := by decide +kernel
theorem dX6_wordFrom_103 : decode cX6_wordFrom 103 = .ok (.ireturn, 1) := by decide +kernel
theorem dX6_next_0 : decode cX6_next 0 = .ok (.aload_n 0, 1) := by decide +kernel
theorem dX6_next_1 : decode cX6_next 1 = .ok (.getfield 95, 3) := by decide +kernel
theorem dX6_next_4 : decode cX6_next 4 = .ok (.aload_n 0, 1) := by decide +kernel
theorem dX6_next_5 : decode cX6_next 5 = .ok (.getfield 70, 3) := by decide +kernel
theorem dX6_next_8 : decode cX6_next 8 = .ok (.if_icmp .ge 44, 3) := by decide +kernel
theorem dX6_next_11 : decode cX6_next 11 = .ok (.aload_n 0, 1) := by decide +kernel
theorem dX6_next_12 : decode cX6_next 12 = .ok (.getfield 22, 3) := by decide +kernel
theorem dX6_next_15 : decode cX6_next 15 = .ok (.aload_n 0, 1) := by decide +kernel
theorem dX6_next_16 : decode cX6_next 16 = .ok (.getfield 95, 3) := by decide +kernel
theorem dX6_next_19 : decode cX6_next 19 = .ok (.iaload, 1) := by decide +kernel
theorem dX6_next_20 : decode cX6_next 20 = .ok (.bipush 32, 2) := by decide +kernel
theorem dX6_next_22 : decode cX6_next 22 = .ok (.if_icmp .eq 17, 3) := by decide +kernel
theorem dX6_next_25 : decode cX6_next 25 = .ok (.aload_n 0, 1) := by decide +kernel
theorem dX6_next_26 : decode cX6_next 26 = .ok (.getfield 22, 3) := by decide +kernel
theorem dX6_next_29 : decode cX6_next 29 = .ok (.aload_n 0, 1) := by decide +kernel
theorem dX6_next_30 : decode cX6_next 30 = .ok (.getfield 95, 3) := by decide +kernel
theorem dX6_next_33 : decode cX6_next 33 = .ok (.iaload, 1) := by decide +kernel
theorem dX6_next_34 : decode cX6_next 34 = .ok (.bipush 10, 2) := by decide +kernel
theorem dX6_next_36 : decode cX6_next 36 = .ok (.if_icmp .ne 16, 3) := by decide +kernel
theorem dX6_next_39 : decode cX6_next 39 = .ok (.aload_n 0, 1) := by decide +kernel
theorem dX6_next_40 : decode cX6_next 40 = .ok (.dup, 1) := by decide +kernel
theorem dX6_next_41 : decode cX6_next 41 = .ok (.getfield 95, 3) := by decide +kernel
theorem dX6_next_44 : decode cX6_next 44 = .ok (.iconst 1, 1) := by decide +kernel
theorem dX6_next_45 : decode cX6_next 45 = .ok (.iadd, 1) := by decide +kernel
theorem dX6_next_46 : decode cX6_next 46 = .ok (.putfield 95, 3) := by decide +kernel
theorem dX6_next_49 : decode cX6_next 49 = .ok (.goto (-49), 3) := by decide +kernel
theorem dX6_next_52 : decode cX6_next 52 = .ok (.aload_n 0, 1) := by decide +kernel
theorem dX6_next_53 : decode cX6_next 53 = .ok (.aload_n 0, 1) := by decide +kernel
theorem dX6_next_54 : decode cX6_next 54 = .ok (.getfield 95, 3) := by decide +kernel
theorem dX6_next_57 : decode cX6_next 57 = .ok (.putfield 98, 3) := by decide +kernel
theorem dX6_next_60 : decode cX6_next 60 = .ok (.aload_n 0, 1) := by decide +kernel
theorem dX6_next_61 : decode cX6_next 61 = .ok (.iconst 0, 1) := by decide +kernel
theorem dX6_next_62 : decode cX6_next 62 = .ok (.putfield 101, 3) := by decide +kernel
theorem dX6_next_65 : decode cX6_next 65 = .ok (.aload_n 0, 1) := by decide +kernel
theorem dX6_next_66 : decode cX6_next 66 = .ok (.iconst 0, 1) := by decide +kernel
theorem dX6_next_67 : decode cX6_next 67 = .ok (.putfield 104, 3) := by decide +kernel
theorem dX6_next_70 : decode cX6_next 70 = .ok (.aload_n 0, 1) := by decide +kernel
theorem dX6_next_71 : decode cX6_next 71 = .ok (.getfield 95, 3) := by decide +kernel
theorem dX6_next_74 : decode cX6_next 74 = .ok (.aload_n 0, 1) := by decide +kernel
theorem dX6_next_75 : decode cX6_next 75 = .ok (.getfield 70, 3) := by decide +kernel
theorem dX6_next_78 : decode cX6_next 78 = .ok (.if_icmp .ne 4, 3) := by decide +kernel
theorem dX6_next_81 : decode cX6_next 81 = .ok (.return_, 1) := by decide +kernel
theorem dX6_next_82 : decode cX6_next 82 = .ok (.aload_n 0, 1) := by decide +kernel
theorem dX6_next_83 : decode cX6_next 83 = .ok (.getfield 22, 3) := by decide +kernel
theorem dX6_next_86 : decode cX6_next 86 = .ok (.aload_n 0, 1) := by decide +kernel
theorem dX6_next_87 : decode cX6_next 87 = .ok (.getfield 95, 3) := by decide +kernel
theorem dX6_next_90 : decode cX6_next 90 = .ok (.iaload, 1) := by decide +kernel
theorem dX6_next_91 : decode cX6_next 91 = .ok (.istore_n 1, 1) := by decide +kernel
theorem dX6_next_92 : decode cX6_next 92 = .ok (.iload_n 1, 1) := by decide +kernel
theorem dX6_next_93 : decode cX6_next 93 = .ok (.bipush 97, 2) := by decide +kernel
theorem dX6_next_95 : decode cX6_next 95 = .ok (.bipush 122, 2) := by decide +kernel
theorem dX6_next_97 : decode cX6_next 97 = .ok (.invokestatic 81, 3) := by decide +kernel
theorem dX6_next_100 : decode cX6_next 100 = .ok (.ifCond .eq 117, 3) := by decide +kernel
theorem dX6_next_103 : decode cX6_next 103 = .ok (.aload_n 0, 1) := by decide +kernel
theorem dX6_next_104 : decode cX6_next 104 = .ok (.getfield 95, 3) := by decide +kernel
theorem dX6_next_107 : decode cX6_next 107 = .ok (.aload_n 0, 1) := by decide +kernel
theorem dX6_next_108 : decode cX6_next 108 = .ok (.getfield 70, 3) := by decide +kernel
theorem dX6_next_111 : decode cX6_next 111 = .ok (.if_icmp .ge 35, 3) := by decide +kernel
theorem dX6_next_114 : decode cX6_next 114 = .ok (.aload_n 0, 1) := by decide +kernel
theorem dX6_next_115 : decode cX6_next 115 = .ok (.getfield 22, 3) := by decide +kernel
theorem dX6_next_118 : decode cX6_next 118 = .ok (.aload_n 0, 1) := by decide +kernel
theorem dX6_next_119 : decode cX6_next 119 = .ok (.getfield 95, 3) := by decide +kernel
theorem dX6_next_122 : decode cX6_next 122 = .ok (.iaload, 1) := by decide +kernel
theorem dX6_next_123 : decode cX6_next 123 = .ok (.bipush 97, 2) := by decide +kernel
theorem dX6_next_125 : decode cX6_next 125 = .ok (.bipush 122, 2) := by decide +kernel
theorem dX6_next_127 : decode cX6_next 127 = .ok (.invokestatic 81, 3) := by decide +kernel
theorem dX6_next_130 : decode cX6_next 130 = .ok (.ifCond .eq 16, 3) := by decide +kernel
theorem dX6_next_133 : decode cX6_next 133 = .ok (.aload_n 0, 1) := by decide +kernel
theorem dX6_next_134 : decode cX6_next 134 = .ok (.dup, 1) := by decide +kernel
theorem dX6_next_135 : decode cX6_next 135 = .ok (.getfield 95, 3) := by decide +kernel
theorem dX6_next_138 : decode cX6_next 138 = .ok (.iconst 1, 1) := by decide +kernel
theorem dX6_next_139 : decode cX6_next 139 = .ok (.iadd, 1) := by decide +kernel
theorem dX6_next_140 : decode cX6_next 140 = .ok (.putfield 95, 3) := by decide +kernel
theorem dX6_next_143 : decode cX6_next 143 = .ok (.goto (-40), 3) := by decide +kernel
theorem dX6_next_146 : decode cX6_next 146 = .ok (.aload_n 0, 1) := by decide +kernel
theorem dX6_next_147 : decode cX6_next 147 = .ok (.aload_n 0, 1) := by decide +kernel
theorem dX6_next_148 : decode cX6_next 148 = .ok (.getfield 98, 3) := by decide +kernel
theorem dX6_next_151 : decode cX6_next 151 = .ok (.aload_n 0, 1) := by decide +kernel
theorem dX6_next_152 : decode cX6_next 152 = .ok (.getfield 95, 3) := by decide +kernel
theorem dX6_next_155 : decode cX6_next 155 = .ok (.invokevirtual 107, 3) := by decide +kernel
theorem dX6_next_158 : decode cX6_next 158 = .ok (.istore_n 2, 1) := by decide +kernel
theorem dX6_next_159 : decode cX6_next 159 = .ok (.aload_n 0, 1) := by decide +kernel
theorem dX6_next_160 : decode cX6_next 160 = .ok (.iload_n 2, 1) := by decide +kernel
theorem dX6_next_161 : decode cX6_next 161 = .ok (.iconst 3, 1) := by decide +kernel
theorem dX6_next_162 : decode cX6_next 162 = .ok (.if_icmp .ge 7, 3) := by decide +kernel
theorem dX6_next_165 : decode cX6_next 165 = .ok (.iconst 3, 1) := by decide +kernel
theorem dX6_next_166 : decode cX6_next 166 = .ok (.goto 29, 3) := by decide +kernel
theorem dX6_next_169 : decode cX6_next 169 = .ok (.iload_n 2, 1) := by decide +kernel
theorem dX6_next_170 : decode cX6_next 170 = .ok (.bipush 9, 2) := by decide +kernel
theorem dX6_next_172 : decode cX6_next 172 = .ok (.if_icmp .ge 7, 3) := by decide +kernel
theorem dX6_next_175 : decode cX6_next 175 = .ok (.iconst 2, 1) := by decide +kernel
theorem dX6_next_176 : decode cX6_next 176 = .ok (.goto 19, 3) := by decide +kernel
theorem dX6_next_179 : decode cX6_next 179 = .ok (.iload_n 2, 1) := by decide +kernel
theorem dX6_next_180 : decode cX6_next 180 = .ok (.bipush 12, 2) := by decide +kernel
theorem dX6_next_182 : decode cX6_next 182 = .ok (.if_icmp .ne 7, 3) := by decide +kernel
theorem dX6_next_185 : decode cX6_next 185 = .ok (.iconst (-1), 1) := by decide +kernel
theorem dX6_next_186 : decode cX6_next 186 = .ok (.goto 9, 3) := by decide +kernel
theorem dX6_next_189 : decode cX6_next 189 = .ok (.iconst 4, 1) := by decide +kernel
theorem dX6_next_190 : decode cX6_next 190 = .ok (.iload_n 2, 1) := by decide +kernel
theorem dX6_next_191 : decode cX6_next 191 = .ok (.iadd, 1) := by decide +kernel
theorem dX6_next_192 : decode cX6_next 192 = .ok (.bipush 9, 2) := by decide +kernel
theorem dX6_next_194 : decode cX6_next 194 = .ok (.isub, 1) := by decide +kernel
theorem dX6_next_195 : decode cX6_next 195 = .ok (.putfield 101, 3) := by decide +kernel
theorem dX6_next_198 : decode cX6_next 198 = .ok (.aload_n 0, 1) := by decide +kernel
theorem dX6_next_199 : decode cX6_next 199 = .ok (.iload_n 2, 1) := by decide +kernel
theorem dX6_next_200 : decode cX6_next 200 = .ok (.iconst 3, 1) := by decide +kernel
theorem dX6_next_201 : decode cX6_next 201 = .ok (.if_icmp .ge 7, 3) := by decide +kernel
theorem dX6_next_204 : decode cX6_next 204 = .ok (.iload_n 2, 1) := by decide +kernel
theorem dX6_next_205 : decode cX6_next 205 = .ok (.goto 6, 3) := by decide +kernel
theorem dX6_next_208 : decode cX6_next 208 = .ok (.iload_n 2, 1) := by decide +kernel
theorem dX6_next_209 : decode cX6_next 209 = .ok (.iconst 3, 1) := by decide +kernel
theorem dX6_next_210 : decode cX6_next 210 = .ok (.isub, 1) := by decide +kernel
theorem dX6_next_211 : decode cX6_next 211 = .ok (.putfield 104, 3) := by decide +kernel
theorem dX6_next_214 : decode cX6_next 214 = .ok (.goto 189, 3) := by decide +kernel
theorem dX6_next_217 : decode cX6_next 217 = .ok (.iload_n 1, 1) := by decide +kernel
theorem dX6_next_218 : decode cX6_next 218 = .ok (.bipush 48, 2) := by decide +kernel
theorem dX6_next_220 : decode cX6_next 220 = .ok (.bipush 57, 2) := by decide +kernel
theorem dX6_next_222 : decode cX6_next 222 = .ok (.invokestatic 81, 3) := by decide +kernel
theorem dX6_next_225 : decode cX6_next 225 = .ok (.ifCond .eq 101, 3) := by decide +kernel
theorem dX6_next_228 : decode cX6_next 228 = .ok (.iconst 0, 1) := by decide +kernel
theorem dX6_next_229 : decode cX6_next 229 = .ok (.istore_n 2, 1) := by decide +kernel
theorem dX6_next_230 : decode cX6_next 230 = .ok (.aload_n 0, 1) := by decide +kernel
theorem dX6_next_231 : decode cX6_next 231 = .ok (.getfield 95, 3) := by decide +kernel
theorem dX6_next_234 : decode cX6_next 234 = .ok (.aload_n 0, 1) := by decide +kernel
theorem dX6_next_235 : decode cX6_next 235 = .ok (.getfield 70, 3) := by decide +kernel
theorem dX6_next_238 : decode cX6_next 238 = .ok (.if_icmp .ge 71, 3) := by decide +kernel
theorem dX6_next_241 : decode cX6_next 241 = .ok (.aload_n 0, 1) := by decide +kernel
theorem dX6_next_242 : decode cX6_next 242 = .ok (.getfield 22, 3) := by decide +kernel
theorem dX6_next_245 : decode cX6_next 245 = .ok (.aload_n 0, 1) := by decide +kernel
theorem dX6_next_246 : decode cX6_next 246 = .ok (.getfield 95, 3) := by decide +kernel
theorem dX6_next_249 : decode cX6_next 249 = .ok (.iaload, 1) := by decide +kernel
theorem dX6_next_250 : decode cX6_next 250 = .ok (.bipush 48, 2) := by decide +kernel
theorem dX6_next_252 : decode cX6_next 252 = .ok (.bipush 57, 2) := by decide +kernel
theorem dX6_next_254 : decode cX6_next 254 = .ok (.invokestatic 81, 3) := by decide +kernel
theorem dX6_next_257 : decode cX6_next 257 = .ok (.ifCond .eq 52, 3) := by decide +kernel
theorem dX6_next_260 : decode cX6_next 260 = .ok (.aload_n 0, 1) := by decide +kernel
theorem dX6_next_261 : decode cX6_next 261 = .ok (.iload_n 2, 1) := by decide +kernel
theorem dX6_next_262 : decode cX6_next 262 = .ok (.iconst 4, 1) := by decide +kernel
theorem dX6_next_263 : decode cX6_next 263 = .ok (.if_icmp .ge 26, 3) := by decide +kernel
theorem dX6_next_266 : decode cX6_next 266 = .ok (.bipush 10, 2) := by decide +kernel
theorem dX6_next_268 : decode cX6_next 268 = .ok (.aload_n 0, 1) := by decide +kernel
theorem dX6_next_269 : decode cX6_next 269 = .ok (.getfield 104, 3) := by decide +kernel
theorem dX6_next_272 : decode cX6_next 272 = .ok (.imul, 1) := by decide +kernel
theorem dX6_next_273 : decode cX6_next 273 = .ok (.aload_n 0, 1) := by decide +kernel
theorem dX6_next_274 : decode cX6_next 274 = .ok (.getfield 22, 3) := by decide +kernel
theorem dX6_next_277 : decode cX6_next 277 = .ok (.aload_n 0, 1) := by decide +kernel
theorem dX6_next_278 : decode cX6_next 278 = .ok (.getfield 95, 3) := by decide +kernel
theorem dX6_next_281 : decode cX6_next 281 = .ok (.iaload, 1) := by decide +kernel
theorem dX6_next_282 : decode cX6_next 282 = .ok (.iadd, 1) := by decide +kernel
theorem dX6_next_283 : decode cX6_next 283 = .ok (.bipush 48, 2) := by decide +kernel
theorem dX6_next_285 : decode cX6_next 285 = .ok (.isub, 1) := by decide +kernel
theorem dX6_next_286 : decode cX6_next 286 = .ok (.goto 4, 3) := by decide +kernel
theorem dX6_next_289 : decode cX6_next 289 = .ok (.iconst 0, 1) := by decide +kernel
theorem dX6_next_290 : decode cX6_next 290 = .ok (.putfield 104, 3) := by decide +kernel
theorem dX6_next_293 : decode cX6_next 293 = .ok (.iinc 2 1, 3) := by decide +kernel
theorem dX6_next_296 : decode cX6_next 296 = .ok (.aload_n 0, 1) := by decide +kernel
theorem dX6_next_297 : decode cX6_next 297 = .ok (.dup, 1) := by decide +kernel
theorem dX6_next_298 : decode cX6_next 298 = .ok (.getfield 95, 3) := by decide +kernel
theorem dX6_next_301 : decode cX6_next 301 = .ok (.iconst 1, 1) := by decide +kernel
theorem dX6_next_302 : decode cX6_next 302 = .ok (.iadd, 1) := by decide +kernel
theorem dX6_next_303 : decode cX6_next 303 = .ok (.putfield 95, 3) := by decide +kernel
theorem dX6_next_306 : decode cX6_next 306 = .ok (.goto (-76), 3) := by decide +kernel
theorem dX6_next_309 : decode cX6_next 309 = .ok (.aload_n 0, 1) := by decide +kernel
theorem dX6_next_310 : decode cX6_next 310 = .ok (.iload_n 2, 1) := by decide +kernel
theorem dX6_next_311 : decode cX6_next 311 = .ok (.iconst 4, 1) := by decide +kernel
theorem dX6_next_312 : decode cX6_next 312 = .ok (.if_icmp .le 7, 3) := by decide +kernel
theorem dX6_next_315 : decode cX6_next 315 = .ok (.iconst (-1), 1) := by decide +kernel
theorem dX6_next_316 : decode cX6_next 316 = .ok (.goto 4, 3) := by decide +kernel
theorem dX6_next_319 : decode cX6_next 319 = .ok (.iconst 1, 1) := by decide +kernel
theorem dX6_next_320 : decode cX6_next 320 = .ok (.putfield 101, 3) := by decide +kernel
theorem dX6_next_323 : decode cX6_next 323 = .ok (.goto 80, 3) := by decide +kernel
theorem dX6_next_326 : decode cX6_next 326 = .ok (.iload_n 1, 1) := by decide +kernel
theorem dX6_next_327 : decode cX6_next 327 = .ok (.bipush 40, 2) := by decide +kernel
theorem dX6_next_329 : decode cX6_next 329 = .ok (.if_icmp .eq 45, 3) := by decide +kernel
theorem dX6_next_332 : decode cX6_next 332 = .ok (.iload_n 1, 1) := by decide +kernel
theorem dX6_next_333 : decode cX6_next 333 = .ok (.bipush 41, 2) := by decide +kernel
theorem dX6_next_335 : decode cX6_next 335 = .ok (.if_icmp .eq 39, 3) := by decide +kernel
theorem dX6_next_338 : decode cX6_next 338 = .ok (.iload_n 1, 1) := by decide +kernel
theorem dX6_next_339 : decode cX6_next 339 = .ok (.bipush 59, 2) := by decide +kernel
theorem dX6_next_341 : decode cX6_next 341 = .ok (.if_icmp .eq 33, 3) := by decide +kernel
theorem dX6_next_344 : decode cX6_next 344 = .ok (.iload_n 1, 1) := by decide +kernel
theorem dX6_next_345 : decode cX6_next 345 = .ok (.bipush 43, 2) := by decide +kernel
theorem dX6_next_347 : decode cX6_next 347 = .ok (.if_icmp .eq 27, 3) := by decide +kernel
theorem dX6_next_350 : decode cX6_next 350 = .ok (.iload_n 1, 1) := by decide +kernel
theorem dX6_next_351 : decode cX6_next 351 = .ok (.bipush 45, 2) := by decide +kernel
theorem dX6_next_353 : decode cX6_next 353 = .ok (.if_icmp .eq 21, 3) := by decide +kernel
theorem dX6_next_356 : decode cX6_next 356 = .ok (.iload_n 1, 1) := by decide +kernel
theorem dX6_next_357 : decode cX6_next 357 = .ok (.bipush 42, 2) := by decide +kernel
theorem dX6_next_359 : decode cX6_next 359 = .ok (.if_icmp .eq 15, 3) := by decide +kernel
theorem dX6_next_362 : decode cX6_next 362 = .ok (.iload_n 1, 1) := by decide +kernel
theorem dX6_next_363 : decode cX6_next 363 = .ok (.bipush 60, 2) := by decide +kernel
theorem dX6_next_365 : decode cX6_next 365 = .ok (.if_icmp .eq 9, 3) := by decide +kernel
theorem dX6_next_368 : decode cX6_next 368 = .ok (.iload_n 1, 1) := by decide +kernel
theorem dX6_next_369 : decode cX6_next 369 = .ok (.bipush 61, 2) := by decide +kernel
theorem dX6_next_371 : decode cX6_next 371 = .ok (.if_icmp .ne 7, 3) := by decide +kernel
theorem dX6_next_374 : decode cX6_next 374 = .ok (.iconst 1, 1) := by decide +kernel
theorem dX6_next_375 : decode cX6_next 375 = .ok (.goto 4, 3) := by decide +kernel
theorem dX6_next_378 : decode cX6_next 378 = .ok (.iconst 0, 1) := by decide +kernel
theorem dX6_next_379 : decode cX6_next 379 = .ok (.istore_n 2, 1) := by decide +kernel
theorem dX6_next_380 : decode cX6_next 380 = .ok (.aload_n 0, 1) := by decide +kernel
theorem dX6_next_381 : decode cX6_next 381 = .ok (.iload_n 2, 1) := by decide +kernel
theorem dX6_next_382 : decode cX6_next 382 = .ok (.ifCond .eq 7, 3) := by decide +kernel
theorem dX6_next_385 : decode cX6_next 385 = .ok (.iload_n 1, 1) := by decide +kernel
theorem dX6_next_386 : decode cX6_next 386 = .ok (.goto 4, 3) := by decide +kernel
theorem dX6_next_389 : decode cX6_next 389 = .ok (.iconst (-1), 1) := by decide +kernel
theorem dX6_next_390 : decode cX6_next 390 = .ok (.putfield 101, 3) := by decide +kernel
theorem dX6_next_393 : decode cX6_next 393 = .ok (.aload_n 0, 1) := by decide +kernel
theorem dX6_next_394 : decode cX6_next 394 = .ok (.dup, 1) := by decide +kernel
theorem dX6_next_395 : decode cX6_next 395 = .ok (.getfield 95, 3) := by decide +kernel
theorem dX6_next_398 : decode cX6_next 398 = .ok (.iconst 1, 1) := by decide +kernel
theorem dX6_next_399 : decode cX6_next 399 = .ok (.iadd, 1) := by decide +kernel
theorem dX6_next_400 : decode cX6_next 400 = .ok (.putfield 95, 3) := by decide +kernel
theorem dX6_next_403 : decode cX6_next 403 = .ok (.return_, 1) := by decide +kernel
theorem dX6_rank_0 : decode cX6_rank 0 = .ok (.iload_n 0, 1) := by decide +kernel
theorem dX6_rank_1 : decode cX6_rank 1 = .ok (.ifCond .ne 7, 3) := by decide +kernel
theorem dX6_rank_4 : decode cX6_rank 4 = .ok (.iconst 0, 1) := by decide +kernel
theorem dX6_rank_5 : decode cX6_rank 5 = .ok (.goto 66, 3) := by decide +kernel
theorem dX6_rank_8 : decode cX6_rank 8 = .ok (.iload_n 0, 1) := by decide +kernel
theorem dX6_rank_9 : decode cX6_rank 9 = .ok (.bipush 11, 2) := by decide +kernel
theorem dX6_rank_11 : decode cX6_rank 11 = .ok (.if_icmp .ne 7, 3) := by decide +kernel
theorem dX6_rank_14 : decode cX6_rank 14 = .ok (.iconst 1, 1) := by decide +kernel
theorem dX6_rank_15 : decode cX6_rank 15 = .ok (.goto 56, 3) := by decide +kernel
theorem dX6_rank_18 : decode cX6_rank 18 = .ok (.iload_n 0, 1) := by decide +kernel
theorem dX6_rank_19 : decode cX6_rank 19 = .ok (.bipush 12, 2) := by decide +kernel
theorem dX6_rank_21 : decode cX6_rank 21 = .ok (.if_icmp .ne 7, 3) := by decide +kernel
theorem dX6_rank_24 : decode cX6_rank 24 = .ok (.iconst 2, 1) := by decide +kernel
theorem dX6_rank_25 : decode cX6_rank 25 = .ok (.goto 46, 3) := by decide +kernel
theorem dX6_rank_28 : decode cX6_rank 28 = .ok (.iload_n 0, 1) := by decide +kernel
theorem dX6_rank_29 : decode cX6_rank 29 = .ok (.bipush 13, 2) := by decide +kernel
theorem dX6_rank_31 : decode cX6_rank 31 = .ok (.if_icmp .ne 7, 3) := by decide +kernel
theorem dX6_rank_34 : decode cX6_rank 34 = .ok (.iconst 3, 1) := by decide +kernel
theorem dX6_rank_35 : decode cX6_rank 35 = .ok (.goto 36, 3) := by decide +kernel
theorem dX6_rank_38 : decode cX6_rank 38 = .ok (.iload_n 0, 1) := by decide +kernel
theorem dX6_rank_39 : decode cX6_rank 39 = .ok (.bipush 15, 2) := by decide +kernel
theorem dX6_rank_41 : decode cX6_rank 41 = .ok (.if_icmp .gt 7, 3) := by decide +kernel
theorem dX6_rank_44 : decode cX6_rank 44 = .ok (.iconst 4, 1) := by decide +kernel
theorem dX6_rank_45 : decode cX6_rank 45 = .ok (.goto 26, 3) := by decide +kernel
theorem dX6_rank_48 : decode cX6_rank 48 = .ok (.iload_n 0, 1) := by decide +kernel
theorem dX6_rank_49 : decode cX6_rank 49 = .ok (.bipush 17, 2) := by decide +kernel
theorem dX6_rank_51 : decode cX6_rank 51 = .ok (.if_icmp .gt 7, 3) := by decide +kernel
theorem dX6_rank_54 : decode cX6_rank 54 = .ok (.iconst 5, 1) := by decide +kernel
theorem dX6_rank_55 : decode cX6_rank 55 = .ok (.goto 16, 3) := by decide +kernel
theorem dX6_rank_58 : decode cX6_rank 58 = .ok (.iload_n 0, 1) := by decide +kernel
theorem dX6_rank_59 : decode cX6_rank 59 = .ok (.bipush 18, 2) := by decide +kernel
theorem dX6_rank_61 : decode cX6_rank 61 = .ok (.if_icmp .ne 8, 3) := by decide +kernel
theorem dX6_rank_64 : decode cX6_rank 64 = .ok (.bipush 6, 2) := by decide +kernel
theorem dX6_rank_66 : decode cX6_rank 66 = .ok (.goto 5, 3) := by decide +kernel
theorem dX6_rank_69 : decode cX6_rank 69 = .ok (.bipush 7, 2) := by decide +kernel
theorem dX6_rank_71 : decode cX6_rank 71 = .ok (.ireturn, 1) := by decide +kernel
theorem dX6_puts_0 : decode cX6_puts 0 = .ok (.aload_n 0, 1) := by decide +kernel
theorem dX6_puts_1 : decode cX6_puts 1 = .ok (.getfield 25, 3) := by decide +kernel
theorem dX6_puts_4 : decode cX6_puts 4 = .ok (.sipush 200, 3) := by decide +kernel
theorem dX6_puts_7 : decode cX6_puts 7 = .ok (.aload_n 0, 1) := by decide +kernel
theorem dX6_puts_8 : decode cX6_puts 8 = .ok (.getfield 85, 3) := by decide +kernel
theorem dX6_puts_11 : decode cX6_puts 11 = .ok (.imul, 1) := by decide +kernel
theorem dX6_puts_12 : decode cX6_puts 12 = .ok (.aload_n 0, 1) := by decide +kernel
theorem dX6_puts_13 : decode cX6_puts 13 = .ok (.getfield 111, 3) := by decide +kernel
theorem dX6_puts_16 : decode cX6_puts 16 = .ok (.iadd, 1) := by decide +kernel
theorem dX6_puts_17 : decode cX6_puts 17 = .ok (.iload_n 1, 1) := by decide +kernel
theorem dX6_puts_18 : decode cX6_puts 18 = .ok (.iastore, 1) := by decide +kernel
theorem dX6_puts_19 : decode cX6_puts 19 = .ok (.aload_n 0, 1) := by decide +kernel
theorem dX6_puts_20 : decode cX6_puts 20 = .ok (.dup, 1) := by decide +kernel
theorem dX6_puts_21 : decode cX6_puts 21 = .ok (.getfield 111, 3) := by decide +kernel
theorem dX6_puts_24 : decode cX6_puts 24 = .ok (.iconst 1, 1) := by decide +kernel
theorem dX6_puts_25 : decode cX6_puts 25 = .ok (.iadd, 1) := by decide +kernel
theorem dX6_puts_26 : decode cX6_puts 26 = .ok (.putfield 111, 3) := by decide +kernel
theorem dX6_puts_29 : decode cX6_puts 29 = .ok (.return_, 1) := by decide +kernel
theorem dX6_unwinds_0 : decode cX6_unwinds 0 = .ok (.aload_n 0, 1) := by decide +kernel
theorem dX6_unwinds_1 : decode cX6_unwinds 1 = .ok (.getfield 114, 3) := by decide +kernel
theorem dX6_unwinds_4 : decode cX6_unwinds 4 = .ok (.ifCond .le 75, 3) := by decide +kernel
theorem dX6_unwinds_7 : decode cX6_unwinds 7 = .ok (.aload_n 0, 1) := by decide +kernel
theorem dX6_unwinds_8 : decode cX6_unwinds 8 = .ok (.getfield 52, 3) := by decide +kernel
theorem dX6_unwinds_11 : decode cX6_unwinds 11 = .ok (.aload_n 0, 1) := by decide +kernel
theorem dX6_unwinds_12 : decode cX6_unwinds 12 = .ok (.getfield 114, 3) := by decide +kernel
theorem dX6_unwinds_15 : decode cX6_unwinds 15 = .ok (.iconst 1, 1) := by decide +kernel
theorem dX6_unwinds_16 : decode cX6_unwinds 16 = .ok (.isub, 1) := by decide +kernel
theorem dX6_unwinds_17 : decode cX6_unwinds 17 = .ok (.iaload, 1) := by decide +kernel
theorem dX6_unwinds_18 : decode cX6_unwinds 18 = .ok (.invokestatic 117, 3) := by decide +kernel
theorem dX6_unwinds_21 : decode cX6_unwinds 21 = .ok (.iload_n 1, 1) := by decide +kernel
theorem dX6_unwinds_22 : decode cX6_unwinds 22 = .ok (.if_icmp .lt 57, 3) := by decide +kernel
theorem dX6_unwinds_25 : decode cX6_unwinds 25 = .ok (.aload_n 0, 1) := by decide +kernel
theorem dX6_unwinds_26 : decode cX6_unwinds 26 = .ok (.dup, 1) := by decide +kernel
theorem dX6_unwinds_27 : decode cX6_unwinds 27 = .ok (.getfield 114, 3) := by decide +kernel
theorem dX6_unwinds_30 : decode cX6_unwinds 30 = .ok (.iconst 1, 1) := by decide +kernel
theorem dX6_unwinds_31 : decode cX6_unwinds 31 = .ok (.isub, 1) := by decide +kernel
theorem dX6_unwinds_32 : decode cX6_unwinds 32 = .ok (.putfield 114, 3) := by decide +kernel
theorem dX6_unwinds_35 : decode cX6_unwinds 35 = .ok (.aload_n 0, 1) := by decide +kernel
theorem dX6_unwinds_36 : decode cX6_unwinds 36 = .ok (.getfield 52, 3) := by decide +kernel
theorem dX6_unwinds_39 : decode cX6_unwinds 39 = .ok (.aload_n 0, 1) := by decide +kernel
theorem dX6_unwinds_40 : decode cX6_unwinds 40 = .ok (.getfield 114, 3) := by decide +kernel
theorem dX6_unwinds_43 : decode cX6_unwinds 43 = .ok (.iaload, 1) := by decide +kernel
theorem dX6_unwinds_44 : decode cX6_unwinds 44 = .ok (.istore_n 2, 1) := by decide +kernel
theorem dX6_unwinds_45 : decode cX6_unwinds 45 = .ok (.aload_n 0, 1) := by decide +kernel
theorem dX6_unwinds_46 : decode cX6_unwinds 46 = .ok (.dup, 1) := by decide +kernel
theorem dX6_unwinds_47 : decode cX6_unwinds 47 = .ok (.getfield 121, 3) := by decide +kernel
theorem dX6_unwinds_50 : decode cX6_unwinds 50 = .ok (.iload_n 2, 1) := by decide +kernel
theorem dX6_unwinds_51 : decode cX6_unwinds 51 = .ok (.bipush 13, 2) := by decide +kernel
theorem dX6_unwinds_53 : decode cX6_unwinds 53 = .ok (.if_icmp .eq 9, 3) := by decide +kernel
theorem dX6_unwinds_56 : decode cX6_unwinds 56 = .ok (.iload_n 2, 1) := by decide +kernel
theorem dX6_unwinds_57 : decode cX6_unwinds 57 = .ok (.bipush 19, 2) := by decide +kernel
theorem dX6_unwinds_59 : decode cX6_unwinds 59 = .ok (.if_icmp .ne 7, 3) := by decide +kernel
theorem dX6_unwinds_62 : decode cX6_unwinds 62 = .ok (.iconst 1, 1) := by decide +kernel
theorem dX6_unwinds_63 : decode cX6_unwinds 63 = .ok (.goto 4, 3) := by decide +kernel
theorem dX6_unwinds_66 : decode cX6_unwinds 66 = .ok (.iconst 0, 1) := by decide +kernel
theorem dX6_unwinds_67 : decode cX6_unwinds 67 = .ok (.isub, 1) := by decide +kernel
theorem dX6_unwinds_68 : decode cX6_unwinds 68 = .ok (.putfield 121, 3) := by decide +kernel
theorem dX6_unwinds_71 : decode cX6_unwinds 71 = .ok (.aload_n 0, 1) := by decide +kernel
theorem dX6_unwinds_72 : decode cX6_unwinds 72 = .ok (.iload_n 2, 1) := by decide +kernel
theorem dX6_unwinds_73 : decode cX6_unwinds 73 = .ok (.invokevirtual 124, 3) := by decide +kernel
theorem dX6_unwinds_76 : decode cX6_unwinds 76 = .ok (.goto (-76), 3) := by decide +kernel
theorem dX6_unwinds_79 : decode cX6_unwinds 79 = .ok (.return_, 1) := by decide +kernel
theorem dX6_holds_0 : decode cX6_holds 0 = .ok (.aload_n 0, 1) := by decide +kernel
theorem dX6_holds_1 : decode cX6_holds 1 = .ok (.getfield 52, 3) := by decide +kernel
theorem dX6_holds_4 : decode cX6_holds 4 = .ok (.aload_n 0, 1) := by decide +kernel
theorem dX6_holds_5 : decode cX6_holds 5 = .ok (.getfield 114, 3) := by decide +kernel
theorem dX6_holds_8 : decode cX6_holds 8 = .ok (.iload_n 1, 1) := by decide +kernel
theorem dX6_holds_9 : decode cX6_holds 9 = .ok (.iastore, 1) := by decide +kernel
theorem dX6_holds_10 : decode cX6_holds 10 = .ok (.aload_n 0, 1) := by decide +kernel
theorem dX6_holds_11 : decode cX6_holds 11 = .ok (.dup, 1) := by decide +kernel
theorem dX6_holds_12 : decode cX6_holds 12 = .ok (.getfield 114, 3) := by decide +kernel
theorem dX6_holds_15 : decode cX6_holds 15 = .ok (.iconst 1, 1) := by decide +kernel
theorem dX6_holds_16 : decode cX6_holds 16 = .ok (.iadd, 1) := by decide +kernel
theorem dX6_holds_17 : decode cX6_holds 17 = .ok (.putfield 114, 3) := by decide +kernel
theorem dX6_holds_20 : decode cX6_holds 20 = .ok (.return_, 1) := by decide +kernel
theorem dX6_opensOne_0 : decode cX6_opensOne 0 = .ok (.aload_n 0, 1) := by decide +kernel
theorem dX6_opensOne_1 : decode cX6_opensOne 1 = .ok (.getfield 121, 3) := by decide +kernel
theorem dX6_opensOne_4 : decode cX6_opensOne 4 = .ok (.iconst 5, 1) := by decide +kernel
theorem dX6_opensOne_5 : decode cX6_opensOne 5 = .ok (.if_icmp .ne 5, 3) := by decide +kernel
theorem dX6_opensOne_8 : decode cX6_opensOne 8 = .ok (.iconst 0, 1) := by decide +kernel
theorem dX6_opensOne_9 : decode cX6_opensOne 9 = .ok (.ireturn, 1) := by decide +kernel
theorem dX6_opensOne_10 : decode cX6_opensOne 10 = .ok (.aload_n 0, 1) := by decide +kernel
theorem dX6_opensOne_11 : decode cX6_opensOne 11 = .ok (.dup, 1) := by decide +kernel
theorem dX6_opensOne_12 : decode cX6_opensOne 12 = .ok (.getfield 121, 3) := by decide +kernel
theorem dX6_opensOne_15 : decode cX6_opensOne 15 = .ok (.iconst 1, 1) := by decide +kernel
theorem dX6_opensOne_16 : decode cX6_opensOne 16 = .ok (.iadd, 1) := by decide +kernel
theorem dX6_opensOne_17 : decode cX6_opensOne 17 = .ok (.putfield 121, 3) := by decide +kernel
theorem dX6_opensOne_20 : decode cX6_opensOne 20 = .ok (.aload_n 0, 1) := by decide +kernel
theorem dX6_opensOne_21 : decode cX6_opensOne 21 = .ok (.iload_n 1, 1) := by decide +kernel
theorem dX6_opensOne_22 : decode cX6_opensOne 22 = .ok (.invokevirtual 128, 3) := by decide +kernel
theorem dX6_opensOne_25 : decode cX6_opensOne 25 = .ok (.iconst 1, 1) := by decide +kernel
theorem dX6_opensOne_26 : decode cX6_opensOne 26 = .ok (.ireturn, 1) := by decide +kernel
theorem dX6_between_0 : decode cX6_between 0 = .ok (.aload_n 0, 1) := by decide +kernel
theorem dX6_between_1 : decode cX6_between 1 = .ok (.iload_n 1, 1) := by decide +kernel
theorem dX6_between_2 : decode cX6_between 2 = .ok (.invokestatic 117, 3) := by decide +kernel
theorem dX6_between_5 : decode cX6_between 5 = .ok (.iconst 4, 1) := by decide +kernel
theorem dX6_between_6 : decode cX6_between 6 = .ok (.if_icmp .ne 7, 3) := by decide +kernel
theorem dX6_between_9 : decode cX6_between 9 = .ok (.iconst 5, 1) := by decide +kernel
theorem dX6_between_10 : decode cX6_between 10 = .ok (.goto 7, 3) := by decide +kernel
theorem dX6_between_13 : decode cX6_between 13 = .ok (.iload_n 1, 1) := by decide +kernel
theorem dX6_between_14 : decode cX6_between 14 = .ok (.invokestatic 117, 3) := by decide +kernel
theorem dX6_between_17 : decode cX6_between 17 = .ok (.invokevirtual 131, 3) := by decide +kernel
theorem dX6_between_20 : decode cX6_between 20 = .ok (.iload_n 1, 1) := by decide +kernel
theorem dX6_between_21 : decode cX6_between 21 = .ok (.invokestatic 117, 3) := by decide +kernel
theorem dX6_between_24 : decode cX6_between 24 = .ok (.iconst 4, 1) := by decide +kernel
theorem dX6_between_25 : decode cX6_between 25 = .ok (.if_icmp .ne 30, 3) := by decide +kernel
theorem dX6_between_28 : decode cX6_between 28 = .ok (.aload_n 0, 1) := by decide +kernel
theorem dX6_between_29 : decode cX6_between 29 = .ok (.getfield 114, 3) := by decide +kernel
theorem dX6_between_32 : decode cX6_between 32 = .ok (.ifCond .le 23, 3) := by decide +kernel
theorem dX6_between_35 : decode cX6_between 35 = .ok (.aload_n 0, 1) := by decide +kernel
theorem dX6_between_36 : decode cX6_between 36 = .ok (.getfield 52, 3) := by decide +kernel
theorem dX6_between_39 : decode cX6_between 39 = .ok (.aload_n 0, 1) := by decide +kernel
theorem dX6_between_40 : decode cX6_between 40 = .ok (.getfield 114, 3) := by decide +kernel
theorem dX6_between_43 : decode cX6_between 43 = .ok (.iconst 1, 1) := by decide +kernel
theorem dX6_between_44 : decode cX6_between 44 = .ok (.isub, 1) := by decide +kernel
theorem dX6_between_45 : decode cX6_between 45 = .ok (.iaload, 1) := by decide +kernel
theorem dX6_between_46 : decode cX6_between 46 = .ok (.invokestatic 117, 3) := by decide +kernel
theorem dX6_between_49 : decode cX6_between 49 = .ok (.iconst 4, 1) := by decide +kernel
theorem dX6_between_50 : decode cX6_between 50 = .ok (.if_icmp .ne 5, 3) := by decide +kernel
theorem dX6_between_53 : decode cX6_between 53 = .ok (.iconst 0, 1) := by decide +kernel
theorem dX6_between_54 : decode cX6_between 54 = .ok (.ireturn, 1) := by decide +kernel
theorem dX6_between_55 : decode cX6_between 55 = .ok (.aload_n 0, 1) := by decide +kernel
theorem dX6_between_56 : decode cX6_between 56 = .ok (.iload_n 1, 1) := by decide +kernel
theorem dX6_between_57 : decode cX6_between 57 = .ok (.invokevirtual 128, 3) := by decide +kernel
theorem dX6_between_60 : decode cX6_between 60 = .ok (.iconst 1, 1) := by decide +kernel
theorem dX6_between_61 : decode cX6_between 61 = .ok (.ireturn, 1) := by decide +kernel
theorem dX6_signOf_0 : decode cX6_signOf 0 = .ok (.aload_n 0, 1) := by decide +kernel
theorem dX6_signOf_1 : decode cX6_signOf 1 = .ok (.getfield 101, 3) := by decide +kernel
theorem dX6_signOf_4 : decode cX6_signOf 4 = .ok (.iconst 4, 1) := by decide +kernel
theorem dX6_signOf_5 : decode cX6_signOf 5 = .ok (.if_icmp .ne 8, 3) := by decide +kernel
theorem dX6_signOf_8 : decode cX6_signOf 8 = .ok (.bipush 11, 2) := by decide +kernel
theorem dX6_signOf_10 : decode cX6_signOf 10 = .ok (.goto 87, 3) := by decide +kernel
theorem dX6_signOf_13 : decode cX6_signOf 13 = .ok (.aload_n 0, 1) := by decide +kernel
theorem dX6_signOf_14 : decode cX6_signOf 14 = .ok (.getfield 101, 3) := by decide +kernel
theorem dX6_signOf_17 : decode cX6_signOf 17 = .ok (.iconst 5, 1) := by decide +kernel
theorem dX6_signOf_18 : decode cX6_signOf 18 = .ok (.if_icmp .ne 8, 3) := by decide +kernel
theorem dX6_signOf_21 : decode cX6_signOf 21 = .ok (.bipush 12, 2) := by decide +kernel
theorem dX6_signOf_23 : decode cX6_signOf 23 = .ok (.goto 74, 3) := by decide +kernel
theorem dX6_signOf_26 : decode cX6_signOf 26 = .ok (.aload_n 0, 1) := by decide +kernel
theorem dX6_signOf_27 : decode cX6_signOf 27 = .ok (.getfield 101, 3) := by decide +kernel
theorem dX6_signOf_30 : decode cX6_signOf 30 = .ok (.bipush 60, 2) := by decide +kernel
theorem dX6_signOf_32 : decode cX6_signOf 32 = .ok (.if_icmp .ne 8, 3) := by decide +kernel
theorem dX6_signOf_35 : decode cX6_signOf 35 = .ok (.bipush 14, 2) := by decide +kernel
theorem dX6_signOf_37 : decode cX6_signOf 37 = .ok (.goto 60, 3) := by decide +kernel
theorem dX6_signOf_40 : decode cX6_signOf 40 = .ok (.aload_n 0, 1) := by decide +kernel
theorem dX6_signOf_41 : decode cX6_signOf 41 = .ok (.getfield 101, 3) := by decide +kernel
theorem dX6_signOf_44 : decode cX6_signOf 44 = .ok (.bipush 61, 2) := by decide +kernel
theorem dX6_signOf_46 : decode cX6_signOf 46 = .ok (.if_icmp .ne 8, 3) := by decide +kernel
theorem dX6_signOf_49 : decode cX6_signOf 49 = .ok (.bipush 15, 2) := by decide +kernel
theorem dX6_signOf_51 : decode cX6_signOf 51 = .ok (.goto 46, 3) := by decide +kernel
theorem dX6_signOf_54 : decode cX6_signOf 54 = .ok (.aload_n 0, 1) := by decide +kernel
theorem dX6_signOf_55 : decode cX6_signOf 55 = .ok (.getfield 101, 3) := by decide +kernel
theorem dX6_signOf_58 : decode cX6_signOf 58 = .ok (.bipush 43, 2) := by decide +kernel
theorem dX6_signOf_60 : decode cX6_signOf 60 = .ok (.if_icmp .ne 8, 3) := by decide +kernel
theorem dX6_signOf_63 : decode cX6_signOf 63 = .ok (.bipush 16, 2) := by decide +kernel
theorem dX6_signOf_65 : decode cX6_signOf 65 = .ok (.goto 32, 3) := by decide +kernel
theorem dX6_signOf_68 : decode cX6_signOf 68 = .ok (.aload_n 0, 1) := by decide +kernel
theorem dX6_signOf_69 : decode cX6_signOf 69 = .ok (.getfield 101, 3) := by decide +kernel
theorem dX6_signOf_72 : decode cX6_signOf 72 = .ok (.bipush 45, 2) := by decide +kernel
theorem dX6_signOf_74 : decode cX6_signOf 74 = .ok (.if_icmp .ne 8, 3) := by decide +kernel
theorem dX6_signOf_77 : decode cX6_signOf 77 = .ok (.bipush 17, 2) := by decide +kernel
theorem dX6_signOf_79 : decode cX6_signOf 79 = .ok (.goto 18, 3) := by decide +kernel
theorem dX6_signOf_82 : decode cX6_signOf 82 = .ok (.aload_n 0, 1) := by decide +kernel
theorem dX6_signOf_83 : decode cX6_signOf 83 = .ok (.getfield 101, 3) := by decide +kernel
theorem dX6_signOf_86 : decode cX6_signOf 86 = .ok (.bipush 42, 2) := by decide +kernel
theorem dX6_signOf_88 : decode cX6_signOf 88 = .ok (.if_icmp .ne 8, 3) := by decide +kernel
theorem dX6_signOf_91 : decode cX6_signOf 91 = .ok (.bipush 18, 2) := by decide +kernel
theorem dX6_signOf_93 : decode cX6_signOf 93 = .ok (.goto 4, 3) := by decide +kernel
theorem dX6_signOf_96 : decode cX6_signOf 96 = .ok (.iconst (-1), 1) := by decide +kernel
theorem dX6_signOf_97 : decode cX6_signOf 97 = .ok (.ireturn, 1) := by decide +kernel
theorem dX6_eRead_0 : decode cX6_eRead 0 = .ok (.aload_n 0, 1) := by decide +kernel
theorem dX6_eRead_1 : decode cX6_eRead 1 = .ok (.iconst 0, 1) := by decide +kernel
theorem dX6_eRead_2 : decode cX6_eRead 2 = .ok (.putfield 114, 3) := by decide +kernel
theorem dX6_eRead_5 : decode cX6_eRead 5 = .ok (.aload_n 0, 1) := by decide +kernel
theorem dX6_eRead_6 : decode cX6_eRead 6 = .ok (.iconst 0, 1) := by decide +kernel
theorem dX6_eRead_7 : decode cX6_eRead 7 = .ok (.putfield 121, 3) := by decide +kernel
theorem dX6_eRead_10 : decode cX6_eRead 10 = .ok (.iconst 1, 1) := by decide +kernel
theorem dX6_eRead_11 : decode cX6_eRead 11 = .ok (.istore_n 1, 1) := by decide +kernel
theorem dX6_eRead_12 : decode cX6_eRead 12 = .ok (.iconst 1, 1) := by decide +kernel
theorem dX6_eRead_13 : decode cX6_eRead 13 = .ok (.istore_n 2, 1) := by decide +kernel
theorem dX6_eRead_14 : decode cX6_eRead 14 = .ok (.aload_n 0, 1) := by decide +kernel
theorem dX6_eRead_15 : decode cX6_eRead 15 = .ok (.invokevirtual 134, 3) := by decide +kernel
theorem dX6_eRead_18 : decode cX6_eRead 18 = .ok (.iload_n 1, 1) := by decide +kernel
theorem dX6_eRead_19 : decode cX6_eRead 19 = .ok (.ifCond .eq 131, 3) := by decide +kernel
theorem dX6_eRead_22 : decode cX6_eRead 22 = .ok (.aload_n 0, 1) := by decide +kernel
theorem dX6_eRead_23 : decode cX6_eRead 23 = .ok (.getfield 101, 3) := by decide +kernel
theorem dX6_eRead_26 : decode cX6_eRead 26 = .ok (.iconst 1, 1) := by decide +kernel
theorem dX6_eRead_27 : decode cX6_eRead 27 = .ok (.if_icmp .eq 11, 3) := by decide +kernel
theorem dX6_eRead_30 : decode cX6_eRead 30 = .ok (.aload_n 0, 1) := by decide +kernel
theorem dX6_eRead_31 : decode cX6_eRead 31 = .ok (.getfield 101, 3) := by decide +kernel
theorem dX6_eRead_34 : decode cX6_eRead 34 = .ok (.iconst 2, 1) := by decide +kernel
theorem dX6_eRead_35 : decode cX6_eRead 35 = .ok (.if_icmp .ne 40, 3) := by decide +kernel
theorem dX6_eRead_38 : decode cX6_eRead 38 = .ok (.aload_n 0, 1) := by decide +kernel
theorem dX6_eRead_39 : decode cX6_eRead 39 = .ok (.aload_n 0, 1) := by decide +kernel
theorem dX6_eRead_40 : decode cX6_eRead 40 = .ok (.getfield 101, 3) := by decide +kernel
theorem dX6_eRead_43 : decode cX6_eRead 43 = .ok (.iconst 1, 1) := by decide +kernel
theorem dX6_eRead_44 : decode cX6_eRead 44 = .ok (.if_icmp .ne 13, 3) := by decide +kernel
theorem dX6_eRead_47 : decode cX6_eRead 47 = .ok (.ldc 137, 2) := by decide +kernel
theorem dX6_eRead_49 : decode cX6_eRead 49 = .ok (.aload_n 0, 1) := by decide +kernel
theorem dX6_eRead_50 : decode cX6_eRead 50 = .ok (.getfield 104, 3) := by decide +kernel
theorem dX6_eRead_53 : decode cX6_eRead 53 = .ok (.iadd, 1) := by decide +kernel
theorem dX6_eRead_54 : decode cX6_eRead 54 = .ok (.goto 7, 3) := by decide +kernel
theorem dX6_eRead_57 : decode cX6_eRead 57 = .ok (.aload_n 0, 1) := by decide +kernel
theorem dX6_eRead_58 : decode cX6_eRead 58 = .ok (.getfield 104, 3) := by decide +kernel
theorem dX6_eRead_61 : decode cX6_eRead 61 = .ok (.invokevirtual 124, 3) := by decide +kernel
theorem dX6_eRead_64 : decode cX6_eRead 64 = .ok (.aload_n 0, 1) := by decide +kernel
theorem dX6_eRead_65 : decode cX6_eRead 65 = .ok (.bipush 7, 2) := by decide +kernel
theorem dX6_eRead_67 : decode cX6_eRead 67 = .ok (.invokevirtual 131, 3) := by decide +kernel
theorem dX6_eRead_70 : decode cX6_eRead 70 = .ok (.iconst 0, 1) := by decide +kernel
theorem dX6_eRead_71 : decode cX6_eRead 71 = .ok (.istore_n 1, 1) := by decide +kernel
theorem dX6_eRead_72 : decode cX6_eRead 72 = .ok (.goto (-58), 3) := by decide +kernel
theorem dX6_eRead_75 : decode cX6_eRead 75 = .ok (.aload_n 0, 1) := by decide +kernel
theorem dX6_eRead_76 : decode cX6_eRead 76 = .ok (.getfield 101, 3) := by decide +kernel
theorem dX6_eRead_79 : decode cX6_eRead 79 = .ok (.bipush 6, 2) := by decide +kernel
theorem dX6_eRead_81 : decode cX6_eRead 81 = .ok (.if_icmp .ne 18, 3) := by decide +kernel
theorem dX6_eRead_84 : decode cX6_eRead 84 = .ok (.iload_n 2, 1) := by decide +kernel
theorem dX6_eRead_85 : decode cX6_eRead 85 = .ok (.ifCond .eq 14, 3) := by decide +kernel
theorem dX6_eRead_88 : decode cX6_eRead 88 = .ok (.aload_n 0, 1) := by decide +kernel
theorem dX6_eRead_89 : decode cX6_eRead 89 = .ok (.bipush 13, 2) := by decide +kernel
theorem dX6_eRead_91 : decode cX6_eRead 91 = .ok (.invokevirtual 138, 3) := by decide +kernel
theorem dX6_eRead_94 : decode cX6_eRead 94 = .ok (.ifCond .ne (-80), 3) := by decide +kernel
theorem dX6_eRead_97 : decode cX6_eRead 97 = .ok (.iconst 0, 1) := by decide +kernel
theorem dX6_eRead_98 : decode cX6_eRead 98 = .ok (.ireturn, 1) := by decide +kernel
theorem dX6_eRead_99 : decode cX6_eRead 99 = .ok (.aload_n 0, 1) := by decide +kernel
theorem dX6_eRead_100 : decode cX6_eRead 100 = .ok (.getfield 101, 3) := by decide +kernel
theorem dX6_eRead_103 : decode cX6_eRead 103 = .ok (.bipush 45, 2) := by decide +kernel
theorem dX6_eRead_105 : decode cX6_eRead 105 = .ok (.if_icmp .ne 19, 3) := by decide +kernel
theorem dX6_eRead_108 : decode cX6_eRead 108 = .ok (.aload_n 0, 1) := by decide +kernel
theorem dX6_eRead_109 : decode cX6_eRead 109 = .ok (.bipush 19, 2) := by decide +kernel
theorem dX6_eRead_111 : decode cX6_eRead 111 = .ok (.invokevirtual 138, 3) := by decide +kernel
theorem dX6_eRead_114 : decode cX6_eRead 114 = .ok (.ifCond .ne 5, 3) := by decide +kernel
theorem dX6_eRead_117 : decode cX6_eRead 117 = .ok (.iconst 0, 1) := by decide +kernel
theorem dX6_eRead_118 : decode cX6_eRead 118 = .ok (.ireturn, 1) := by decide +kernel
theorem dX6_eRead_119 : decode cX6_eRead 119 = .ok (.iconst 0, 1) := by decide +kernel
theorem dX6_eRead_120 : decode cX6_eRead 120 = .ok (.istore_n 2, 1) := by decide +kernel
theorem dX6_eRead_121 : decode cX6_eRead 121 = .ok (.goto (-107), 3) := by decide +kernel
theorem dX6_eRead_124 : decode cX6_eRead 124 = .ok (.aload_n 0, 1) := by decide +kernel
theorem dX6_eRead_125 : decode cX6_eRead 125 = .ok (.getfield 101, 3) := by decide +kernel
theorem dX6_eRead_128 : decode cX6_eRead 128 = .ok (.bipush 40, 2) := by decide +kernel
theorem dX6_eRead_130 : decode cX6_eRead 130 = .ok (.if_icmp .ne 18, 3) := by decide +kernel
theorem dX6_eRead_133 : decode cX6_eRead 133 = .ok (.aload_n 0, 1) := by decide +kernel
theorem dX6_eRead_134 : decode cX6_eRead 134 = .ok (.iconst 0, 1) := by decide +kernel
theorem dX6_eRead_135 : decode cX6_eRead 135 = .ok (.invokevirtual 138, 3) := by decide +kernel
theorem dX6_eRead_138 : decode cX6_eRead 138 = .ok (.ifCond .ne 5, 3) := by decide +kernel
theorem dX6_eRead_141 : decode cX6_eRead 141 = .ok (.iconst 0, 1) := by decide +kernel
theorem dX6_eRead_142 : decode cX6_eRead 142 = .ok (.ireturn, 1) := by decide +kernel
theorem dX6_eRead_143 : decode cX6_eRead 143 = .ok (.iconst 1, 1) := by decide +kernel
theorem dX6_eRead_144 : decode cX6_eRead 144 = .ok (.istore_n 2, 1) := by decide +kernel
theorem dX6_eRead_145 : decode cX6_eRead 145 = .ok (.goto (-131), 3) := by decide +kernel
theorem dX6_eRead_148 : decode cX6_eRead 148 = .ok (.iconst 0, 1) := by decide +kernel
theorem dX6_eRead_149 : decode cX6_eRead 149 = .ok (.ireturn, 1) := by decide +kernel
theorem dX6_eRead_150 : decode cX6_eRead 150 = .ok (.aload_n 0, 1) := by decide +kernel
theorem dX6_eRead_151 : decode cX6_eRead 151 = .ok (.getfield 101, 3) := by decide +kernel
theorem dX6_eRead_154 : decode cX6_eRead 154 = .ok (.bipush 59, 2) := by decide +kernel
theorem dX6_eRead_156 : decode cX6_eRead 156 = .ok (.if_icmp .ne 21, 3) := by decide +kernel
theorem dX6_eRead_159 : decode cX6_eRead 159 = .ok (.aload_n 0, 1) := by decide +kernel
theorem dX6_eRead_160 : decode cX6_eRead 160 = .ok (.iconst 1, 1) := by decide +kernel
theorem dX6_eRead_161 : decode cX6_eRead 161 = .ok (.invokevirtual 131, 3) := by decide +kernel
theorem dX6_eRead_164 : decode cX6_eRead 164 = .ok (.aload_n 0, 1) := by decide +kernel
theorem dX6_eRead_165 : decode cX6_eRead 165 = .ok (.getfield 114, 3) := by decide +kernel
theorem dX6_eRead_168 : decode cX6_eRead 168 = .ok (.ifCond .ne 7, 3) := by decide +kernel
theorem dX6_eRead_171 : decode cX6_eRead 171 = .ok (.iconst 1, 1) := by decide +kernel
theorem dX6_eRead_172 : decode cX6_eRead 172 = .ok (.goto 4, 3) := by decide +kernel
theorem dX6_eRead_175 : decode cX6_eRead 175 = .ok (.iconst 0, 1) := by decide +kernel
theorem dX6_eRead_176 : decode cX6_eRead 176 = .ok (.ireturn, 1) := by decide +kernel
theorem dX6_eRead_177 : decode cX6_eRead 177 = .ok (.aload_n 0, 1) := by decide +kernel
theorem dX6_eRead_178 : decode cX6_eRead 178 = .ok (.getfield 101, 3) := by decide +kernel
theorem dX6_eRead_181 : decode cX6_eRead 181 = .ok (.bipush 41, 2) := by decide +kernel
theorem dX6_eRead_183 : decode cX6_eRead 183 = .ok (.if_icmp .ne 46, 3) := by decide +kernel
theorem dX6_eRead_186 : decode cX6_eRead 186 = .ok (.aload_n 0, 1) := by decide +kernel
theorem dX6_eRead_187 : decode cX6_eRead 187 = .ok (.iconst 1, 1) := by decide +kernel
theorem dX6_eRead_188 : decode cX6_eRead 188 = .ok (.invokevirtual 131, 3) := by decide +kernel
theorem dX6_eRead_191 : decode cX6_eRead 191 = .ok (.aload_n 0, 1) := by decide +kernel
theorem dX6_eRead_192 : decode cX6_eRead 192 = .ok (.getfield 114, 3) := by decide +kernel
theorem dX6_eRead_195 : decode cX6_eRead 195 = .ok (.ifCond .ne 5, 3) := by decide +kernel
theorem dX6_eRead_198 : decode cX6_eRead 198 = .ok (.iconst 0, 1) := by decide +kernel
theorem dX6_eRead_199 : decode cX6_eRead 199 = .ok (.ireturn, 1) := by decide +kernel
theorem dX6_eRead_200 : decode cX6_eRead 200 = .ok (.aload_n 0, 1) := by decide +kernel
theorem dX6_eRead_201 : decode cX6_eRead 201 = .ok (.dup, 1) := by decide +kernel
theorem dX6_eRead_202 : decode cX6_eRead 202 = .ok (.getfield 114, 3) := by decide +kernel
theorem dX6_eRead_205 : decode cX6_eRead 205 = .ok (.iconst 1, 1) := by decide +kernel
theorem dX6_eRead_206 : decode cX6_eRead 206 = .ok (.isub, 1) := by decide +kernel
theorem dX6_eRead_207 : decode cX6_eRead 207 = .ok (.putfield 114, 3) := by decide +kernel
theorem dX6_eRead_210 : decode cX6_eRead 210 = .ok (.aload_n 0, 1) := by decide +kernel
theorem dX6_eRead_211 : decode cX6_eRead 211 = .ok (.dup, 1) := by decide +kernel
theorem dX6_eRead_212 : decode cX6_eRead 212 = .ok (.getfield 121, 3) := by decide +kernel
theorem dX6_eRead_215 : decode cX6_eRead 215 = .ok (.iconst 1, 1) := by decide +kernel
theorem dX6_eRead_216 : decode cX6_eRead 216 = .ok (.isub, 1) := by decide +kernel
theorem dX6_eRead_217 : decode cX6_eRead 217 = .ok (.putfield 121, 3) := by decide +kernel
theorem dX6_eRead_220 : decode cX6_eRead 220 = .ok (.aload_n 0, 1) := by decide +kernel
theorem dX6_eRead_221 : decode cX6_eRead 221 = .ok (.bipush 7, 2) := by decide +kernel
theorem dX6_eRead_223 : decode cX6_eRead 223 = .ok (.invokevirtual 131, 3) := by decide +kernel
theorem dX6_eRead_226 : decode cX6_eRead 226 = .ok (.goto (-212), 3) := by decide +kernel
theorem dX6_eRead_229 : decode cX6_eRead 229 = .ok (.aload_n 0, 1) := by decide +kernel
theorem dX6_eRead_230 : decode cX6_eRead 230 = .ok (.invokevirtual 141, 3) := by decide +kernel
theorem dX6_eRead_233 : decode cX6_eRead 233 = .ok (.istore_n 3, 1) := by decide +kernel
theorem dX6_eRead_234 : decode cX6_eRead 234 = .ok (.iload_n 3, 1) := by decide +kernel
theorem dX6_eRead_235 : decode cX6_eRead 235 = .ok (.iconst (-1), 1) := by decide +kernel
theorem dX6_eRead_236 : decode cX6_eRead 236 = .ok (.if_icmp .eq 11, 3) := by decide +kernel
theorem dX6_eRead_239 : decode cX6_eRead 239 = .ok (.aload_n 0, 1) := by decide +kernel
theorem dX6_eRead_240 : decode cX6_eRead 240 = .ok (.iload_n 3, 1) := by decide +kernel
theorem dX6_eRead_241 : decode cX6_eRead 241 = .ok (.invokevirtual 144, 3) := by decide +kernel
theorem dX6_eRead_244 : decode cX6_eRead 244 = .ok (.ifCond .ne 5, 3) := by decide +kernel
theorem dX6_eRead_247 : decode cX6_eRead 247 = .ok (.iconst 0, 1) := by decide +kernel
theorem dX6_eRead_248 : decode cX6_eRead 248 = .ok (.ireturn, 1) := by decide +kernel
theorem dX6_eRead_249 : decode cX6_eRead 249 = .ok (.iconst 1, 1) := by decide +kernel
theorem dX6_eRead_250 : decode cX6_eRead 250 = .ok (.istore_n 1, 1) := by decide +kernel
theorem dX6_eRead_251 : decode cX6_eRead 251 = .ok (.iload_n 3, 1) := by decide +kernel
theorem dX6_eRead_252 : decode cX6_eRead 252 = .ok (.bipush 12, 2) := by decide +kernel
theorem dX6_eRead_254 : decode cX6_eRead 254 = .ok (.if_icmp .gt 7, 3) := by decide +kernel
theorem dX6_eRead_257 : decode cX6_eRead 257 = .ok (.iconst 1, 1) := by decide +kernel
theorem dX6_eRead_258 : decode cX6_eRead 258 = .ok (.goto 4, 3) := by decide +kernel
theorem dX6_eRead_261 : decode cX6_eRead 261 = .ok (.iconst 0, 1) := by decide +kernel
theorem dX6_eRead_262 : decode cX6_eRead 262 = .ok (.istore_n 2, 1) := by decide +kernel
theorem dX6_eRead_263 : decode cX6_eRead 263 = .ok (.goto (-249), 3) := by decide +kernel
theorem dX6_text_0 : decode cX6_text 0 = .ok (.aload_n 0, 1) := by decide +kernel
theorem dX6_text_1 : decode cX6_text 1 = .ok (.getfield 85, 3) := by decide +kernel
theorem dX6_text_4 : decode cX6_text 4 = .ok (.bipush 6, 2) := by decide +kernel
theorem dX6_text_6 : decode cX6_text 6 = .ok (.if_icmp .ne 6, 3) := by decide +kernel
theorem dX6_text_9 : decode cX6_text 9 = .ok (.bipush (-4), 2) := by decide +kernel
theorem dX6_text_11 : decode cX6_text 11 = .ok (.ireturn, 1) := by decide +kernel
theorem dX6_text_12 : decode cX6_text 12 = .ok (.aload_n 0, 1) := by decide +kernel
theorem dX6_text_13 : decode cX6_text 13 = .ok (.iconst 0, 1) := by decide +kernel
theorem dX6_text_14 : decode cX6_text 14 = .ok (.putfield 95, 3) := by decide +kernel
theorem dX6_text_17 : decode cX6_text 17 = .ok (.aload_n 0, 1) := by decide +kernel
theorem dX6_text_18 : decode cX6_text 18 = .ok (.iconst 0, 1) := by decide +kernel
theorem dX6_text_19 : decode cX6_text 19 = .ok (.putfield 111, 3) := by decide +kernel
theorem dX6_text_22 : decode cX6_text 22 = .ok (.iconst 1, 1) := by decide +kernel
theorem dX6_text_23 : decode cX6_text 23 = .ok (.istore_n 1, 1) := by decide +kernel
theorem dX6_text_24 : decode cX6_text 24 = .ok (.iconst 0, 1) := by decide +kernel
theorem dX6_text_25 : decode cX6_text 25 = .ok (.istore_n 2, 1) := by decide +kernel
theorem dX6_text_26 : decode cX6_text 26 = .ok (.iload_n 2, 1) := by decide +kernel
theorem dX6_text_27 : decode cX6_text 27 = .ok (.iconst 3, 1) := by decide +kernel
theorem dX6_text_28 : decode cX6_text 28 = .ok (.if_icmp .ge 73, 3) := by decide +kernel
theorem dX6_text_31 : decode cX6_text 31 = .ok (.iload_n 1, 1) := by decide +kernel
theorem dX6_text_32 : decode cX6_text 32 = .ok (.ifCond .eq 69, 3) := by decide +kernel
theorem dX6_text_35 : decode cX6_text 35 = .ok (.aload_n 0, 1) := by decide +kernel
theorem dX6_text_36 : decode cX6_text 36 = .ok (.invokevirtual 134, 3) := by decide +kernel
theorem dX6_text_39 : decode cX6_text 39 = .ok (.aload_n 0, 1) := by decide +kernel
theorem dX6_text_40 : decode cX6_text 40 = .ok (.getfield 101, 3) := by decide +kernel
theorem dX6_text_43 : decode cX6_text 43 = .ok (.iconst 3, 1) := by decide +kernel
theorem dX6_text_44 : decode cX6_text 44 = .ok (.if_icmp .ne 15, 3) := by decide +kernel
theorem dX6_text_47 : decode cX6_text 47 = .ok (.aload_n 0, 1) := by decide +kernel
theorem dX6_text_48 : decode cX6_text 48 = .ok (.getfield 104, 3) := by decide +kernel
theorem dX6_text_51 : decode cX6_text 51 = .ok (.iload_n 2, 1) := by decide +kernel
theorem dX6_text_52 : decode cX6_text 52 = .ok (.if_icmp .ne 7, 3) := by decide +kernel
theorem dX6_text_55 : decode cX6_text 55 = .ok (.iconst 1, 1) := by decide +kernel
theorem dX6_text_56 : decode cX6_text 56 = .ok (.goto 4, 3) := by decide +kernel
theorem dX6_text_59 : decode cX6_text 59 = .ok (.iconst 0, 1) := by decide +kernel
theorem dX6_text_60 : decode cX6_text 60 = .ok (.istore_n 1, 1) := by decide +kernel
theorem dX6_text_61 : decode cX6_text 61 = .ok (.aload_n 0, 1) := by decide +kernel
theorem dX6_text_62 : decode cX6_text 62 = .ok (.getfield 28, 3) := by decide +kernel
theorem dX6_text_65 : decode cX6_text 65 = .ok (.iconst 4, 1) := by decide +kernel
theorem dX6_text_66 : decode cX6_text 66 = .ok (.aload_n 0, 1) := by decide +kernel
theorem dX6_text_67 : decode cX6_text 67 = .ok (.getfield 85, 3) := by decide +kernel
theorem dX6_text_70 : decode cX6_text 70 = .ok (.imul, 1) := by decide +kernel
theorem dX6_text_71 : decode cX6_text 71 = .ok (.iload_n 2, 1) := by decide +kernel
theorem dX6_text_72 : decode cX6_text 72 = .ok (.iadd, 1) := by decide +kernel
theorem dX6_text_73 : decode cX6_text 73 = .ok (.aload_n 0, 1) := by decide +kernel
theorem dX6_text_74 : decode cX6_text 74 = .ok (.getfield 111, 3) := by decide +kernel
theorem dX6_text_77 : decode cX6_text 77 = .ok (.iastore, 1) := by decide +kernel
theorem dX6_text_78 : decode cX6_text 78 = .ok (.iload_n 1, 1) := by decide +kernel
theorem dX6_text_79 : decode cX6_text 79 = .ok (.ifCond .eq 14, 3) := by decide +kernel
theorem dX6_text_82 : decode cX6_text 82 = .ok (.aload_n 0, 1) := by decide +kernel
theorem dX6_text_83 : decode cX6_text 83 = .ok (.invokevirtual 147, 3) := by decide +kernel
theorem dX6_text_86 : decode cX6_text 86 = .ok (.ifCond .eq 7, 3) := by decide +kernel
theorem dX6_text_89 : decode cX6_text 89 = .ok (.iconst 1, 1) := by decide +kernel
theorem dX6_text_90 : decode cX6_text 90 = .ok (.goto 4, 3) := by decide +kernel
theorem dX6_text_93 : decode cX6_text 93 = .ok (.iconst 0, 1) := by decide +kernel
theorem dX6_text_94 : decode cX6_text 94 = .ok (.istore_n 1, 1) := by decide +kernel
theorem dX6_text_95 : decode cX6_text 95 = .ok (.iinc 2 1, 3) := by decide +kernel
theorem dX6_text_98 : decode cX6_text 98 = .ok (.goto (-72), 3) := by decide +kernel
theorem dX6_text_101 : decode cX6_text 101 = .ok (.iload_n 1, 1) := by decide +kernel
theorem dX6_text_102 : decode cX6_text 102 = .ok (.ifCond .eq 20, 3) := by decide +kernel
theorem dX6_text_105 : decode cX6_text 105 = .ok (.aload_n 0, 1) := by decide +kernel
theorem dX6_text_106 : decode cX6_text 106 = .ok (.invokevirtual 134, 3) := by decide +kernel
theorem dX6_text_109 : decode cX6_text 109 = .ok (.aload_n 0, 1) := by decide +kernel
theorem dX6_text_110 : decode cX6_text 110 = .ok (.getfield 101, 3) := by decide +kernel
theorem dX6_text_113 : decode cX6_text 113 = .ok (.ifCond .ne 7, 3) := by decide +kernel
theorem dX6_text_116 : decode cX6_text 116 = .ok (.iconst 1, 1) := by decide +kernel
theorem dX6_text_117 : decode cX6_text 117 = .ok (.goto 4, 3) := by decide +kernel
theorem dX6_text_120 : decode cX6_text 120 = .ok (.iconst 0, 1) := by decide +kernel
theorem dX6_text_121 : decode cX6_text 121 = .ok (.istore_n 1, 1) := by decide +kernel
theorem dX6_text_122 : decode cX6_text 122 = .ok (.aload_n 0, 1) := by decide +kernel
theorem dX6_text_123 : decode cX6_text 123 = .ok (.getfield 28, 3) := by decide +kernel
theorem dX6_text_126 : decode cX6_text 126 = .ok (.iconst 4, 1) := by decide +kernel
theorem dX6_text_127 : decode cX6_text 127 = .ok (.aload_n 0, 1) := by decide +kernel
theorem dX6_text_128 : decode cX6_text 128 = .ok (.getfield 85, 3) := by decide +kernel
theorem dX6_text_131 : decode cX6_text 131 = .ok (.imul, 1) := by decide +kernel
theorem dX6_text_132 : decode cX6_text 132 = .ok (.iconst 3, 1) := by decide +kernel
theorem dX6_text_133 : decode cX6_text 133 = .ok (.iadd, 1) := by decide +kernel
theorem dX6_text_134 : decode cX6_text 134 = .ok (.aload_n 0, 1) := by decide +kernel
theorem dX6_text_135 : decode cX6_text 135 = .ok (.getfield 111, 3) := by decide +kernel
theorem dX6_text_138 : decode cX6_text 138 = .ok (.iastore, 1) := by decide +kernel
theorem dX6_text_139 : decode cX6_text 139 = .ok (.aload_n 0, 1) := by decide +kernel
theorem dX6_text_140 : decode cX6_text 140 = .ok (.iconst 0, 1) := by decide +kernel
theorem dX6_text_141 : decode cX6_text 141 = .ok (.putfield 70, 3) := by decide +kernel
theorem dX6_text_144 : decode cX6_text 144 = .ok (.iload_n 1, 1) := by decide +kernel
theorem dX6_text_145 : decode cX6_text 145 = .ok (.ifCond .ne 11, 3) := by decide +kernel
theorem dX6_text_148 : decode cX6_text 148 = .ok (.bipush (-100), 2) := by decide +kernel
theorem dX6_text_150 : decode cX6_text 150 = .ok (.aload_n 0, 1) := by decide +kernel
theorem dX6_text_151 : decode cX6_text 151 = .ok (.getfield 98, 3) := by decide +kernel
theorem dX6_text_154 : decode cX6_text 154 = .ok (.isub, 1) := by decide +kernel
theorem dX6_text_155 : decode cX6_text 155 = .ok (.ireturn, 1) := by decide +kernel
theorem dX6_text_156 : decode cX6_text 156 = .ok (.aload_n 0, 1) := by decide +kernel
theorem dX6_text_157 : decode cX6_text 157 = .ok (.dup, 1) := by decide +kernel
theorem dX6_text_158 : decode cX6_text 158 = .ok (.getfield 85, 3) := by decide +kernel
theorem dX6_text_161 : decode cX6_text 161 = .ok (.iconst 1, 1) := by decide +kernel
theorem dX6_text_162 : decode cX6_text 162 = .ok (.iadd, 1) := by decide +kernel
theorem dX6_text_163 : decode cX6_text 163 = .ok (.putfield 85, 3) := by decide +kernel
theorem dX6_text_166 : decode cX6_text 166 = .ok (.aload_n 0, 1) := by decide +kernel
theorem dX6_text_167 : decode cX6_text 167 = .ok (.getfield 85, 3) := by decide +kernel
theorem dX6_text_170 : decode cX6_text 170 = .ok (.iconst 1, 1) := by decide +kernel
theorem dX6_text_171 : decode cX6_text 171 = .ok (.isub, 1) := by decide +kernel
theorem dX6_text_172 : decode cX6_text 172 = .ok (.ireturn, 1) := by decide +kernel
theorem dX6_two_0 : decode cX6_two 0 = .ok (.iload_n 0, 1) := by decide +kernel
theorem dX6_two_1 : decode cX6_two 1 = .ok (.tableswitch 101 11 17 #[43, 57, 101, 71, 82, 93, 97], 43) := by decide +kernel
theorem dX6_two_44 : decode cX6_two 44 = .ok (.iload_n 1, 1) := by decide +kernel
theorem dX6_two_45 : decode cX6_two 45 = .ok (.ifCond .ne 7, 3) := by decide +kernel
theorem dX6_two_48 : decode cX6_two 48 = .ok (.iload_n 2, 1) := by decide +kernel
theorem dX6_two_49 : decode cX6_two 49 = .ok (.ifCond .eq 7, 3) := by decide +kernel
theorem dX6_two_52 : decode cX6_two 52 = .ok (.iconst 1, 1) := by decide +kernel
theorem dX6_two_53 : decode cX6_two 53 = .ok (.goto 4, 3) := by decide +kernel
theorem dX6_two_56 : decode cX6_two 56 = .ok (.iconst 0, 1) := by decide +kernel
theorem dX6_two_57 : decode cX6_two 57 = .ok (.ireturn, 1) := by decide +kernel
theorem dX6_two_58 : decode cX6_two 58 = .ok (.iload_n 1, 1) := by decide +kernel
theorem dX6_two_59 : decode cX6_two 59 = .ok (.ifCond .eq 11, 3) := by decide +kernel
theorem dX6_two_62 : decode cX6_two 62 = .ok (.iload_n 2, 1) := by decide +kernel
theorem dX6_two_63 : decode cX6_two 63 = .ok (.ifCond .eq 7, 3) := by decide +kernel
theorem dX6_two_66 : decode cX6_two 66 = .ok (.iconst 1, 1) := by decide +kernel
theorem dX6_two_67 : decode cX6_two 67 = .ok (.goto 4, 3) := by decide +kernel
theorem dX6_two_70 : decode cX6_two 70 = .ok (.iconst 0, 1) := by decide +kernel
theorem dX6_two_71 : decode cX6_two 71 = .ok (.ireturn, 1) := by decide +kernel
theorem dX6_two_72 : decode cX6_two 72 = .ok (.iload_n 1, 1) := by decide +kernel
theorem dX6_two_73 : decode cX6_two 73 = .ok (.iload_n 2, 1) := by decide +kernel
theorem dX6_two_74 : decode cX6_two 74 = .ok (.if_icmp .ge 7, 3) := by decide +kernel
theorem dX6_two_77 : decode cX6_two 77 = .ok (.iconst 1, 1) := by decide +kernel
theorem dX6_two_78 : decode cX6_two 78 = .ok (.goto 4, 3) := by decide +kernel
theorem dX6_two_81 : decode cX6_two 81 = .ok (.iconst 0, 1) := by decide +kernel
theorem dX6_two_82 : decode cX6_two 82 = .ok (.ireturn, 1) := by decide +kernel
theorem dX6_two_83 : decode cX6_two 83 = .ok (.iload_n 1, 1) := by decide +kernel
theorem dX6_two_84 : decode cX6_two 84 = .ok (.iload_n 2, 1) := by decide +kernel
theorem dX6_two_85 : decode cX6_two 85 = .ok (.if_icmp .ne 7, 3) := by decide +kernel
theorem dX6_two_88 : decode cX6_two 88 = .ok (.iconst 1, 1) := by decide +kernel
theorem dX6_two_89 : decode cX6_two 89 = .ok (.goto 4, 3) := by decide +kernel
theorem dX6_two_92 : decode cX6_two 92 = .ok (.iconst 0, 1) := by decide +kernel
theorem dX6_two_93 : decode cX6_two 93 = .ok (.ireturn, 1) := by decide +kernel
theorem dX6_two_94 : decode cX6_two 94 = .ok (.iload_n 1, 1) := by decide +kernel
theorem dX6_two_95 : decode cX6_two 95 = .ok (.iload_n 2, 1) := by decide +kernel
theorem dX6_two_96 : decode cX6_two 96 = .ok (.iadd, 1) := by decide +kernel
theorem dX6_two_97 : decode cX6_two 97 = .ok (.ireturn, 1) := by decide +kernel
theorem dX6_two_98 : decode cX6_two 98 = .ok (.iload_n 1, 1) := by decide +kernel
theorem dX6_two_99 : decode cX6_two 99 = .ok (.iload_n 2, 1) := by decide +kernel
theorem dX6_two_100 : decode cX6_two 100 = .ok (.isub, 1) := by decide +kernel
theorem dX6_two_101 : decode cX6_two 101 = .ok (.ireturn, 1) := by decide +kernel
theorem dX6_two_102 : decode cX6_two 102 = .ok (.iload_n 1, 1) := by decide +kernel
theorem dX6_two_103 : decode cX6_two 103 = .ok (.iload_n 2, 1) := by decide +kernel
theorem dX6_two_104 : decode cX6_two 104 = .ok (.imul, 1) := by decide +kernel
theorem dX6_two_105 : decode cX6_two 105 = .ok (.ireturn, 1) := by decide +kernel
theorem dX6_says_0 : decode cX6_says 0 = .ok (.iconst 0, 1) := by decide +kernel
theorem dX6_says_1 : decode cX6_says 1 = .ok (.istore_n 2, 1) := by decide +kernel
theorem dX6_says_2 : decode cX6_says 2 = .ok (.aload_n 0, 1) := by decide +kernel
theorem dX6_says_3 : decode cX6_says 3 = .ok (.getfield 28, 3) := by decide +kernel
theorem dX6_says_6 : decode cX6_says 6 = .ok (.iconst 4, 1) := by decide +kernel
theorem dX6_says_7 : decode cX6_says 7 = .ok (.aload_n 0, 1) := by decide +kernel
theorem dX6_says_8 : decode cX6_says 8 = .ok (.getfield 88, 3) := by decide +kernel
theorem dX6_says_11 : decode cX6_says 11 = .ok (.imul, 1) := by decide +kernel
theorem dX6_says_12 : decode cX6_says 12 = .ok (.iload_n 1, 1) := by decide +kernel
theorem dX6_says_13 : decode cX6_says 13 = .ok (.iadd, 1) := by decide +kernel
theorem dX6_says_14 : decode cX6_says 14 = .ok (.iaload, 1) := by decide +kernel
theorem dX6_says_15 : decode cX6_says 15 = .ok (.istore_n 3, 1) := by decide +kernel
theorem dX6_says_16 : decode cX6_says 16 = .ok (.iload_n 3, 1) := by decide +kernel
theorem dX6_says_17 : decode cX6_says 17 = .ok (.aload_n 0, 1) := by decide +kernel
theorem dX6_says_18 : decode cX6_says 18 = .ok (.getfield 28, 3) := by decide +kernel
theorem dX6_says_21 : decode cX6_says 21 = .ok (.iconst 4, 1) := by decide +kernel
theorem dX6_says_22 : decode cX6_says 22 = .ok (.aload_n 0, 1) := by decide +kernel
theorem dX6_says_23 : decode cX6_says 23 = .ok (.getfield 88, 3) := by decide +kernel
theorem dX6_says_26 : decode cX6_says 26 = .ok (.imul, 1) := by decide +kernel
theorem dX6_says_27 : decode cX6_says 27 = .ok (.iload_n 1, 1) := by decide +kernel
theorem dX6_says_28 : decode cX6_says 28 = .ok (.iadd, 1) := by decide +kernel
theorem dX6_says_29 : decode cX6_says 29 = .ok (.iconst 1, 1) := by decide +kernel
theorem dX6_says_30 : decode cX6_says 30 = .ok (.iadd, 1) := by decide +kernel
theorem dX6_says_31 : decode cX6_says 31 = .ok (.iaload, 1) := by decide +kernel
theorem dX6_says_32 : decode cX6_says 32 = .ok (.if_icmp .ge 165, 3) := by decide +kernel
theorem dX6_says_35 : decode cX6_says 35 = .ok (.aload_n 0, 1) := by decide +kernel
theorem dX6_says_36 : decode cX6_says 36 = .ok (.getfield 25, 3) := by decide +kernel
theorem dX6_says_39 : decode cX6_says 39 = .ok (.sipush 200, 3) := by decide +kernel
theorem dX6_says_42 : decode cX6_says 42 = .ok (.aload_n 0, 1) := by decide +kernel
theorem dX6_says_43 : decode cX6_says 43 = .ok (.getfield 88, 3) := by decide +kernel
theorem dX6_says_46 : decode cX6_says 46 = .ok (.imul, 1) := by decide +kernel
theorem dX6_says_47 : decode cX6_says 47 = .ok (.iload_n 3, 1) := by decide +kernel
theorem dX6_says_48 : decode cX6_says 48 = .ok (.iadd, 1) := by decide +kernel
theorem dX6_says_49 : decode cX6_says 49 = .ok (.iaload, 1) := by decide +kernel
theorem dX6_says_50 : decode cX6_says 50 = .ok (.istore 4, 2) := by decide +kernel
theorem dX6_says_52 : decode cX6_says 52 = .ok (.iload 4, 2) := by decide +kernel
theorem dX6_says_54 : decode cX6_says 54 = .ok (.ldc 137, 2) := by decide +kernel
theorem dX6_says_56 : decode cX6_says 56 = .ok (.if_icmp .ge 10, 3) := by decide +kernel
theorem dX6_says_59 : decode cX6_says 59 = .ok (.iload 4, 2) := by decide +kernel
theorem dX6_says_61 : decode cX6_says 61 = .ok (.bipush 11, 2) := by decide +kernel
theorem dX6_says_63 : decode cX6_says 63 = .ok (.if_icmp .ge 37, 3) := by decide +kernel
theorem dX6_says_66 : decode cX6_says 66 = .ok (.aload_n 0, 1) := by decide +kernel
theorem dX6_says_67 : decode cX6_says 67 = .ok (.getfield 55, 3) := by decide +kernel
theorem dX6_says_70 : decode cX6_says 70 = .ok (.iload_n 2, 1) := by decide +kernel
theorem dX6_says_71 : decode cX6_says 71 = .ok (.iload 4, 2) := by decide +kernel
theorem dX6_says_73 : decode cX6_says 73 = .ok (.bipush 11, 2) := by decide +kernel
theorem dX6_says_75 : decode cX6_says 75 = .ok (.if_icmp .ge 13, 3) := by decide +kernel
theorem dX6_says_78 : decode cX6_says 78 = .ok (.aload_n 0, 1) := by decide +kernel
theorem dX6_says_79 : decode cX6_says 79 = .ok (.getfield 58, 3) := by decide +kernel
theorem dX6_says_82 : decode cX6_says 82 = .ok (.iload 4, 2) := by decide +kernel
theorem dX6_says_84 : decode cX6_says 84 = .ok (.iaload, 1) := by decide +kernel
theorem dX6_says_85 : decode cX6_says 85 = .ok (.goto 8, 3) := by decide +kernel
theorem dX6_says_88 : decode cX6_says 88 = .ok (.iload 4, 2) := by decide +kernel
theorem dX6_says_90 : decode cX6_says 90 = .ok (.ldc 137, 2) := by decide +kernel
theorem dX6_says_92 : decode cX6_says 92 = .ok (.isub, 1) := by decide +kernel
theorem dX6_says_93 : decode cX6_says 93 = .ok (.iastore, 1) := by decide +kernel
theorem dX6_says_94 : decode cX6_says 94 = .ok (.iinc 2 1, 3) := by decide +kernel
theorem dX6_says_97 : decode cX6_says 97 = .ok (.goto 94, 3) := by decide +kernel
theorem dX6_says_100 : decode cX6_says 100 = .ok (.iload 4, 2) := by decide +kernel
theorem dX6_says_102 : decode cX6_says 102 = .ok (.bipush 13, 2) := by decide +kernel
theorem dX6_says_104 : decode cX6_says 104 = .ok (.if_icmp .ne 30, 3) := by decide +kernel
theorem dX6_says_107 : decode cX6_says 107 = .ok (.aload_n 0, 1) := by decide +kernel
theorem dX6_says_108 : decode cX6_says 108 = .ok (.getfield 55, 3) := by decide +kernel
theorem dX6_says_111 : decode cX6_says 111 = .ok (.iload_n 2, 1) := by decide +kernel
theorem dX6_says_112 : decode cX6_says 112 = .ok (.iconst 1, 1) := by decide +kernel
theorem dX6_says_113 : decode cX6_says 113 = .ok (.isub, 1) := by decide +kernel
theorem dX6_says_114 : decode cX6_says 114 = .ok (.aload_n 0, 1) := by decide +kernel
theorem dX6_says_115 : decode cX6_says 115 = .ok (.getfield 55, 3) := by decide +kernel
theorem dX6_says_118 : decode cX6_says 118 = .ok (.iload_n 2, 1) := by decide +kernel
theorem dX6_says_119 : decode cX6_says 119 = .ok (.iconst 1, 1) := by decide +kernel
theorem dX6_says_120 : decode cX6_says 120 = .ok (.isub, 1) := by decide +kernel
theorem dX6_says_121 : decode cX6_says 121 = .ok (.iaload, 1) := by decide +kernel
theorem dX6_says_122 : decode cX6_says 122 = .ok (.ifCond .ne 7, 3) := by decide +kernel
theorem dX6_says_125 : decode cX6_says 125 = .ok (.iconst 1, 1) := by decide +kernel
theorem dX6_says_126 : decode cX6_says 126 = .ok (.goto 4, 3) := by decide +kernel
theorem dX6_says_129 : decode cX6_says 129 = .ok (.iconst 0, 1) := by decide +kernel
theorem dX6_says_130 : decode cX6_says 130 = .ok (.iastore, 1) := by decide +kernel
theorem dX6_says_131 : decode cX6_says 131 = .ok (.goto 60, 3) := by decide +kernel
theorem dX6_says_134 : decode cX6_says 134 = .ok (.iload 4, 2) := by decide +kernel
theorem dX6_says_136 : decode cX6_says 136 = .ok (.bipush 19, 2) := by decide +kernel
theorem dX6_says_138 : decode cX6_says 138 = .ok (.if_icmp .ne 23, 3) := by decide +kernel
theorem dX6_says_141 : decode cX6_says 141 = .ok (.aload_n 0, 1) := by decide +kernel
theorem dX6_says_142 : decode cX6_says 142 = .ok (.getfield 55, 3) := by decide +kernel
theorem dX6_says_145 : decode cX6_says 145 = .ok (.iload_n 2, 1) := by decide +kernel
theorem dX6_says_146 : decode cX6_says 146 = .ok (.iconst 1, 1) := by decide +kernel
theorem dX6_says_147 : decode cX6_says 147 = .ok (.isub, 1) := by decide +kernel
theorem dX6_says_148 : decode cX6_says 148 = .ok (.aload_n 0, 1) := by decide +kernel
theorem dX6_says_149 : decode cX6_says 149 = .ok (.getfield 55, 3) := by decide +kernel
theorem dX6_says_152 : decode cX6_says 152 = .ok (.iload_n 2, 1) := by decide +kernel
theorem dX6_says_153 : decode cX6_says 153 = .ok (.iconst 1, 1) := by decide +kernel
theorem dX6_says_154 : decode cX6_says 154 = .ok (.isub, 1) := by decide +kernel
theorem dX6_says_155 : decode cX6_says 155 = .ok (.iaload, 1) := by decide +kernel
theorem dX6_says_156 : decode cX6_says 156 = .ok (.ineg, 1) := by decide +kernel
theorem dX6_says_157 : decode cX6_says 157 = .ok (.iastore, 1) := by decide +kernel
theorem dX6_says_158 : decode cX6_says 158 = .ok (.goto 33, 3) := by decide +kernel
theorem dX6_says_161 : decode cX6_says 161 = .ok (.iinc 2 (-1), 3) := by decide +kernel
theorem dX6_says_164 : decode cX6_says 164 = .ok (.aload_n 0, 1) := by decide +kernel
theorem dX6_says_165 : decode cX6_says 165 = .ok (.getfield 55, 3) := by decide +kernel
theorem dX6_says_168 : decode cX6_says 168 = .ok (.iload_n 2, 1) := by decide +kernel
theorem dX6_says_169 : decode cX6_says 169 = .ok (.iconst 1, 1) := by decide +kernel
theorem dX6_says_170 : decode cX6_says 170 = .ok (.isub, 1) := by decide +kernel
theorem dX6_says_171 : decode cX6_says 171 = .ok (.iload 4, 2) := by decide +kernel
theorem dX6_says_173 : decode cX6_says 173 = .ok (.aload_n 0, 1) := by decide +kernel
theorem dX6_says_174 : decode cX6_says 174 = .ok (.getfield 55, 3) := by decide +kernel
theorem dX6_says_177 : decode cX6_says 177 = .ok (.iload_n 2, 1) := by decide +kernel
theorem dX6_says_178 : decode cX6_says 178 = .ok (.iconst 1, 1) := by decide +kernel
theorem dX6_says_179 : decode cX6_says 179 = .ok (.isub, 1) := by decide +kernel
theorem dX6_says_180 : decode cX6_says 180 = .ok (.iaload, 1) := by decide +kernel
theorem dX6_says_181 : decode cX6_says 181 = .ok (.aload_n 0, 1) := by decide +kernel
theorem dX6_says_182 : decode cX6_says 182 = .ok (.getfield 55, 3) := by decide +kernel
theorem dX6_says_185 : decode cX6_says 185 = .ok (.iload_n 2, 1) := by decide +kernel
theorem dX6_says_186 : decode cX6_says 186 = .ok (.iaload, 1) := by decide +kernel
theorem dX6_says_187 : decode cX6_says 187 = .ok (.invokestatic 151, 3) := by decide +kernel
theorem dX6_says_190 : decode cX6_says 190 = .ok (.iastore, 1) := by decide +kernel
theorem dX6_says_191 : decode cX6_says 191 = .ok (.iinc 3 1, 3) := by decide +kernel
theorem dX6_says_194 : decode cX6_says 194 = .ok (.goto (-178), 3) := by decide +kernel
theorem dX6_says_197 : decode cX6_says 197 = .ok (.aload_n 0, 1) := by decide +kernel
theorem dX6_says_198 : decode cX6_says 198 = .ok (.getfield 55, 3) := by decide +kernel
theorem dX6_says_201 : decode cX6_says 201 = .ok (.iconst 0, 1) := by decide +kernel
theorem dX6_says_202 : decode cX6_says 202 = .ok (.iaload, 1) := by decide +kernel
theorem dX6_says_203 : decode cX6_says 203 = .ok (.ireturn, 1) := by decide +kernel
theorem dX6_force_0 : decode cX6_force 0 = .ok (.iload_n 1, 1) := by decide +kernel
theorem dX6_force_1 : decode cX6_force 1 = .ok (.iconst 0, 1) := by decide +kernel
theorem dX6_force_2 : decode cX6_force 2 = .ok (.aload_n 0, 1) := by decide +kernel
theorem dX6_force_3 : decode cX6_force 3 = .ok (.getfield 85, 3) := by decide +kernel
theorem dX6_force_6 : decode cX6_force 6 = .ok (.iconst 1, 1) := by decide +kernel
theorem dX6_force_7 : decode cX6_force 7 = .ok (.isub, 1) := by decide +kernel
theorem dX6_force_8 : decode cX6_force 8 = .ok (.invokestatic 81, 3) := by decide +kernel
theorem dX6_force_11 : decode cX6_force 11 = .ok (.ifCond .ne 6, 3) := by decide +kernel
theorem dX6_force_14 : decode cX6_force 14 = .ok (.bipush (-2), 2) := by decide +kernel
theorem dX6_force_16 : decode cX6_force 16 = .ok (.ireturn, 1) := by decide +kernel
theorem dX6_force_17 : decode cX6_force 17 = .ok (.aload_n 0, 1) := by decide +kernel
theorem dX6_force_18 : decode cX6_force 18 = .ok (.getfield 88, 3) := by decide +kernel
theorem dX6_force_21 : decode cX6_force 21 = .ok (.istore_n 2, 1) := by decide +kernel
theorem dX6_force_22 : decode cX6_force 22 = .ok (.aload_n 0, 1) := by decide +kernel
theorem dX6_force_23 : decode cX6_force 23 = .ok (.iload_n 1, 1) := by decide +kernel
theorem dX6_force_24 : decode cX6_force 24 = .ok (.putfield 88, 3) := by decide +kernel
theorem dX6_force_27 : decode cX6_force 27 = .ok (.iload_n 2, 1) := by decide +kernel
theorem dX6_force_28 : decode cX6_force 28 = .ok (.ireturn, 1) := by decide +kernel
theorem dX6_asksOf_0 : decode cX6_asksOf 0 = .ok (.aload_n 0, 1) := by decide +kernel
theorem dX6_asksOf_1 : decode cX6_asksOf 1 = .ok (.getfield 58, 3) := by decide +kernel
theorem dX6_asksOf_4 : decode cX6_asksOf 4 = .ok (.iconst 0, 1) := by decide +kernel
theorem dX6_asksOf_5 : decode cX6_asksOf 5 = .ok (.aload_n 0, 1) := by decide +kernel
theorem dX6_asksOf_6 : decode cX6_asksOf 6 = .ok (.getfield 16, 3) := by decide +kernel
theorem dX6_asksOf_9 : decode cX6_asksOf 9 = .ok (.iconst 4, 1) := by decide +kernel
theorem dX6_asksOf_10 : decode cX6_asksOf 10 = .ok (.iload_n 2, 1) := by decide +kernel
theorem dX6_asksOf_11 : decode cX6_asksOf 11 = .ok (.imul, 1) := by decide +kernel
theorem dX6_asksOf_12 : decode cX6_asksOf 12 = .ok (.iaload, 1) := by decide +kernel
theorem dX6_asksOf_13 : decode cX6_asksOf 13 = .ok (.iastore, 1) := by decide +kernel
theorem dX6_asksOf_14 : decode cX6_asksOf 14 = .ok (.aload_n 0, 1) := by decide +kernel
theorem dX6_asksOf_15 : decode cX6_asksOf 15 = .ok (.getfield 58, 3) := by decide +kernel
theorem dX6_asksOf_18 : decode cX6_asksOf 18 = .ok (.iconst 1, 1) := by decide +kernel
theorem dX6_asksOf_19 : decode cX6_asksOf 19 = .ok (.aload_n 0, 1) := by decide +kernel
theorem dX6_asksOf_20 : decode cX6_asksOf 20 = .ok (.getfield 16, 3) := by decide +kernel
theorem dX6_asksOf_23 : decode cX6_asksOf 23 = .ok (.iconst 4, 1) := by decide +kernel
theorem dX6_asksOf_24 : decode cX6_asksOf 24 = .ok (.iload_n 2, 1) := by decide +kernel
theorem dX6_asksOf_25 : decode cX6_asksOf 25 = .ok (.imul, 1) := by decide +kernel
theorem dX6_asksOf_26 : decode cX6_asksOf 26 = .ok (.iconst 1, 1) := by decide +kernel
theorem dX6_asksOf_27 : decode cX6_asksOf 27 = .ok (.iadd, 1) := by decide +kernel
theorem dX6_asksOf_28 : decode cX6_asksOf 28 = .ok (.iaload, 1) := by decide +kernel
theorem dX6_asksOf_29 : decode cX6_asksOf 29 = .ok (.iconst 0, 1) := by decide +kernel
theorem dX6_asksOf_30 : decode cX6_asksOf 30 = .ok (.bipush 99, 2) := by decide +kernel
theorem dX6_asksOf_32 : decode cX6_asksOf 32 = .ok (.invokestatic 155, 3) := by decide +kernel
theorem dX6_asksOf_35 : decode cX6_asksOf 35 = .ok (.iastore, 1) := by decide +kernel
theorem dX6_asksOf_36 : decode cX6_asksOf 36 = .ok (.aload_n 0, 1) := by decide +kernel
theorem dX6_asksOf_37 : decode cX6_asksOf 37 = .ok (.getfield 58, 3) := by decide +kernel
theorem dX6_asksOf_40 : decode cX6_asksOf 40 = .ok (.iconst 2, 1) := by decide +kernel
theorem dX6_asksOf_41 : decode cX6_asksOf 41 = .ok (.aload_n 0, 1) := by decide +kernel
theorem dX6_asksOf_42 : decode cX6_asksOf 42 = .ok (.invokevirtual 158, 3) := by decide +kernel
theorem dX6_asksOf_45 : decode cX6_asksOf 45 = .ok (.iastore, 1) := by decide +kernel
theorem dX6_asksOf_46 : decode cX6_asksOf 46 = .ok (.aload_n 0, 1) := by decide +kernel
theorem dX6_asksOf_47 : decode cX6_asksOf 47 = .ok (.getfield 58, 3) := by decide +kernel
theorem dX6_asksOf_50 : decode cX6_asksOf 50 = .ok (.iconst 3, 1) := by decide +kernel
theorem dX6_asksOf_51 : decode cX6_asksOf 51 = .ok (.aload_n 0, 1) := by decide +kernel
theorem dX6_asksOf_52 : decode cX6_asksOf 52 = .ok (.getfield 19, 3) := by decide +kernel
theorem dX6_asksOf_55 : decode cX6_asksOf 55 = .ok (.iconst 2, 1) := by decide +kernel
theorem dX6_asksOf_56 : decode cX6_asksOf 56 = .ok (.iaload, 1) := by decide +kernel
theorem dX6_asksOf_57 : decode cX6_asksOf 57 = .ok (.iastore, 1) := by decide +kernel
theorem dX6_asksOf_58 : decode cX6_asksOf 58 = .ok (.aload_n 0, 1) := by decide +kernel
theorem dX6_asksOf_59 : decode cX6_asksOf 59 = .ok (.getfield 58, 3) := by decide +kernel
theorem dX6_asksOf_62 : decode cX6_asksOf 62 = .ok (.iconst 4, 1) := by decide +kernel
theorem dX6_asksOf_63 : decode cX6_asksOf 63 = .ok (.aload_n 0, 1) := by decide +kernel
theorem dX6_asksOf_64 : decode cX6_asksOf 64 = .ok (.getfield 78, 3) := by decide +kernel
theorem dX6_asksOf_67 : decode cX6_asksOf 67 = .ok (.iastore, 1) := by decide +kernel
theorem dX6_asksOf_68 : decode cX6_asksOf 68 = .ok (.aload_n 0, 1) := by decide +kernel
theorem dX6_asksOf_69 : decode cX6_asksOf 69 = .ok (.getfield 58, 3) := by decide +kernel
theorem dX6_asksOf_72 : decode cX6_asksOf 72 = .ok (.iconst 5, 1) := by decide +kernel
theorem dX6_asksOf_73 : decode cX6_asksOf 73 = .ok (.aload_n 0, 1) := by decide +kernel
theorem dX6_asksOf_74 : decode cX6_asksOf 74 = .ok (.getfield 13, 3) := by decide +kernel
theorem dX6_asksOf_77 : decode cX6_asksOf 77 = .ok (.iload_n 2, 1) := by decide +kernel
theorem dX6_asksOf_78 : decode cX6_asksOf 78 = .ok (.iaload, 1) := by decide +kernel
theorem dX6_asksOf_79 : decode cX6_asksOf 79 = .ok (.iastore, 1) := by decide +kernel
theorem dX6_asksOf_80 : decode cX6_asksOf 80 = .ok (.aload_n 0, 1) := by decide +kernel
theorem dX6_asksOf_81 : decode cX6_asksOf 81 = .ok (.iload_n 1, 1) := by decide +kernel
theorem dX6_asksOf_82 : decode cX6_asksOf 82 = .ok (.invokevirtual 161, 3) := by decide +kernel
theorem dX6_asksOf_85 : decode cX6_asksOf 85 = .ok (.iload_n 1, 1) := by decide +kernel
theorem dX6_asksOf_86 : decode cX6_asksOf 86 = .ok (.iconst 1, 1) := by decide +kernel
theorem dX6_asksOf_87 : decode cX6_asksOf 87 = .ok (.if_icmp .ne 8, 3) := by decide +kernel
theorem dX6_asksOf_90 : decode cX6_asksOf 90 = .ok (.bipush (-99), 2) := by decide +kernel
theorem dX6_asksOf_92 : decode cX6_asksOf 92 = .ok (.goto 4, 3) := by decide +kernel
theorem dX6_asksOf_95 : decode cX6_asksOf 95 = .ok (.iconst 0, 1) := by decide +kernel
theorem dX6_asksOf_96 : decode cX6_asksOf 96 = .ok (.bipush 99, 2) := by decide +kernel
theorem dX6_asksOf_98 : decode cX6_asksOf 98 = .ok (.invokestatic 155, 3) := by decide +kernel
theorem dX6_asksOf_101 : decode cX6_asksOf 101 = .ok (.ireturn, 1) := by decide +kernel
theorem dX6_asks_0 : decode cX6_asks 0 = .ok (.iload_n 1, 1) := by decide +kernel
theorem dX6_asks_1 : decode cX6_asks 1 = .ok (.iconst 0, 1) := by decide +kernel
theorem dX6_asks_2 : decode cX6_asks 2 = .ok (.iconst 2, 1) := by decide +kernel
theorem dX6_asks_3 : decode cX6_asks 3 = .ok (.invokestatic 81, 3) := by decide +kernel
theorem dX6_asks_6 : decode cX6_asks 6 = .ok (.ifCond .eq 20, 3) := by decide +kernel
theorem dX6_asks_9 : decode cX6_asks 9 = .ok (.aload_n 0, 1) := by decide +kernel
theorem dX6_asks_10 : decode cX6_asks 10 = .ok (.iload_n 2, 1) := by decide +kernel
theorem dX6_asks_11 : decode cX6_asks 11 = .ok (.invokevirtual 164, 3) := by decide +kernel
theorem dX6_asks_14 : decode cX6_asks 14 = .ok (.ifCond .eq 12, 3) := by decide +kernel
theorem dX6_asks_17 : decode cX6_asks 17 = .ok (.aload_n 0, 1) := by decide +kernel
theorem dX6_asks_18 : decode cX6_asks 18 = .ok (.iload_n 1, 1) := by decide +kernel
theorem dX6_asks_19 : decode cX6_asks 19 = .ok (.iload_n 2, 1) := by decide +kernel
theorem dX6_asks_20 : decode cX6_asks 20 = .ok (.invokevirtual 167, 3) := by decide +kernel
theorem dX6_asks_23 : decode cX6_asks 23 = .ok (.goto 6, 3) := by decide +kernel
theorem dX6_asks_26 : decode cX6_asks 26 = .ok (.sipush (-1000), 3) := by decide +kernel
theorem dX6_asks_29 : decode cX6_asks 29 = .ok (.ireturn, 1) := by decide +kernel
theorem dX6_person_0 : decode cX6_person 0 = .ok (.iload_n 1, 1) := by decide +kernel
theorem dX6_person_1 : decode cX6_person 1 = .ok (.iconst 0, 1) := by decide +kernel
theorem dX6_person_2 : decode cX6_person 2 = .ok (.bipush 59, 2) := by decide +kernel
theorem dX6_person_4 : decode cX6_person 4 = .ok (.invokestatic 81, 3) := by decide +kernel
theorem dX6_person_7 : decode cX6_person 7 = .ok (.ifCond .eq 23, 3) := by decide +kernel
theorem dX6_person_10 : decode cX6_person 10 = .ok (.iload_n 2, 1) := by decide +kernel
theorem dX6_person_11 : decode cX6_person 11 = .ok (.iconst 0, 1) := by decide +kernel
theorem dX6_person_12 : decode cX6_person 12 = .ok (.bipush 99, 2) := by decide +kernel
theorem dX6_person_14 : decode cX6_person 14 = .ok (.invokestatic 81, 3) := by decide +kernel
theorem dX6_person_17 : decode cX6_person 17 = .ok (.ifCond .eq 13, 3) := by decide +kernel
theorem dX6_person_20 : decode cX6_person 20 = .ok (.iload_n 3, 1) := by decide +kernel
theorem dX6_person_21 : decode cX6_person 21 = .ok (.iconst 0, 1) := by decide +kernel
theorem dX6_person_22 : decode cX6_person 22 = .ok (.ldc 170, 2) := by decide +kernel
theorem dX6_person_24 : decode cX6_person 24 = .ok (.invokestatic 81, 3) := by decide +kernel
theorem dX6_person_27 : decode cX6_person 27 = .ok (.ifCond .ne 6, 3) := by decide +kernel
theorem dX6_person_30 : decode cX6_person 30 = .ok (.bipush (-2), 2) := by decide +kernel
theorem dX6_person_32 : decode cX6_person 32 = .ok (.ireturn, 1) := by decide +kernel
theorem dX6_person_33 : decode cX6_person 33 = .ok (.aload_n 0, 1) := by decide +kernel
theorem dX6_person_34 : decode cX6_person 34 = .ok (.getfield 78, 3) := by decide +kernel
theorem dX6_person_37 : decode cX6_person 37 = .ok (.bipush 6, 2) := by decide +kernel
theorem dX6_person_39 : decode cX6_person 39 = .ok (.if_icmp .ne 6, 3) := by decide +kernel
theorem dX6_person_42 : decode cX6_person 42 = .ok (.bipush (-4), 2) := by decide +kernel
theorem dX6_person_44 : decode cX6_person 44 = .ok (.ireturn, 1) := by decide +kernel
theorem dX6_person_45 : decode cX6_person 45 = .ok (.aload_n 0, 1) := by decide +kernel
theorem dX6_person_46 : decode cX6_person 46 = .ok (.getfield 7, 3) := by decide +kernel
theorem dX6_person_49 : decode cX6_person 49 = .ok (.aload_n 0, 1) := by decide +kernel
theorem dX6_person_50 : decode cX6_person 50 = .ok (.getfield 78, 3) := by decide +kernel
theorem dX6_person_53 : decode cX6_person 53 = .ok (.iload_n 1, 1) := by decide +kernel
theorem dX6_person_54 : decode cX6_person 54 = .ok (.bipush 10, 2) := by decide +kernel
theorem dX6_person_56 : decode cX6_person 56 = .ok (.idiv, 1) := by decide +kernel
theorem dX6_person_57 : decode cX6_person 57 = .ok (.iastore, 1) := by decide +kernel
theorem dX6_person_58 : decode cX6_person 58 = .ok (.aload_n 0, 1) := by decide +kernel
theorem dX6_person_59 : decode cX6_person 59 = .ok (.getfield 13, 3) := by decide +kernel
theorem dX6_person_62 : decode cX6_person 62 = .ok (.aload_n 0, 1) := by decide +kernel
theorem dX6_person_63 : decode cX6_person 63 = .ok (.getfield 78, 3) := by decide +kernel
theorem dX6_person_66 : decode cX6_person 66 = .ok (.iload_n 1, 1) := by decide +kernel
theorem dX6_person_67 : decode cX6_person 67 = .ok (.bipush 10, 2) := by decide +kernel
theorem dX6_person_69 : decode cX6_person 69 = .ok (.irem, 1) := by decide +kernel
theorem dX6_person_70 : decode cX6_person 70 = .ok (.iastore, 1) := by decide +kernel
theorem dX6_person_71 : decode cX6_person 71 = .ok (.aload_n 0, 1) := by decide +kernel
theorem dX6_person_72 : decode cX6_person 72 = .ok (.getfield 16, 3) := by decide +kernel
theorem dX6_person_75 : decode cX6_person 75 = .ok (.iconst 4, 1) := by decide +kernel
theorem dX6_person_76 : decode cX6_person 76 = .ok (.aload_n 0, 1) := by decide +kernel
theorem dX6_person_77 : decode cX6_person 77 = .ok (.getfield 78, 3) := by decide +kernel
theorem dX6_person_80 : decode cX6_person 80 = .ok (.imul, 1) := by decide +kernel
theorem dX6_person_81 : decode cX6_person 81 = .ok (.iload_n 2, 1) := by decide +kernel
theorem dX6_person_82 : decode cX6_person 82 = .ok (.iastore, 1) := by decide +kernel
theorem dX6_person_83 : decode cX6_person 83 = .ok (.aload_n 0, 1) := by decide +kernel
theorem dX6_person_84 : decode cX6_person 84 = .ok (.getfield 16, 3) := by decide +kernel
theorem dX6_person_87 : decode cX6_person 87 = .ok (.iconst 4, 1) := by decide +kernel
theorem dX6_person_88 : decode cX6_person 88 = .ok (.aload_n 0, 1) := by decide +kernel
theorem dX6_person_89 : decode cX6_person 89 = .ok (.getfield 78, 3) := by decide +kernel
theorem dX6_person_92 : decode cX6_person 92 = .ok (.imul, 1) := by decide +kernel
theorem dX6_person_93 : decode cX6_person 93 = .ok (.iconst 1, 1) := by decide +kernel
theorem dX6_person_94 : decode cX6_person 94 = .ok (.iadd, 1) := by decide +kernel
theorem dX6_person_95 : decode cX6_person 95 = .ok (.iconst 0, 1) := by decide +kernel
theorem dX6_person_96 : decode cX6_person 96 = .ok (.iastore, 1) := by decide +kernel
theorem dX6_person_97 : decode cX6_person 97 = .ok (.aload_n 0, 1) := by decide +kernel
theorem dX6_person_98 : decode cX6_person 98 = .ok (.getfield 16, 3) := by decide +kernel
theorem dX6_person_101 : decode cX6_person 101 = .ok (.iconst 4, 1) := by decide +kernel
theorem dX6_person_102 : decode cX6_person 102 = .ok (.aload_n 0, 1) := by decide +kernel
theorem dX6_person_103 : decode cX6_person 103 = .ok (.getfield 78, 3) := by decide +kernel
theorem dX6_person_106 : decode cX6_person 106 = .ok (.imul, 1) := by decide +kernel
theorem dX6_person_107 : decode cX6_person 107 = .ok (.iconst 2, 1) := by decide +kernel
theorem dX6_person_108 : decode cX6_person 108 = .ok (.iadd, 1) := by decide +kernel
theorem dX6_person_109 : decode cX6_person 109 = .ok (.iload_n 3, 1) := by decide +kernel
theorem dX6_person_110 : decode cX6_person 110 = .ok (.iastore, 1) := by decide +kernel
theorem dX6_person_111 : decode cX6_person 111 = .ok (.aload_n 0, 1) := by decide +kernel
theorem dX6_person_112 : decode cX6_person 112 = .ok (.getfield 16, 3) := by decide +kernel
theorem dX6_person_115 : decode cX6_person 115 = .ok (.iconst 4, 1) := by decide +kernel
theorem dX6_person_116 : decode cX6_person 116 = .ok (.aload_n 0, 1) := by decide +kernel
theorem dX6_person_117 : decode cX6_person 117 = .ok (.getfield 78, 3) := by decide +kernel
theorem dX6_person_120 : decode cX6_person 120 = .ok (.imul, 1) := by decide +kernel
theorem dX6_person_121 : decode cX6_person 121 = .ok (.iconst 3, 1) := by decide +kernel
theorem dX6_person_122 : decode cX6_person 122 = .ok (.iadd, 1) := by decide +kernel
theorem dX6_person_123 : decode cX6_person 123 = .ok (.iconst 0, 1) := by decide +kernel
theorem dX6_person_124 : decode cX6_person 124 = .ok (.iastore, 1) := by decide +kernel
theorem dX6_person_125 : decode cX6_person 125 = .ok (.aload_n 0, 1) := by decide +kernel
theorem dX6_person_126 : decode cX6_person 126 = .ok (.dup, 1) := by decide +kernel
theorem dX6_person_127 : decode cX6_person 127 = .ok (.getfield 78, 3) := by decide +kernel
theorem dX6_person_130 : decode cX6_person 130 = .ok (.iconst 1, 1) := by decide +kernel
theorem dX6_person_131 : decode cX6_person 131 = .ok (.iadd, 1) := by decide +kernel
theorem dX6_person_132 : decode cX6_person 132 = .ok (.putfield 78, 3) := by decide +kernel
theorem dX6_person_135 : decode cX6_person 135 = .ok (.aload_n 0, 1) := by decide +kernel
theorem dX6_person_136 : decode cX6_person 136 = .ok (.getfield 78, 3) := by decide +kernel
theorem dX6_person_139 : decode cX6_person 139 = .ok (.iconst 1, 1) := by decide +kernel
theorem dX6_person_140 : decode cX6_person 140 = .ok (.isub, 1) := by decide +kernel
theorem dX6_person_141 : decode cX6_person 141 = .ok (.ireturn, 1) := by decide +kernel
theorem dX6_mostOf_0 : decode cX6_mostOf 0 = .ok (.iload_n 0, 1) := by decide +kernel
theorem dX6_mostOf_1 : decode cX6_mostOf 1 = .ok (.ifCond .ne 8, 3) := by decide +kernel
theorem dX6_mostOf_4 : decode cX6_mostOf 4 = .ok (.bipush 99, 2) := by decide +kernel
theorem dX6_mostOf_6 : decode cX6_mostOf 6 = .ok (.goto 25, 3) := by decide +kernel
theorem dX6_mostOf_9 : decode cX6_mostOf 9 = .ok (.iload_n 0, 1) := by decide +kernel
theorem dX6_mostOf_10 : decode cX6_mostOf 10 = .ok (.iconst 1, 1) := by decide +kernel
theorem dX6_mostOf_11 : decode cX6_mostOf 11 = .ok (.if_icmp .ne 9, 3) := by decide +kernel
theorem dX6_mostOf_14 : decode cX6_mostOf 14 = .ok (.sipush 9999, 3) := by decide +kernel
theorem dX6_mostOf_17 : decode cX6_mostOf 17 = .ok (.goto 14, 3) := by decide +kernel
theorem dX6_mostOf_20 : decode cX6_mostOf 20 = .ok (.iload_n 0, 1) := by decide +kernel
theorem dX6_mostOf_21 : decode cX6_mostOf 21 = .ok (.iconst 2, 1) := by decide +kernel
theorem dX6_mostOf_22 : decode cX6_mostOf 22 = .ok (.if_icmp .ne 8, 3) := by decide +kernel
theorem dX6_mostOf_25 : decode cX6_mostOf 25 = .ok (.ldc 170, 2) := by decide +kernel
theorem dX6_mostOf_27 : decode cX6_mostOf 27 = .ok (.goto 4, 3) := by decide +kernel
theorem dX6_mostOf_30 : decode cX6_mostOf 30 = .ok (.iconst 1, 1) := by decide +kernel
theorem dX6_mostOf_31 : decode cX6_mostOf 31 = .ok (.ireturn, 1) := by decide +kernel
theorem dX6_put_0 : decode cX6_put 0 = .ok (.aload_n 0, 1) := by decide +kernel
theorem dX6_put_1 : decode cX6_put 1 = .ok (.iload_n 1, 1) := by decide +kernel
theorem dX6_put_2 : decode cX6_put 2 = .ok (.invokevirtual 164, 3) := by decide +kernel
theorem dX6_put_5 : decode cX6_put 5 = .ok (.ifCond .ne 6, 3) := by decide +kernel
theorem dX6_put_8 : decode cX6_put 8 = .ok (.bipush (-5), 2) := by decide +kernel
theorem dX6_put_10 : decode cX6_put 10 = .ok (.ireturn, 1) := by decide +kernel
theorem dX6_put_11 : decode cX6_put 11 = .ok (.iload_n 2, 1) := by decide +kernel
theorem dX6_put_12 : decode cX6_put 12 = .ok (.iconst 0, 1) := by decide +kernel
theorem dX6_put_13 : decode cX6_put 13 = .ok (.iconst 3, 1) := by decide +kernel
theorem dX6_put_14 : decode cX6_put 14 = .ok (.invokestatic 81, 3) := by decide +kernel
theorem dX6_put_17 : decode cX6_put 17 = .ok (.ifCond .eq 15, 3) := by decide +kernel
theorem dX6_put_20 : decode cX6_put 20 = .ok (.iload_n 3, 1) := by decide +kernel
theorem dX6_put_21 : decode cX6_put 21 = .ok (.iconst 0, 1) := by decide +kernel
theorem dX6_put_22 : decode cX6_put 22 = .ok (.iload_n 2, 1) := by decide +kernel
theorem dX6_put_23 : decode cX6_put 23 = .ok (.invokestatic 171, 3) := by decide +kernel
theorem dX6_put_26 : decode cX6_put 26 = .ok (.invokestatic 81, 3) := by decide +kernel
theorem dX6_put_29 : decode cX6_put 29 = .ok (.ifCond .ne 6, 3) := by decide +kernel
theorem dX6_put_32 : decode cX6_put 32 = .ok (.bipush (-7), 2) := by decide +kernel
theorem dX6_put_34 : decode cX6_put 34 = .ok (.ireturn, 1) := by decide +kernel
theorem dX6_put_35 : decode cX6_put 35 = .ok (.aload_n 0, 1) := by decide +kernel
theorem dX6_put_36 : decode cX6_put 36 = .ok (.getfield 16, 3) := by decide +kernel
theorem dX6_put_39 : decode cX6_put 39 = .ok (.iconst 4, 1) := by decide +kernel
theorem dX6_put_40 : decode cX6_put 40 = .ok (.iload_n 1, 1) := by decide +kernel
theorem dX6_put_41 : decode cX6_put 41 = .ok (.imul, 1) := by decide +kernel
theorem dX6_put_42 : decode cX6_put 42 = .ok (.iload_n 2, 1) := by decide +kernel
theorem dX6_put_43 : decode cX6_put 43 = .ok (.iadd, 1) := by decide +kernel
theorem dX6_put_44 : decode cX6_put 44 = .ok (.iaload, 1) := by decide +kernel
theorem dX6_put_45 : decode cX6_put 45 = .ok (.istore 4, 2) := by decide +kernel
theorem dX6_put_47 : decode cX6_put 47 = .ok (.aload_n 0, 1) := by decide +kernel
theorem dX6_put_48 : decode cX6_put 48 = .ok (.getfield 16, 3) := by decide +kernel
theorem dX6_put_51 : decode cX6_put 51 = .ok (.iconst 4, 1) := by decide +kernel
theorem dX6_put_52 : decode cX6_put 52 = .ok (.iload_n 1, 1) := by decide +kernel
theorem dX6_put_53 : decode cX6_put 53 = .ok (.imul, 1) := by decide +kernel
theorem dX6_put_54 : decode cX6_put 54 = .ok (.iload_n 2, 1) := by decide +kernel
theorem dX6_put_55 : decode cX6_put 55 = .ok (.iadd, 1) := by decide +kernel
theorem dX6_put_56 : decode cX6_put 56 = .ok (.iload_n 3, 1) := by decide +kernel
theorem dX6_put_57 : decode cX6_put 57 = .ok (.iastore, 1) := by decide +kernel
theorem dX6_put_58 : decode cX6_put 58 = .ok (.iload 4, 2) := by decide +kernel
theorem dX6_put_60 : decode cX6_put 60 = .ok (.ireturn, 1) := by decide +kernel
theorem dX6_lies_0 : decode cX6_lies 0 = .ok (.aload_n 0, 1) := by decide +kernel
theorem dX6_lies_1 : decode cX6_lies 1 = .ok (.getfield 16, 3) := by decide +kernel
theorem dX6_lies_4 : decode cX6_lies 4 = .ok (.iconst 4, 1) := by decide +kernel
theorem dX6_lies_5 : decode cX6_lies 5 = .ok (.iload_n 1, 1) := by decide +kernel
theorem dX6_lies_6 : decode cX6_lies 6 = .ok (.imul, 1) := by decide +kernel
theorem dX6_lies_7 : decode cX6_lies 7 = .ok (.iconst 3, 1) := by decide +kernel
theorem dX6_lies_8 : decode cX6_lies 8 = .ok (.iadd, 1) := by decide +kernel
theorem dX6_lies_9 : decode cX6_lies 9 = .ok (.iaload, 1) := by decide +kernel
theorem dX6_lies_10 : decode cX6_lies 10 = .ok (.iconst 1, 1) := by decide +kernel
theorem dX6_lies_11 : decode cX6_lies 11 = .ok (.if_icmp .ne 5, 3) := by decide +kernel
theorem dX6_lies_14 : decode cX6_lies 14 = .ok (.iconst 0, 1) := by decide +kernel
theorem dX6_lies_15 : decode cX6_lies 15 = .ok (.ireturn, 1) := by decide +kernel
theorem dX6_lies_16 : decode cX6_lies 16 = .ok (.aload_n 0, 1) := by decide +kernel
theorem dX6_lies_17 : decode cX6_lies 17 = .ok (.getfield 16, 3) := by decide +kernel
theorem dX6_lies_20 : decode cX6_lies 20 = .ok (.iconst 4, 1) := by decide +kernel
theorem dX6_lies_21 : decode cX6_lies 21 = .ok (.iload_n 1, 1) := by decide +kernel
theorem dX6_lies_22 : decode cX6_lies 22 = .ok (.imul, 1) := by decide +kernel
theorem dX6_lies_23 : decode cX6_lies 23 = .ok (.iconst 2, 1) := by decide +kernel
theorem dX6_lies_24 : decode cX6_lies 24 = .ok (.iadd, 1) := by decide +kernel
theorem dX6_lies_25 : decode cX6_lies 25 = .ok (.iaload, 1) := by decide +kernel
theorem dX6_lies_26 : decode cX6_lies 26 = .ok (.aload_n 0, 1) := by decide +kernel
theorem dX6_lies_27 : decode cX6_lies 27 = .ok (.invokevirtual 158, 3) := by decide +kernel
theorem dX6_lies_30 : decode cX6_lies 30 = .ok (.ishr, 1) := by decide +kernel
theorem dX6_lies_31 : decode cX6_lies 31 = .ok (.iconst 1, 1) := by decide +kernel
theorem dX6_lies_32 : decode cX6_lies 32 = .ok (.iand, 1) := by decide +kernel
theorem dX6_lies_33 : decode cX6_lies 33 = .ok (.iconst 1, 1) := by decide +kernel
theorem dX6_lies_34 : decode cX6_lies 34 = .ok (.if_icmp .ne 7, 3) := by decide +kernel
theorem dX6_lies_37 : decode cX6_lies 37 = .ok (.iconst 1, 1) := by decide +kernel
theorem dX6_lies_38 : decode cX6_lies 38 = .ok (.goto 4, 3) := by decide +kernel
theorem dX6_lies_41 : decode cX6_lies 41 = .ok (.iconst 0, 1) := by decide +kernel
theorem dX6_lies_42 : decode cX6_lies 42 = .ok (.istore_n 2, 1) := by decide +kernel
theorem dX6_lies_43 : decode cX6_lies 43 = .ok (.aload_n 0, 1) := by decide +kernel
theorem dX6_lies_44 : decode cX6_lies 44 = .ok (.getfield 7, 3) := by decide +kernel
theorem dX6_lies_47 : decode cX6_lies 47 = .ok (.iload_n 1, 1) := by decide +kernel
theorem dX6_lies_48 : decode cX6_lies 48 = .ok (.iaload, 1) := by decide +kernel
theorem dX6_lies_49 : decode cX6_lies 49 = .ok (.iconst 5, 1) := by decide +kernel
theorem dX6_lies_50 : decode cX6_lies 50 = .ok (.if_icmp .ne 5, 3) := by decide +kernel
theorem dX6_lies_53 : decode cX6_lies 53 = .ok (.iconst 1, 1) := by decide +kernel
theorem dX6_lies_54 : decode cX6_lies 54 = .ok (.ireturn, 1) := by decide +kernel
theorem dX6_lies_55 : decode cX6_lies 55 = .ok (.aload_n 0, 1) := by decide +kernel
theorem dX6_lies_56 : decode cX6_lies 56 = .ok (.getfield 7, 3) := by decide +kernel
theorem dX6_lies_59 : decode cX6_lies 59 = .ok (.iload_n 1, 1) := by decide +kernel
theorem dX6_lies_60 : decode cX6_lies 60 = .ok (.iaload, 1) := by decide +kernel
theorem dX6_lies_61 : decode cX6_lies 61 = .ok (.iconst 4, 1) := by decide +kernel
theorem dX6_lies_62 : decode cX6_lies 62 = .ok (.if_icmp .ne 5, 3) := by decide +kernel
theorem dX6_lies_65 : decode cX6_lies 65 = .ok (.iload_n 2, 1) := by decide +kernel
theorem dX6_lies_66 : decode cX6_lies 66 = .ok (.ireturn, 1) := by decide +kernel
theorem dX6_lies_67 : decode cX6_lies 67 = .ok (.aload_n 0, 1) := by decide +kernel
theorem dX6_lies_68 : decode cX6_lies 68 = .ok (.iconst 0, 1) := by decide +kernel
theorem dX6_lies_69 : decode cX6_lies 69 = .ok (.iload_n 1, 1) := by decide +kernel
theorem dX6_lies_70 : decode cX6_lies 70 = .ok (.invokevirtual 167, 3) := by decide +kernel
theorem dX6_lies_73 : decode cX6_lies 73 = .ok (.ifCond .eq 7, 3) := by decide +kernel
theorem dX6_lies_76 : decode cX6_lies 76 = .ok (.iconst 1, 1) := by decide +kernel
theorem dX6_lies_77 : decode cX6_lies 77 = .ok (.goto 4, 3) := by decide +kernel
theorem dX6_lies_80 : decode cX6_lies 80 = .ok (.iconst 0, 1) := by decide +kernel
theorem dX6_lies_81 : decode cX6_lies 81 = .ok (.istore_n 3, 1) := by decide +kernel
theorem dX6_lies_82 : decode cX6_lies 82 = .ok (.iload_n 3, 1) := by decide +kernel
theorem dX6_lies_83 : decode cX6_lies 83 = .ok (.ifCond .eq 27, 3) := by decide +kernel
theorem dX6_lies_86 : decode cX6_lies 86 = .ok (.iload_n 2, 1) := by decide +kernel
theorem dX6_lies_87 : decode cX6_lies 87 = .ok (.ifCond .ne 19, 3) := by decide +kernel
theorem dX6_lies_90 : decode cX6_lies 90 = .ok (.aload_n 0, 1) := by decide +kernel
theorem dX6_lies_91 : decode cX6_lies 91 = .ok (.invokevirtual 158, 3) := by decide +kernel
theorem dX6_lies_94 : decode cX6_lies 94 = .ok (.bipush 12, 2) := by decide +kernel
theorem dX6_lies_96 : decode cX6_lies 96 = .ok (.irem, 1) := by decide +kernel
theorem dX6_lies_97 : decode cX6_lies 97 = .ok (.aload_n 0, 1) := by decide +kernel
theorem dX6_lies_98 : decode cX6_lies 98 = .ok (.getfield 13, 3) := by decide +kernel
theorem dX6_lies_101 : decode cX6_lies 101 = .ok (.iload_n 1, 1) := by decide +kernel
theorem dX6_lies_102 : decode cX6_lies 102 = .ok (.iaload, 1) := by decide +kernel
theorem dX6_lies_103 : decode cX6_lies 103 = .ok (.if_icmp .ne 7, 3) := by decide +kernel
theorem dX6_lies_106 : decode cX6_lies 106 = .ok (.iconst 1, 1) := by decide +kernel
theorem dX6_lies_107 : decode cX6_lies 107 = .ok (.goto 4, 3) := by decide +kernel
theorem dX6_lies_110 : decode cX6_lies 110 = .ok (.iconst 0, 1) := by decide +kernel
theorem dX6_lies_111 : decode cX6_lies 111 = .ok (.istore 4, 2) := by decide +kernel
theorem dX6_lies_113 : decode cX6_lies 113 = .ok (.aload_n 0, 1) := by decide +kernel
theorem dX6_lies_114 : decode cX6_lies 114 = .ok (.getfield 7, 3) := by decide +kernel
theorem dX6_lies_117 : decode cX6_lies 117 = .ok (.iload_n 1, 1) := by decide +kernel
theorem dX6_lies_118 : decode cX6_lies 118 = .ok (.iaload, 1) := by decide +kernel
theorem dX6_lies_119 : decode cX6_lies 119 = .ok (.iconst 1, 1) := by decide +kernel
theorem dX6_lies_120 : decode cX6_lies 120 = .ok (.if_icmp .ne 8, 3) := by decide +kernel
theorem dX6_lies_123 : decode cX6_lies 123 = .ok (.iload 4, 2) := by decide +kernel
theorem dX6_lies_125 : decode cX6_lies 125 = .ok (.goto 54, 3) := by decide +kernel
theorem dX6_lies_128 : decode cX6_lies 128 = .ok (.aload_n 0, 1) := by decide +kernel
theorem dX6_lies_129 : decode cX6_lies 129 = .ok (.getfield 7, 3) := by decide +kernel
theorem dX6_lies_132 : decode cX6_lies 132 = .ok (.iload_n 1, 1) := by decide +kernel
theorem dX6_lies_133 : decode cX6_lies 133 = .ok (.iaload, 1) := by decide +kernel
theorem dX6_lies_134 : decode cX6_lies 134 = .ok (.iconst 3, 1) := by decide +kernel
theorem dX6_lies_135 : decode cX6_lies 135 = .ok (.if_icmp .ne 31, 3) := by decide +kernel
theorem dX6_lies_138 : decode cX6_lies 138 = .ok (.iload 4, 2) := by decide +kernel
theorem dX6_lies_140 : decode cX6_lies 140 = .ok (.ifCond .eq 22, 3) := by decide +kernel
theorem dX6_lies_143 : decode cX6_lies 143 = .ok (.aload_n 0, 1) := by decide +kernel
theorem dX6_lies_144 : decode cX6_lies 144 = .ok (.getfield 19, 3) := by decide +kernel
theorem dX6_lies_147 : decode cX6_lies 147 = .ok (.iconst 2, 1) := by decide +kernel
theorem dX6_lies_148 : decode cX6_lies 148 = .ok (.iaload, 1) := by decide +kernel
theorem dX6_lies_149 : decode cX6_lies 149 = .ok (.aload_n 0, 1) := by decide +kernel
theorem dX6_lies_150 : decode cX6_lies 150 = .ok (.getfield 13, 3) := by decide +kernel
theorem dX6_lies_153 : decode cX6_lies 153 = .ok (.iload_n 1, 1) := by decide +kernel
theorem dX6_lies_154 : decode cX6_lies 154 = .ok (.iaload, 1) := by decide +kernel
theorem dX6_lies_155 : decode cX6_lies 155 = .ok (.if_icmp .le 7, 3) := by decide +kernel
theorem dX6_lies_158 : decode cX6_lies 158 = .ok (.iconst 1, 1) := by decide +kernel
theorem dX6_lies_159 : decode cX6_lies 159 = .ok (.goto 20, 3) := by decide +kernel
theorem dX6_lies_162 : decode cX6_lies 162 = .ok (.iconst 0, 1) := by decide +kernel
theorem dX6_lies_163 : decode cX6_lies 163 = .ok (.goto 16, 3) := by decide +kernel
theorem dX6_lies_166 : decode cX6_lies 166 = .ok (.iload_n 3, 1) := by decide +kernel
theorem dX6_lies_167 : decode cX6_lies 167 = .ok (.ifCond .eq 11, 3) := by decide +kernel
theorem dX6_lies_170 : decode cX6_lies 170 = .ok (.iload_n 2, 1) := by decide +kernel
theorem dX6_lies_171 : decode cX6_lies 171 = .ok (.ifCond .eq 7, 3) := by decide +kernel
theorem dX6_lies_174 : decode cX6_lies 174 = .ok (.iconst 1, 1) := by decide +kernel
theorem dX6_lies_175 : decode cX6_lies 175 = .ok (.goto 4, 3) := by decide +kernel
theorem dX6_lies_178 : decode cX6_lies 178 = .ok (.iconst 0, 1) := by decide +kernel
theorem dX6_lies_179 : decode cX6_lies 179 = .ok (.ireturn, 1) := by decide +kernel
theorem dX6_costsOf_0 : decode cX6_costsOf 0 = .ok (.aload_n 0, 1) := by decide +kernel
theorem dX6_costsOf_1 : decode cX6_costsOf 1 = .ok (.iconst 1, 1) := by decide +kernel
theorem dX6_costsOf_2 : decode cX6_costsOf 2 = .ok (.iload_n 1, 1) := by decide +kernel
theorem dX6_costsOf_3 : decode cX6_costsOf 3 = .ok (.invokevirtual 167, 3) := by decide +kernel
theorem dX6_costsOf_6 : decode cX6_costsOf 6 = .ok (.istore_n 2, 1) := by decide +kernel
theorem dX6_costsOf_7 : decode cX6_costsOf 7 = .ok (.aload_n 0, 1) := by decide +kernel
theorem dX6_costsOf_8 : decode cX6_costsOf 8 = .ok (.getfield 7, 3) := by decide +kernel
theorem dX6_costsOf_11 : decode cX6_costsOf 11 = .ok (.iload_n 1, 1) := by decide +kernel
theorem dX6_costsOf_12 : decode cX6_costsOf 12 = .ok (.iaload, 1) := by decide +kernel
theorem dX6_costsOf_13 : decode cX6_costsOf 13 = .ok (.tableswitch 51 1 4 #[31, 35, 31, 35], 31) := by decide +kernel
theorem dX6_costsOf_44 : decode cX6_costsOf 44 = .ok (.iload_n 2, 1) := by decide +kernel
theorem dX6_costsOf_45 : decode cX6_costsOf 45 = .ok (.iconst 2, 1) := by decide +kernel
theorem dX6_costsOf_46 : decode cX6_costsOf 46 = .ok (.idiv, 1) := by decide +kernel
theorem dX6_costsOf_47 : decode cX6_costsOf 47 = .ok (.ireturn, 1) := by decide +kernel
theorem dX6_costsOf_48 : decode cX6_costsOf 48 = .ok (.aload_n 0, 1) := by decide +kernel
theorem dX6_costsOf_49 : decode cX6_costsOf 49 = .ok (.getfield 19, 3) := by decide +kernel
theorem dX6_costsOf_52 : decode cX6_costsOf 52 = .ok (.iconst 2, 1) := by decide +kernel
theorem dX6_costsOf_53 : decode cX6_costsOf 53 = .ok (.iaload, 1) := by decide +kernel
theorem dX6_costsOf_54 : decode cX6_costsOf 54 = .ok (.iconst 5, 1) := by decide +kernel
theorem dX6_costsOf_55 : decode cX6_costsOf 55 = .ok (.if_icmp .lt 7, 3) := by decide +kernel
theorem dX6_costsOf_58 : decode cX6_costsOf 58 = .ok (.iconst 0, 1) := by decide +kernel
theorem dX6_costsOf_59 : decode cX6_costsOf 59 = .ok (.goto 4, 3) := by decide +kernel
theorem dX6_costsOf_62 : decode cX6_costsOf 62 = .ok (.iload_n 2, 1) := by decide +kernel
theorem dX6_costsOf_63 : decode cX6_costsOf 63 = .ok (.ireturn, 1) := by decide +kernel
theorem dX6_costsOf_64 : decode cX6_costsOf 64 = .ok (.iload_n 2, 1) := by decide +kernel
theorem dX6_costsOf_65 : decode cX6_costsOf 65 = .ok (.ireturn, 1) := by decide +kernel
theorem dX6_strokesOf_0 : decode cX6_strokesOf 0 = .ok (.aload_n 0, 1) := by decide +kernel
theorem dX6_strokesOf_1 : decode cX6_strokesOf 1 = .ok (.iconst 2, 1) := by decide +kernel
theorem dX6_strokesOf_2 : decode cX6_strokesOf 2 = .ok (.iload_n 1, 1) := by decide +kernel
theorem dX6_strokesOf_3 : decode cX6_strokesOf 3 = .ok (.invokevirtual 167, 3) := by decide +kernel
theorem dX6_strokesOf_6 : decode cX6_strokesOf 6 = .ok (.istore_n 2, 1) := by decide +kernel
theorem dX6_strokesOf_7 : decode cX6_strokesOf 7 = .ok (.aload_n 0, 1) := by decide +kernel
theorem dX6_strokesOf_8 : decode cX6_strokesOf 8 = .ok (.getfield 7, 3) := by decide +kernel
theorem dX6_strokesOf_11 : decode cX6_strokesOf 11 = .ok (.iload_n 1, 1) := by decide +kernel
theorem dX6_strokesOf_12 : decode cX6_strokesOf 12 = .ok (.iaload, 1) := by decide +kernel
theorem dX6_strokesOf_13 : decode cX6_strokesOf 13 = .ok (.tableswitch 68 2 5 #[31, 40, 44, 66], 31) := by decide +kernel
theorem dX6_strokesOf_44 : decode cX6_strokesOf 44 = .ok (.iload_n 2, 1) := by decide +kernel
theorem dX6_strokesOf_45 : decode cX6_strokesOf 45 = .ok (.aload_n 0, 1) := by decide +kernel
theorem dX6_strokesOf_46 : decode cX6_strokesOf 46 = .ok (.getfield 13, 3) := by decide +kernel
theorem dX6_strokesOf_49 : decode cX6_strokesOf 49 = .ok (.iload_n 1, 1) := by decide +kernel
theorem dX6_strokesOf_50 : decode cX6_strokesOf 50 = .ok (.iaload, 1) := by decide +kernel
theorem dX6_strokesOf_51 : decode cX6_strokesOf 51 = .ok (.iadd, 1) := by decide +kernel
theorem dX6_strokesOf_52 : decode cX6_strokesOf 52 = .ok (.ireturn, 1) := by decide +kernel
theorem dX6_strokesOf_53 : decode cX6_strokesOf 53 = .ok (.iconst 2, 1) := by decide +kernel
theorem dX6_strokesOf_54 : decode cX6_strokesOf 54 = .ok (.iload_n 2, 1) := by decide +kernel
theorem dX6_strokesOf_55 : decode cX6_strokesOf 55 = .ok (.imul, 1) := by decide +kernel
theorem dX6_strokesOf_56 : decode cX6_strokesOf 56 = .ok (.ireturn, 1) := by decide +kernel
theorem dX6_strokesOf_57 : decode cX6_strokesOf 57 = .ok (.aload_n 0, 1) := by decide +kernel
theorem dX6_strokesOf_58 : decode cX6_strokesOf 58 = .ok (.invokevirtual 158, 3) := by decide +kernel
theorem dX6_strokesOf_61 : decode cX6_strokesOf 61 = .ok (.iconst 3, 1) := by decide +kernel
theorem dX6_strokesOf_62 : decode cX6_strokesOf 62 = .ok (.irem, 1) := by decide +kernel
theorem dX6_strokesOf_63 : decode cX6_strokesOf 63 = .ok (.ifCond .ne 7, 3) := by decide +kernel
theorem dX6_strokesOf_66 : decode cX6_strokesOf 66 = .ok (.iconst 0, 1) := by decide +kernel
theorem dX6_strokesOf_67 : decode cX6_strokesOf 67 = .ok (.goto 11, 3) := by decide +kernel
theorem dX6_strokesOf_70 : decode cX6_strokesOf 70 = .ok (.iload_n 2, 1) := by decide +kernel
theorem dX6_strokesOf_71 : decode cX6_strokesOf 71 = .ok (.aload_n 0, 1) := by decide +kernel
theorem dX6_strokesOf_72 : decode cX6_strokesOf 72 = .ok (.getfield 13, 3) := by decide +kernel
theorem dX6_strokesOf_75 : decode cX6_strokesOf 75 = .ok (.iload_n 1, 1) := by decide +kernel
theorem dX6_strokesOf_76 : decode cX6_strokesOf 76 = .ok (.iaload, 1) := by decide +kernel
theorem dX6_strokesOf_77 : decode cX6_strokesOf 77 = .ok (.iadd, 1) := by decide +kernel
theorem dX6_strokesOf_78 : decode cX6_strokesOf 78 = .ok (.ireturn, 1) := by decide +kernel
theorem dX6_strokesOf_79 : decode cX6_strokesOf 79 = .ok (.iconst 0, 1) := by decide +kernel
theorem dX6_strokesOf_80 : decode cX6_strokesOf 80 = .ok (.ireturn, 1) := by decide +kernel
theorem dX6_strokesOf_81 : decode cX6_strokesOf 81 = .ok (.iload_n 2, 1) := by decide +kernel
theorem dX6_strokesOf_82 : decode cX6_strokesOf 82 = .ok (.ireturn, 1) := by decide +kernel
theorem dX6_liars_0 : decode cX6_liars 0 = .ok (.iconst 0, 1) := by decide +kernel
theorem dX6_liars_1 : decode cX6_liars 1 = .ok (.istore_n 1, 1) := by decide +kernel
theorem dX6_liars_2 : decode cX6_liars 2 = .ok (.iconst 0, 1) := by decide +kernel
theorem dX6_liars_3 : decode cX6_liars 3 = .ok (.istore_n 2, 1) := by decide +kernel
theorem dX6_liars_4 : decode cX6_liars 4 = .ok (.iload_n 2, 1) := by decide +kernel
theorem dX6_liars_5 : decode cX6_liars 5 = .ok (.aload_n 0, 1) := by decide +kernel
theorem dX6_liars_6 : decode cX6_liars 6 = .ok (.getfield 78, 3) := by decide +kernel
theorem dX6_liars_9 : decode cX6_liars 9 = .ok (.if_icmp .ge 27, 3) := by decide +kernel
theorem dX6_liars_12 : decode cX6_liars 12 = .ok (.iload_n 1, 1) := by decide +kernel
theorem dX6_liars_13 : decode cX6_liars 13 = .ok (.aload_n 0, 1) := by decide +kernel
theorem dX6_liars_14 : decode cX6_liars 14 = .ok (.iload_n 2, 1) := by decide +kernel
theorem dX6_liars_15 : decode cX6_liars 15 = .ok (.invokevirtual 174, 3) := by decide +kernel
theorem dX6_liars_18 : decode cX6_liars 18 = .ok (.ifCond .eq 9, 3) := by decide +kernel
theorem dX6_liars_21 : decode cX6_liars 21 = .ok (.iconst 1, 1) := by decide +kernel
theorem dX6_liars_22 : decode cX6_liars 22 = .ok (.iload_n 2, 1) := by decide +kernel
theorem dX6_liars_23 : decode cX6_liars 23 = .ok (.ishl, 1) := by decide +kernel
theorem dX6_liars_24 : decode cX6_liars 24 = .ok (.goto 4, 3) := by decide +kernel
theorem dX6_liars_27 : decode cX6_liars 27 = .ok (.iconst 0, 1) := by decide +kernel
theorem dX6_liars_28 : decode cX6_liars 28 = .ok (.ior, 1) := by decide +kernel
theorem dX6_liars_29 : decode cX6_liars 29 = .ok (.istore_n 1, 1) := by decide +kernel
theorem dX6_liars_30 : decode cX6_liars 30 = .ok (.iinc 2 1, 3) := by decide +kernel
theorem dX6_liars_33 : decode cX6_liars 33 = .ok (.goto (-29), 3) := by decide +kernel
theorem dX6_liars_36 : decode cX6_liars 36 = .ok (.iload_n 1, 1) := by decide +kernel
theorem dX6_liars_37 : decode cX6_liars 37 = .ok (.ireturn, 1) := by decide +kernel
theorem dX6_strikesBy_0 : decode cX6_strikesBy 0 = .ok (.iconst 0, 1) := by decide +kernel
theorem dX6_strikesBy_1 : decode cX6_strikesBy 1 = .ok (.istore_n 2, 1) := by decide +kernel
theorem dX6_strikesBy_2 : decode cX6_strikesBy 2 = .ok (.iconst 0, 1) := by decide +kernel
theorem dX6_strikesBy_3 : decode cX6_strikesBy 3 = .ok (.istore_n 3, 1) := by decide +kernel
theorem dX6_strikesBy_4 : decode cX6_strikesBy 4 = .ok (.iload_n 3, 1) := by decide +kernel
theorem dX6_strikesBy_5 : decode cX6_strikesBy 5 = .ok (.aload_n 0, 1) := by decide +kernel
theorem dX6_strikesBy_6 : decode cX6_strikesBy 6 = .ok (.getfield 78, 3) := by decide +kernel
theorem dX6_strikesBy_9 : decode cX6_strikesBy 9 = .ok (.if_icmp .ge 26, 3) := by decide +kernel
theorem dX6_strikesBy_12 : decode cX6_strikesBy 12 = .ok (.iload_n 1, 1) := by decide +kernel
theorem dX6_strikesBy_13 : decode cX6_strikesBy 13 = .ok (.iload_n 3, 1) := by decide +kernel
theorem dX6_strikesBy_14 : decode cX6_strikesBy 14 = .ok (.ishr, 1) := by decide +kernel
theorem dX6_strikesBy_15 : decode cX6_strikesBy 15 = .ok (.iconst 1, 1) := by decide +kernel
theorem dX6_strikesBy_16 : decode cX6_strikesBy 16 = .ok (.iand, 1) := by decide +kernel
theorem dX6_strikesBy_17 : decode cX6_strikesBy 17 = .ok (.iconst 1, 1) := by decide +kernel
theorem dX6_strikesBy_18 : decode cX6_strikesBy 18 = .ok (.if_icmp .ne 11, 3) := by decide +kernel
theorem dX6_strikesBy_21 : decode cX6_strikesBy 21 = .ok (.iload_n 2, 1) := by decide +kernel
theorem dX6_strikesBy_22 : decode cX6_strikesBy 22 = .ok (.aload_n 0, 1) := by decide +kernel
theorem dX6_strikesBy_23 : decode cX6_strikesBy 23 = .ok (.iload_n 3, 1) := by decide +kernel
theorem dX6_strikesBy_24 : decode cX6_strikesBy 24 = .ok (.invokevirtual 177, 3) := by decide +kernel
theorem dX6_strikesBy_27 : decode cX6_strikesBy 27 = .ok (.iadd, 1) := by decide +kernel
theorem dX6_strikesBy_28 : decode cX6_strikesBy 28 = .ok (.istore_n 2, 1) := by decide +kernel
theorem dX6_strikesBy_29 : decode cX6_strikesBy 29 = .ok (.iinc 3 1, 3) := by decide +kernel
theorem dX6_strikesBy_32 : decode cX6_strikesBy 32 = .ok (.goto (-28), 3) := by decide +kernel
theorem dX6_strikesBy_35 : decode cX6_strikesBy 35 = .ok (.iload_n 2, 1) := by decide +kernel
theorem dX6_strikesBy_36 : decode cX6_strikesBy 36 = .ok (.ireturn, 1) := by decide +kernel
theorem dX6_vows_0 : decode cX6_vows 0 = .ok (.iconst 0, 1) := by decide +kernel
theorem dX6_vows_1 : decode cX6_vows 1 = .ok (.istore_n 1, 1) := by decide +kernel
theorem dX6_vows_2 : decode cX6_vows 2 = .ok (.iconst 0, 1) := by decide +kernel
theorem dX6_vows_3 : decode cX6_vows 3 = .ok (.istore_n 2, 1) := by decide +kernel
theorem dX6_vows_4 : decode cX6_vows 4 = .ok (.iload_n 2, 1) := by decide +kernel
theorem dX6_vows_5 : decode cX6_vows 5 = .ok (.aload_n 0, 1) := by decide +kernel
theorem dX6_vows_6 : decode cX6_vows 6 = .ok (.getfield 78, 3) := by decide +kernel
theorem dX6_vows_9 : decode cX6_vows 9 = .ok (.if_icmp .ge 33, 3) := by decide +kernel
theorem dX6_vows_12 : decode cX6_vows 12 = .ok (.iload_n 1, 1) := by decide +kernel
theorem dX6_vows_13 : decode cX6_vows 13 = .ok (.aload_n 0, 1) := by decide +kernel
theorem dX6_vows_14 : decode cX6_vows 14 = .ok (.getfield 16, 3) := by decide +kernel
theorem dX6_vows_17 : decode cX6_vows 17 = .ok (.iconst 4, 1) := by decide +kernel
theorem dX6_vows_18 : decode cX6_vows 18 = .ok (.iload_n 2, 1) := by decide +kernel
theorem dX6_vows_19 : decode cX6_vows 19 = .ok (.imul, 1) := by decide +kernel
theorem dX6_vows_20 : decode cX6_vows 20 = .ok (.iconst 3, 1) := by decide +kernel
theorem dX6_vows_21 : decode cX6_vows 21 = .ok (.iadd, 1) := by decide +kernel
theorem dX6_vows_22 : decode cX6_vows 22 = .ok (.iaload, 1) := by decide +kernel
theorem dX6_vows_23 : decode cX6_vows 23 = .ok (.iconst 1, 1) := by decide +kernel
theorem dX6_vows_24 : decode cX6_vows 24 = .ok (.if_icmp .ne 9, 3) := by decide +kernel
theorem dX6_vows_27 : decode cX6_vows 27 = .ok (.iconst 1, 1) := by decide +kernel
theorem dX6_vows_28 : decode cX6_vows 28 = .ok (.iload_n 2, 1) := by decide +kernel
theorem dX6_vows_29 : decode cX6_vows 29 = .ok (.ishl, 1) := by decide +kernel
theorem dX6_vows_30 : decode cX6_vows 30 = .ok (.goto 4, 3) := by decide +kernel
theorem dX6_vows_33 : decode cX6_vows 33 = .ok (.iconst 0, 1) := by decide +kernel
theorem dX6_vows_34 : decode cX6_vows 34 = .ok (.ior, 1) := by decide +kernel
theorem dX6_vows_35 : decode cX6_vows 35 = .ok (.istore_n 1, 1) := by decide +kernel
theorem dX6_vows_36 : decode cX6_vows 36 = .ok (.iinc 2 1, 3) := by decide +kernel
theorem dX6_vows_39 : decode cX6_vows 39 = .ok (.goto (-35), 3) := by decide +kernel
theorem dX6_vows_42 : decode cX6_vows 42 = .ok (.iload_n 1, 1) := by decide +kernel
theorem dX6_vows_43 : decode cX6_vows 43 = .ok (.ireturn, 1) := by decide +kernel
theorem dX6_tells_0 : decode cX6_tells 0 = .ok (.aload_n 0, 1) := by decide +kernel
theorem dX6_tells_1 : decode cX6_tells 1 = .ok (.iload_n 1, 1) := by decide +kernel
theorem dX6_tells_2 : decode cX6_tells 2 = .ok (.invokevirtual 164, 3) := by decide +kernel
theorem dX6_tells_5 : decode cX6_tells 5 = .ok (.ifCond .ne 6, 3) := by decide +kernel
theorem dX6_tells_8 : decode cX6_tells 8 = .ok (.bipush (-5), 2) := by decide +kernel
theorem dX6_tells_10 : decode cX6_tells 10 = .ok (.ireturn, 1) := by decide +kernel
theorem dX6_tells_11 : decode cX6_tells 11 = .ok (.iload_n 2, 1) := by decide +kernel
theorem dX6_tells_12 : decode cX6_tells 12 = .ok (.tableswitch 107 0 8 #[52, 52, 52, 52, 63, 70, 77, 91, 101], 52) := by decide +kernel
theorem dX6_tells_64 : decode cX6_tells 64 = .ok (.aload_n 0, 1) := by decide +kernel
theorem dX6_tells_65 : decode cX6_tells 65 = .ok (.getfield 16, 3) := by decide +kernel
theorem dX6_tells_68 : decode cX6_tells 68 = .ok (.iconst 4, 1) := by decide +kernel
theorem dX6_tells_69 : decode cX6_tells 69 = .ok (.iload_n 1, 1) := by decide +kernel
theorem dX6_tells_70 : decode cX6_tells 70 = .ok (.imul, 1) := by decide +kernel
theorem dX6_tells_71 : decode cX6_tells 71 = .ok (.iload_n 2, 1) := by decide +kernel
theorem dX6_tells_72 : decode cX6_tells 72 = .ok (.iadd, 1) := by decide +kernel
theorem dX6_tells_73 : decode cX6_tells 73 = .ok (.iaload, 1) := by decide +kernel
theorem dX6_tells_74 : decode cX6_tells 74 = .ok (.ireturn, 1) := by decide +kernel
theorem dX6_tells_75 : decode cX6_tells 75 = .ok (.aload_n 0, 1) := by decide +kernel
theorem dX6_tells_76 : decode cX6_tells 76 = .ok (.getfield 7, 3) := by decide +kernel
theorem dX6_tells_79 : decode cX6_tells 79 = .ok (.iload_n 1, 1) := by decide +kernel
theorem dX6_tells_80 : decode cX6_tells 80 = .ok (.iaload, 1) := by decide +kernel
theorem dX6_tells_81 : decode cX6_tells 81 = .ok (.ireturn, 1) := by decide +kernel
theorem dX6_tells_82 : decode cX6_tells 82 = .ok (.aload_n 0, 1) := by decide +kernel
theorem dX6_tells_83 : decode cX6_tells 83 = .ok (.getfield 13, 3) := by decide +kernel
theorem dX6_tells_86 : decode cX6_tells 86 = .ok (.iload_n 1, 1) := by decide +kernel
theorem dX6_tells_87 : decode cX6_tells 87 = .ok (.iaload, 1) := by decide +kernel
theorem dX6_tells_88 : decode cX6_tells 88 = .ok (.ireturn, 1) := by decide +kernel
theorem dX6_tells_89 : decode cX6_tells 89 = .ok (.aload_n 0, 1) := by decide +kernel
theorem dX6_tells_90 : decode cX6_tells 90 = .ok (.iload_n 1, 1) := by decide +kernel
theorem dX6_tells_91 : decode cX6_tells 91 = .ok (.invokevirtual 174, 3) := by decide +kernel
theorem dX6_tells_94 : decode cX6_tells 94 = .ok (.ifCond .eq 7, 3) := by decide +kernel
theorem dX6_tells_97 : decode cX6_tells 97 = .ok (.iconst 1, 1) := by decide +kernel
theorem dX6_tells_98 : decode cX6_tells 98 = .ok (.goto 4, 3) := by decide +kernel
theorem dX6_tells_101 : decode cX6_tells 101 = .ok (.iconst 0, 1) := by decide +kernel
theorem dX6_tells_102 : decode cX6_tells 102 = .ok (.ireturn, 1) := by decide +kernel
theorem dX6_tells_103 : decode cX6_tells 103 = .ok (.sipush 1000, 3) := by decide +kernel
theorem dX6_tells_106 : decode cX6_tells 106 = .ok (.aload_n 0, 1) := by decide +kernel
theorem dX6_tells_107 : decode cX6_tells 107 = .ok (.iload_n 1, 1) := by decide +kernel
theorem dX6_tells_108 : decode cX6_tells 108 = .ok (.invokevirtual 180, 3) := by decide +kernel
theorem dX6_tells_111 : decode cX6_tells 111 = .ok (.iadd, 1) := by decide +kernel
theorem dX6_tells_112 : decode cX6_tells 112 = .ok (.ireturn, 1) := by decide +kernel
theorem dX6_tells_113 : decode cX6_tells 113 = .ok (.aload_n 0, 1) := by decide +kernel
theorem dX6_tells_114 : decode cX6_tells 114 = .ok (.iload_n 1, 1) := by decide +kernel
theorem dX6_tells_115 : decode cX6_tells 115 = .ok (.invokevirtual 177, 3) := by decide +kernel
theorem dX6_tells_118 : decode cX6_tells 118 = .ok (.ireturn, 1) := by decide +kernel
theorem dX6_tells_119 : decode cX6_tells 119 = .ok (.bipush (-7), 2) := by decide +kernel
theorem dX6_tells_121 : decode cX6_tells 121 = .ok (.ireturn, 1) := by decide +kernel
theorem dX6_bell_0 : decode cX6_bell 0 = .ok (.iload_n 1, 1) := by decide +kernel
theorem dX6_bell_1 : decode cX6_bell 1 = .ok (.tableswitch 57 0 3 #[31, 36, 45, 52], 31) := by decide +kernel
theorem dX6_bell_32 : decode cX6_bell 32 = .ok (.aload_n 0, 1) := by decide +kernel
theorem dX6_bell_33 : decode cX6_bell 33 = .ok (.invokevirtual 183, 3) := by decide +kernel
theorem dX6_bell_36 : decode cX6_bell 36 = .ok (.ireturn, 1) := by decide +kernel
theorem dX6_bell_37 : decode cX6_bell 37 = .ok (.aload_n 0, 1) := by decide +kernel
theorem dX6_bell_38 : decode cX6_bell 38 = .ok (.aload_n 0, 1) := by decide +kernel
theorem dX6_bell_39 : decode cX6_bell 39 = .ok (.invokevirtual 183, 3) := by decide +kernel
theorem dX6_bell_42 : decode cX6_bell 42 = .ok (.invokevirtual 186, 3) := by decide +kernel
theorem dX6_bell_45 : decode cX6_bell 45 = .ok (.ireturn, 1) := by decide +kernel
theorem dX6_bell_46 : decode cX6_bell 46 = .ok (.aload_n 0, 1) := by decide +kernel
theorem dX6_bell_47 : decode cX6_bell 47 = .ok (.getfield 19, 3) := by decide +kernel
theorem dX6_bell_50 : decode cX6_bell 50 = .ok (.iconst 1, 1) := by decide +kernel
theorem dX6_bell_51 : decode cX6_bell 51 = .ok (.iaload, 1) := by decide +kernel
theorem dX6_bell_52 : decode cX6_bell 52 = .ok (.ireturn, 1) := by decide +kernel
theorem dX6_bell_53 : decode cX6_bell 53 = .ok (.aload_n 0, 1) := by decide +kernel
theorem dX6_bell_54 : decode cX6_bell 54 = .ok (.invokevirtual 189, 3) := by decide +kernel
theorem dX6_bell_57 : decode cX6_bell 57 = .ok (.ireturn, 1) := by decide +kernel
theorem dX6_bell_58 : decode cX6_bell 58 = .ok (.bipush (-2), 2) := by decide +kernel
theorem dX6_bell_60 : decode cX6_bell 60 = .ok (.ireturn, 1) := by decide +kernel
theorem dX6_hourOf_0 : decode cX6_hourOf 0 = .ok (.aload_n 0, 1) := by decide +kernel
theorem dX6_hourOf_1 : decode cX6_hourOf 1 = .ok (.invokevirtual 183, 3) := by decide +kernel
theorem dX6_hourOf_4 : decode cX6_hourOf 4 = .ok (.istore_n 1, 1) := by decide +kernel
theorem dX6_hourOf_5 : decode cX6_hourOf 5 = .ok (.aload_n 0, 1) := by decide +kernel
theorem dX6_hourOf_6 : decode cX6_hourOf 6 = .ok (.iload_n 1, 1) := by decide +kernel
theorem dX6_hourOf_7 : decode cX6_hourOf 7 = .ok (.invokevirtual 186, 3) := by decide +kernel
theorem dX6_hourOf_10 : decode cX6_hourOf 10 = .ok (.istore_n 2, 1) := by decide +kernel
theorem dX6_hourOf_11 : decode cX6_hourOf 11 = .ok (.iconst 0, 1) := by decide +kernel
theorem dX6_hourOf_12 : decode cX6_hourOf 12 = .ok (.istore_n 3, 1) := by decide +kernel
theorem dX6_hourOf_13 : decode cX6_hourOf 13 = .ok (.iload_n 3, 1) := by decide +kernel
theorem dX6_hourOf_14 : decode cX6_hourOf 14 = .ok (.aload_n 0, 1) := by decide +kernel
theorem dX6_hourOf_15 : decode cX6_hourOf 15 = .ok (.getfield 78, 3) := by decide +kernel
theorem dX6_hourOf_18 : decode cX6_hourOf 18 = .ok (.if_icmp .ge 75, 3) := by decide +kernel
theorem dX6_hourOf_21 : decode cX6_hourOf 21 = .ok (.iload_n 1, 1) := by decide +kernel
theorem dX6_hourOf_22 : decode cX6_hourOf 22 = .ok (.iload_n 3, 1) := by decide +kernel
theorem dX6_hourOf_23 : decode cX6_hourOf 23 = .ok (.ishr, 1) := by decide +kernel
theorem dX6_hourOf_24 : decode cX6_hourOf 24 = .ok (.iconst 1, 1) := by decide +kernel
theorem dX6_hourOf_25 : decode cX6_hourOf 25 = .ok (.iand, 1) := by decide +kernel
theorem dX6_hourOf_26 : decode cX6_hourOf 26 = .ok (.iconst 1, 1) := by decide +kernel
theorem dX6_hourOf_27 : decode cX6_hourOf 27 = .ok (.if_icmp .ne 60, 3) := by decide +kernel
theorem dX6_hourOf_30 : decode cX6_hourOf 30 = .ok (.aload_n 0, 1) := by decide +kernel
theorem dX6_hourOf_31 : decode cX6_hourOf 31 = .ok (.getfield 16, 3) := by decide +kernel
theorem dX6_hourOf_34 : decode cX6_hourOf 34 = .ok (.iconst 4, 1) := by decide +kernel
theorem dX6_hourOf_35 : decode cX6_hourOf 35 = .ok (.iload_n 3, 1) := by decide +kernel
theorem dX6_hourOf_36 : decode cX6_hourOf 36 = .ok (.imul, 1) := by decide +kernel
theorem dX6_hourOf_37 : decode cX6_hourOf 37 = .ok (.aload_n 0, 1) := by decide +kernel
theorem dX6_hourOf_38 : decode cX6_hourOf 38 = .ok (.getfield 16, 3) := by decide +kernel
theorem dX6_hourOf_41 : decode cX6_hourOf 41 = .ok (.iconst 4, 1) := by decide +kernel
theorem dX6_hourOf_42 : decode cX6_hourOf 42 = .ok (.iload_n 3, 1) := by decide +kernel
theorem dX6_hourOf_43 : decode cX6_hourOf 43 = .ok (.imul, 1) := by decide +kernel
theorem dX6_hourOf_44 : decode cX6_hourOf 44 = .ok (.iaload, 1) := by decide +kernel
theorem dX6_hourOf_45 : decode cX6_hourOf 45 = .ok (.aload_n 0, 1) := by decide +kernel
theorem dX6_hourOf_46 : decode cX6_hourOf 46 = .ok (.iload_n 3, 1) := by decide +kernel
theorem dX6_hourOf_47 : decode cX6_hourOf 47 = .ok (.invokevirtual 180, 3) := by decide +kernel
theorem dX6_hourOf_50 : decode cX6_hourOf 50 = .ok (.isub, 1) := by decide +kernel
theorem dX6_hourOf_51 : decode cX6_hourOf 51 = .ok (.iconst 0, 1) := by decide +kernel
theorem dX6_hourOf_52 : decode cX6_hourOf 52 = .ok (.bipush 99, 2) := by decide +kernel
theorem dX6_hourOf_54 : decode cX6_hourOf 54 = .ok (.invokestatic 155, 3) := by decide +kernel
theorem dX6_hourOf_57 : decode cX6_hourOf 57 = .ok (.iastore, 1) := by decide +kernel
theorem dX6_hourOf_58 : decode cX6_hourOf 58 = .ok (.aload_n 0, 1) := by decide +kernel
theorem dX6_hourOf_59 : decode cX6_hourOf 59 = .ok (.getfield 16, 3) := by decide +kernel
theorem dX6_hourOf_62 : decode cX6_hourOf 62 = .ok (.iconst 4, 1) := by decide +kernel
theorem dX6_hourOf_63 : decode cX6_hourOf 63 = .ok (.iload_n 3, 1) := by decide +kernel
theorem dX6_hourOf_64 : decode cX6_hourOf 64 = .ok (.imul, 1) := by decide +kernel
theorem dX6_hourOf_65 : decode cX6_hourOf 65 = .ok (.iconst 1, 1) := by decide +kernel
theorem dX6_hourOf_66 : decode cX6_hourOf 66 = .ok (.iadd, 1) := by decide +kernel
theorem dX6_hourOf_67 : decode cX6_hourOf 67 = .ok (.aload_n 0, 1) := by decide +kernel
theorem dX6_hourOf_68 : decode cX6_hourOf 68 = .ok (.getfield 16, 3) := by decide +kernel
theorem dX6_hourOf_71 : decode cX6_hourOf 71 = .ok (.iconst 4, 1) := by decide +kernel
theorem dX6_hourOf_72 : decode cX6_hourOf 72 = .ok (.iload_n 3, 1) := by decide +kernel
theorem dX6_hourOf_73 : decode cX6_hourOf 73 = .ok (.imul, 1) := by decide +kernel
theorem dX6_hourOf_74 : decode cX6_hourOf 74 = .ok (.iconst 1, 1) := by decide +kernel
theorem dX6_hourOf_75 : decode cX6_hourOf 75 = .ok (.iadd, 1) := by decide +kernel
theorem dX6_hourOf_76 : decode cX6_hourOf 76 = .ok (.iaload, 1) := by decide +kernel
theorem dX6_hourOf_77 : decode cX6_hourOf 77 = .ok (.iconst 1, 1) := by decide +kernel
theorem dX6_hourOf_78 : decode cX6_hourOf 78 = .ok (.iadd, 1) := by decide +kernel
theorem dX6_hourOf_79 : decode cX6_hourOf 79 = .ok (.iconst 0, 1) := by decide +kernel
theorem dX6_hourOf_80 : decode cX6_hourOf 80 = .ok (.sipush 9999, 3) := by decide +kernel
theorem dX6_hourOf_83 : decode cX6_hourOf 83 = .ok (.invokestatic 155, 3) := by decide +kernel
theorem dX6_hourOf_86 : decode cX6_hourOf 86 = .ok (.iastore, 1) := by decide +kernel
theorem dX6_hourOf_87 : decode cX6_hourOf 87 = .ok (.iinc 3 1, 3) := by decide +kernel
theorem dX6_hourOf_90 : decode cX6_hourOf 90 = .ok (.goto (-77), 3) := by decide +kernel
theorem dX6_hourOf_93 : decode cX6_hourOf 93 = .ok (.aload_n 0, 1) := by decide +kernel
theorem dX6_hourOf_94 : decode cX6_hourOf 94 = .ok (.getfield 19, 3) := by decide +kernel
theorem dX6_hourOf_97 : decode cX6_hourOf 97 = .ok (.iconst 2, 1) := by decide +kernel
theorem dX6_hourOf_98 : decode cX6_hourOf 98 = .ok (.iload_n 2, 1) := by decide +kernel
theorem dX6_hourOf_99 : decode cX6_hourOf 99 = .ok (.iconst 0, 1) := by decide +kernel
theorem dX6_hourOf_100 : decode cX6_hourOf 100 = .ok (.bipush 99, 2) := by decide +kernel
theorem dX6_hourOf_102 : decode cX6_hourOf 102 = .ok (.invokestatic 155, 3) := by decide +kernel
theorem dX6_hourOf_105 : decode cX6_hourOf 105 = .ok (.iastore, 1) := by decide +kernel
theorem dX6_hourOf_106 : decode cX6_hourOf 106 = .ok (.aload_n 0, 1) := by decide +kernel
theorem dX6_hourOf_107 : decode cX6_hourOf 107 = .ok (.getfield 19, 3) := by decide +kernel
theorem dX6_hourOf_110 : decode cX6_hourOf 110 = .ok (.iconst 1, 1) := by decide +kernel
theorem dX6_hourOf_111 : decode cX6_hourOf 111 = .ok (.aload_n 0, 1) := by decide +kernel
theorem dX6_hourOf_112 : decode cX6_hourOf 112 = .ok (.getfield 19, 3) := by decide +kernel
theorem dX6_hourOf_115 : decode cX6_hourOf 115 = .ok (.iconst 1, 1) := by decide +kernel
theorem dX6_hourOf_116 : decode cX6_hourOf 116 = .ok (.iaload, 1) := by decide +kernel
theorem dX6_hourOf_117 : decode cX6_hourOf 117 = .ok (.iload_n 2, 1) := by decide +kernel
theorem dX6_hourOf_118 : decode cX6_hourOf 118 = .ok (.iadd, 1) := by decide +kernel
theorem dX6_hourOf_119 : decode cX6_hourOf 119 = .ok (.iconst 0, 1) := by decide +kernel
theorem dX6_hourOf_120 : decode cX6_hourOf 120 = .ok (.ldc 192, 2) := by decide +kernel
theorem dX6_hourOf_122 : decode cX6_hourOf 122 = .ok (.invokestatic 155, 3) := by decide +kernel
theorem dX6_hourOf_125 : decode cX6_hourOf 125 = .ok (.iastore, 1) := by decide +kernel
theorem dX6_hourOf_126 : decode cX6_hourOf 126 = .ok (.aload_n 0, 1) := by decide +kernel
theorem dX6_hourOf_127 : decode cX6_hourOf 127 = .ok (.getfield 19, 3) := by decide +kernel
theorem dX6_hourOf_130 : decode cX6_hourOf 130 = .ok (.iconst 0, 1) := by decide +kernel
theorem dX6_hourOf_131 : decode cX6_hourOf 131 = .ok (.dup2, 1) := by decide +kernel
theorem dX6_hourOf_132 : decode cX6_hourOf 132 = .ok (.iaload, 1) := by decide +kernel
theorem dX6_hourOf_133 : decode cX6_hourOf 133 = .ok (.iconst 1, 1) := by decide +kernel
theorem dX6_hourOf_134 : decode cX6_hourOf 134 = .ok (.iadd, 1) := by decide +kernel
theorem dX6_hourOf_135 : decode cX6_hourOf 135 = .ok (.iastore, 1) := by decide +kernel
theorem dX6_hourOf_136 : decode cX6_hourOf 136 = .ok (.aload_n 0, 1) := by decide +kernel
theorem dX6_hourOf_137 : decode cX6_hourOf 137 = .ok (.iload_n 1, 1) := by decide +kernel
theorem dX6_hourOf_138 : decode cX6_hourOf 138 = .ok (.putfield 193, 3) := by decide +kernel
theorem dX6_hourOf_141 : decode cX6_hourOf 141 = .ok (.iload_n 2, 1) := by decide +kernel
theorem dX6_hourOf_142 : decode cX6_hourOf 142 = .ok (.ireturn, 1) := by decide +kernel
theorem dX6_strike_0 : decode cX6_strike 0 = .ok (.aload_n 0, 1) := by decide +kernel
theorem dX6_strike_1 : decode cX6_strike 1 = .ok (.getfield 19, 3) := by decide +kernel
theorem dX6_strike_4 : decode cX6_strike 4 = .ok (.iconst 0, 1) := by decide +kernel
theorem dX6_strike_5 : decode cX6_strike 5 = .ok (.iaload, 1) := by decide +kernel
theorem dX6_strike_6 : decode cX6_strike 6 = .ok (.sipush 9999, 3) := by decide +kernel
theorem dX6_strike_9 : decode cX6_strike 9 = .ok (.if_icmp .ne 8, 3) := by decide +kernel
theorem dX6_strike_12 : decode cX6_strike 12 = .ok (.bipush (-3), 2) := by decide +kernel
theorem dX6_strike_14 : decode cX6_strike 14 = .ok (.goto 7, 3) := by decide +kernel
theorem dX6_strike_17 : decode cX6_strike 17 = .ok (.aload_n 0, 1) := by decide +kernel
theorem dX6_strike_18 : decode cX6_strike 18 = .ok (.invokevirtual 196, 3) := by decide +kernel
theorem dX6_strike_21 : decode cX6_strike 21 = .ok (.ireturn, 1) := by decide +kernel
theorem dX6_keeps_0 : decode cX6_keeps 0 = .ok (.iconst 0, 1) := by decide +kernel
theorem dX6_keeps_1 : decode cX6_keeps 1 = .ok (.istore_n 1, 1) := by decide +kernel
theorem dX6_keeps_2 : decode cX6_keeps 2 = .ok (.iload_n 1, 1) := by decide +kernel
theorem dX6_keeps_3 : decode cX6_keeps 3 = .ok (.bipush 24, 2) := by decide +kernel
theorem dX6_keeps_5 : decode cX6_keeps 5 = .ok (.if_icmp .ge 21, 3) := by decide +kernel
theorem dX6_keeps_8 : decode cX6_keeps 8 = .ok (.aload_n 0, 1) := by decide +kernel
theorem dX6_keeps_9 : decode cX6_keeps 9 = .ok (.getfield 61, 3) := by decide +kernel
theorem dX6_keeps_12 : decode cX6_keeps 12 = .ok (.iload_n 1, 1) := by decide +kernel
theorem dX6_keeps_13 : decode cX6_keeps 13 = .ok (.aload_n 0, 1) := by decide +kernel
theorem dX6_keeps_14 : decode cX6_keeps 14 = .ok (.getfield 16, 3) := by decide +kernel
theorem dX6_keeps_17 : decode cX6_keeps 17 = .ok (.iload_n 1, 1) := by decide +kernel
theorem dX6_keeps_18 : decode cX6_keeps 18 = .ok (.iaload, 1) := by decide +kernel
theorem dX6_keeps_19 : decode cX6_keeps 19 = .ok (.iastore, 1) := by decide +kernel
theorem dX6_keeps_20 : decode cX6_keeps 20 = .ok (.iinc 1 1, 3) := by decide +kernel
theorem dX6_keeps_23 : decode cX6_keeps 23 = .ok (.goto (-21), 3) := by decide +kernel
theorem dX6_keeps_26 : decode cX6_keeps 26 = .ok (.iconst 0, 1) := by decide +kernel
theorem dX6_keeps_27 : decode cX6_keeps 27 = .ok (.istore_n 1, 1) := by decide +kernel
theorem dX6_keeps_28 : decode cX6_keeps 28 = .ok (.iload_n 1, 1) := by decide +kernel
theorem dX6_keeps_29 : decode cX6_keeps 29 = .ok (.iconst 3, 1) := by decide +kernel
theorem dX6_keeps_30 : decode cX6_keeps 30 = .ok (.if_icmp .ge 24, 3) := by decide +kernel
theorem dX6_keeps_33 : decode cX6_keeps 33 = .ok (.aload_n 0, 1) := by decide +kernel
theorem dX6_keeps_34 : decode cX6_keeps 34 = .ok (.getfield 61, 3) := by decide +kernel
theorem dX6_keeps_37 : decode cX6_keeps 37 = .ok (.bipush 24, 2) := by decide +kernel
theorem dX6_keeps_39 : decode cX6_keeps 39 = .ok (.iload_n 1, 1) := by decide +kernel
theorem dX6_keeps_40 : decode cX6_keeps 40 = .ok (.iadd, 1) := by decide +kernel
theorem dX6_keeps_41 : decode cX6_keeps 41 = .ok (.aload_n 0, 1) := by decide +kernel
theorem dX6_keeps_42 : decode cX6_keeps 42 = .ok (.getfield 19, 3) := by decide +kernel
theorem dX6_keeps_45 : decode cX6_keeps 45 = .ok (.iload_n 1, 1) := by decide +kernel
theorem dX6_keeps_46 : decode cX6_keeps 46 = .ok (.iaload, 1) := by decide +kernel
theorem dX6_keeps_47 : decode cX6_keeps 47 = .ok (.iastore, 1) := by decide +kernel
theorem dX6_keeps_48 : decode cX6_keeps 48 = .ok (.iinc 1 1, 3) := by decide +kernel
theorem dX6_keeps_51 : decode cX6_keeps 51 = .ok (.goto (-23), 3) := by decide +kernel
theorem dX6_keeps_54 : decode cX6_keeps 54 = .ok (.return_, 1) := by decide +kernel
theorem dX6_lays_0 : decode cX6_lays 0 = .ok (.iconst 0, 1) := by decide +kernel
theorem dX6_lays_1 : decode cX6_lays 1 = .ok (.istore_n 1, 1) := by decide +kernel
theorem dX6_lays_2 : decode cX6_lays 2 = .ok (.iload_n 1, 1) := by decide +kernel
theorem dX6_lays_3 : decode cX6_lays 3 = .ok (.bipush 24, 2) := by decide +kernel
theorem dX6_lays_5 : decode cX6_lays 5 = .ok (.if_icmp .ge 21, 3) := by decide +kernel
theorem dX6_lays_8 : decode cX6_lays 8 = .ok (.aload_n 0, 1) := by decide +kernel
theorem dX6_lays_9 : decode cX6_lays 9 = .ok (.getfield 16, 3) := by decide +kernel
theorem dX6_lays_12 : decode cX6_lays 12 = .ok (.iload_n 1, 1) := by decide +kernel
theorem dX6_lays_13 : decode cX6_lays 13 = .ok (.aload_n 0, 1) := by decide +kernel
theorem dX6_lays_14 : decode cX6_lays 14 = .ok (.getfield 61, 3) := by decide +kernel
theorem dX6_lays_17 : decode cX6_lays 17 = .ok (.iload_n 1, 1) := by decide +kernel
theorem dX6_lays_18 : decode cX6_lays 18 = .ok (.iaload, 1) := by decide +kernel
theorem dX6_lays_19 : decode cX6_lays 19 = .ok (.iastore, 1) := by decide +kernel
theorem dX6_lays_20 : decode cX6_lays 20 = .ok (.iinc 1 1, 3) := by decide +kernel
theorem dX6_lays_23 : decode cX6_lays 23 = .ok (.goto (-21), 3) := by decide +kernel
theorem dX6_lays_26 : decode cX6_lays 26 = .ok (.iconst 0, 1) := by decide +kernel
theorem dX6_lays_27 : decode cX6_lays 27 = .ok (.istore_n 1, 1) := by decide +kernel
theorem dX6_lays_28 : decode cX6_lays 28 = .ok (.iload_n 1, 1) := by decide +kernel
theorem dX6_lays_29 : decode cX6_lays 29 = .ok (.iconst 3, 1) := by decide +kernel
theorem dX6_lays_30 : decode cX6_lays 30 = .ok (.if_icmp .ge 24, 3) := by decide +kernel
theorem dX6_lays_33 : decode cX6_lays 33 = .ok (.aload_n 0, 1) := by decide +kernel
theorem dX6_lays_34 : decode cX6_lays 34 = .ok (.getfield 19, 3) := by decide +kernel
