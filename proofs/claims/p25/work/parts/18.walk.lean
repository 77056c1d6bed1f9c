theorem dX4_row_0 : decode cX4_row 0 = .ok (.aload_n 0, 1) := qd_p qo_42 (by decide +kernel)
theorem dX4_row_1 : decode cX4_row 1 = .ok (.iconst 0, 1) := qd_p qo_3 (by decide +kernel)
theorem dX4_row_2 : decode cX4_row 2 = .ok (.putfield 70, 3) := qz_2 .putfield 0 70 qo_181 (by decide +kernel) rfl
theorem dX4_row_5 : decode cX4_row 5 = .ok (.iload_n 1, 1) := qd_p qo_27 (by decide +kernel)
theorem dX4_row_6 : decode cX4_row 6 = .ok (.ifCond .ge 10, 3) := qz_s2 (.ifCond .ge) 0 10 qo_156 (by decide +kernel) rfl
theorem dX4_row_9 : decode cX4_row 9 = .ok (.aload_n 0, 1) := qd_p qo_42 (by decide +kernel)
theorem dX4_row_10 : decode cX4_row 10 = .ok (.bipush (-4), 2) := qz_s1 .bipush 252 qo_16 (by decide +kernel) rfl
theorem dX4_row_12 : decode cX4_row 12 = .ok (.invokevirtual 143, 3) := qz_2 .invokevirtual 0 143 qo_182 (by decide +kernel) rfl
theorem dX4_row_15 : decode cX4_row 15 = .ok (.ireturn, 1) := qd_p qo_172 (by decide +kernel)
theorem dX4_row_16 : decode cX4_row 16 = .ok (.iload_n 1, 1) := qd_p qo_27 (by decide +kernel)
theorem dX4_row_17 : decode cX4_row 17 = .ok (.bipush 99, 2) := qz_s1 .bipush 99 qo_16 (by decide +kernel) rfl
theorem dX4_row_19 : decode cX4_row 19 = .ok (.if_icmp .gt 12, 3) := qz_s2 (.if_icmp .gt) 0 12 qo_163 (by decide +kernel) rfl
theorem dX4_row_22 : decode cX4_row 22 = .ok (.aload_n 0, 1) := qd_p qo_42 (by decide +kernel)
theorem dX4_row_23 : decode cX4_row 23 = .ok (.getfield 279, 3) := qz_2 .getfield 1 23 qo_180 (by decide +kernel) rfl
theorem dX4_row_26 : decode cX4_row 26 = .ok (.bipush 12, 2) := qz_s1 .bipush 12 qo_16 (by decide +kernel) rfl
theorem dX4_row_28 : decode cX4_row 28 = .ok (.if_icmp .ne 10, 3) := qz_s2 (.if_icmp .ne) 0 10 qo_160 (by decide +kernel) rfl
theorem dX4_row_31 : decode cX4_row 31 = .ok (.aload_n 0, 1) := qd_p qo_42 (by decide +kernel)
theorem dX4_row_32 : decode cX4_row 32 = .ok (.bipush (-6), 2) := qz_s1 .bipush 250 qo_16 (by decide +kernel) rfl
theorem dX4_row_34 : decode cX4_row 34 = .ok (.invokevirtual 143, 3) := qz_2 .invokevirtual 0 143 qo_182 (by decide +kernel) rfl
theorem dX4_row_37 : decode cX4_row 37 = .ok (.ireturn, 1) := qd_p qo_172 (by decide +kernel)
theorem dX4_row_38 : decode cX4_row 38 = .ok (.aload_n 0, 1) := qd_p qo_42 (by decide +kernel)
theorem dX4_row_39 : decode cX4_row 39 = .ok (.getfield 67, 3) := qz_2 .getfield 0 67 qo_180 (by decide +kernel) rfl
theorem dX4_row_42 : decode cX4_row 42 = .ok (.aload_n 0, 1) := qd_p qo_42 (by decide +kernel)
theorem dX4_row_43 : decode cX4_row 43 = .ok (.getfield 279, 3) := qz_2 .getfield 1 23 qo_180 (by decide +kernel) rfl
theorem dX4_row_46 : decode cX4_row 46 = .ok (.iload_n 1, 1) := qd_p qo_27 (by decide +kernel)
theorem dX4_row_47 : decode cX4_row 47 = .ok (.iastore, 1) := qd_p qo_79 (by decide +kernel)
theorem dX4_row_48 : decode cX4_row 48 = .ok (.aload_n 0, 1) := qd_p qo_42 (by decide +kernel)
theorem dX4_row_49 : decode cX4_row 49 = .ok (.dup, 1) := qd_p qo_89 (by decide +kernel)
theorem dX4_row_50 : decode cX4_row 50 = .ok (.getfield 279, 3) := qz_2 .getfield 1 23 qo_180 (by decide +kernel) rfl
theorem dX4_row_53 : decode cX4_row 53 = .ok (.iconst 1, 1) := qd_p qo_4 (by decide +kernel)
theorem dX4_row_54 : decode cX4_row 54 = .ok (.iadd, 1) := qd_p qo_96 (by decide +kernel)
theorem dX4_row_55 : decode cX4_row 55 = .ok (.putfield 279, 3) := qz_2 .putfield 1 23 qo_181 (by decide +kernel) rfl
theorem dX4_row_58 : decode cX4_row 58 = .ok (.aload_n 0, 1) := qd_p qo_42 (by decide +kernel)
theorem dX4_row_59 : decode cX4_row 59 = .ok (.getfield 279, 3) := qz_2 .getfield 1 23 qo_180 (by decide +kernel) rfl
theorem dX4_row_62 : decode cX4_row 62 = .ok (.ireturn, 1) := qd_p qo_172 (by decide +kernel)
theorem dX4_judge_0 : decode cX4_judge 0 = .ok (.aload_n 0, 1) := qd_p qo_42 (by decide +kernel)
theorem dX4_judge_1 : decode cX4_judge 1 = .ok (.iconst 0, 1) := qd_p qo_3 (by decide +kernel)
theorem dX4_judge_2 : decode cX4_judge 2 = .ok (.putfield 70, 3) := qz_2 .putfield 0 70 qo_181 (by decide +kernel) rfl
theorem dX4_judge_5 : decode cX4_judge 5 = .ok (.iload_n 1, 1) := qd_p qo_27 (by decide +kernel)
theorem dX4_judge_6 : decode cX4_judge 6 = .ok (.invokestatic 243, 3) := qz_2 .invokestatic 0 243 qo_184 (by decide +kernel) rfl
theorem dX4_judge_9 : decode cX4_judge 9 = .ok (.ifCond .ne 9, 3) := qz_s2 (.ifCond .ne) 0 9 qo_154 (by decide +kernel) rfl
theorem dX4_judge_12 : decode cX4_judge 12 = .ok (.aload_n 0, 1) := qd_p qo_42 (by decide +kernel)
theorem dX4_judge_13 : decode cX4_judge 13 = .ok (.iconst (-1), 1) := qd_p qo_2 (by decide +kernel)
theorem dX4_judge_14 : decode cX4_judge 14 = .ok (.invokevirtual 143, 3) := qz_2 .invokevirtual 0 143 qo_182 (by decide +kernel) rfl
theorem dX4_judge_17 : decode cX4_judge 17 = .ok (.ireturn, 1) := qd_p qo_172 (by decide +kernel)
theorem dX4_judge_18 : decode cX4_judge 18 = .ok (.aload_n 0, 1) := qd_p qo_42 (by decide +kernel)
theorem dX4_judge_19 : decode cX4_judge 19 = .ok (.getfield 279, 3) := qz_2 .getfield 1 23 qo_180 (by decide +kernel) rfl
theorem dX4_judge_22 : decode cX4_judge 22 = .ok (.istore_n 2, 1) := qd_p qo_61 (by decide +kernel)
theorem dX4_judge_23 : decode cX4_judge 23 = .ok (.aload_n 0, 1) := qd_p qo_42 (by decide +kernel)
theorem dX4_judge_24 : decode cX4_judge 24 = .ok (.iconst 0, 1) := qd_p qo_3 (by decide +kernel)
theorem dX4_judge_25 : decode cX4_judge 25 = .ok (.putfield 279, 3) := qz_2 .putfield 1 23 qo_181 (by decide +kernel) rfl
theorem dX4_judge_28 : decode cX4_judge 28 = .ok (.aload_n 0, 1) := qd_p qo_42 (by decide +kernel)
theorem dX4_judge_29 : decode cX4_judge 29 = .ok (.invokevirtual 134, 3) := qz_2 .invokevirtual 0 134 qo_182 (by decide +kernel) rfl
theorem dX4_judge_32 : decode cX4_judge 32 = .ok (.iconst 0, 1) := qd_p qo_3 (by decide +kernel)
theorem dX4_judge_33 : decode cX4_judge 33 = .ok (.istore_n 3, 1) := qd_p qo_62 (by decide +kernel)
theorem dX4_judge_34 : decode cX4_judge 34 = .ok (.iload_n 3, 1) := qd_p qo_29 (by decide +kernel)
theorem dX4_judge_35 : decode cX4_judge 35 = .ok (.iload_n 2, 1) := qd_p qo_28 (by decide +kernel)
theorem dX4_judge_36 : decode cX4_judge 36 = .ok (.if_icmp .ge 40, 3) := qz_s2 (.if_icmp .ge) 0 40 qo_162 (by decide +kernel) rfl
theorem dX4_judge_39 : decode cX4_judge 39 = .ok (.aload_n 0, 1) := qd_p qo_42 (by decide +kernel)
theorem dX4_judge_40 : decode cX4_judge 40 = .ok (.iload_n 1, 1) := qd_p qo_27 (by decide +kernel)
theorem dX4_judge_41 : decode cX4_judge 41 = .ok (.iload_n 3, 1) := qd_p qo_29 (by decide +kernel)
theorem dX4_judge_42 : decode cX4_judge 42 = .ok (.invokevirtual 125, 3) := qz_2 .invokevirtual 0 125 qo_182 (by decide +kernel) rfl
theorem dX4_judge_45 : decode cX4_judge 45 = .ok (.istore 4, 2) := qz_1 .istore 4 qo_54 (by decide +kernel)
theorem dX4_judge_47 : decode cX4_judge 47 = .ok (.aload_n 0, 1) := qd_p qo_42 (by decide +kernel)
theorem dX4_judge_48 : decode cX4_judge 48 = .ok (.getfield 67, 3) := qz_2 .getfield 0 67 qo_180 (by decide +kernel) rfl
theorem dX4_judge_51 : decode cX4_judge 51 = .ok (.iload_n 3, 1) := qd_p qo_29 (by decide +kernel)
theorem dX4_judge_52 : decode cX4_judge 52 = .ok (.iaload, 1) := qd_p qo_46 (by decide +kernel)
theorem dX4_judge_53 : decode cX4_judge 53 = .ok (.iload 4, 2) := qz_1 .iload 4 qo_21 (by decide +kernel)
theorem dX4_judge_55 : decode cX4_judge 55 = .ok (.ifCond .ge 8, 3) := qz_s2 (.ifCond .ge) 0 8 qo_156 (by decide +kernel) rfl
theorem dX4_judge_58 : decode cX4_judge 58 = .ok (.bipush 99, 2) := qz_s1 .bipush 99 qo_16 (by decide +kernel) rfl
theorem dX4_judge_60 : decode cX4_judge 60 = .ok (.goto 5, 3) := qz_s2 .goto 0 5 qo_167 (by decide +kernel) rfl
theorem dX4_judge_63 : decode cX4_judge 63 = .ok (.iload 4, 2) := qz_1 .iload 4 qo_21 (by decide +kernel)
theorem dX4_judge_65 : decode cX4_judge 65 = .ok (.if_icmp .eq 5, 3) := qz_s2 (.if_icmp .eq) 0 5 qo_159 (by decide +kernel) rfl
theorem dX4_judge_68 : decode cX4_judge 68 = .ok (.iload_n 3, 1) := qd_p qo_29 (by decide +kernel)
theorem dX4_judge_69 : decode cX4_judge 69 = .ok (.ireturn, 1) := qd_p qo_172 (by decide +kernel)
theorem dX4_judge_70 : decode cX4_judge 70 = .ok (.iinc 3 1, 3) := qd_i (x := 3) (y := 1) qo_132 (by decide +kernel) rfl
theorem dX4_judge_73 : decode cX4_judge 73 = .ok (.goto (-39), 3) := qz_s2 .goto 255 217 qo_167 (by decide +kernel) rfl
theorem dX4_judge_76 : decode cX4_judge 76 = .ok (.bipush (-9), 2) := qz_s1 .bipush 247 qo_16 (by decide +kernel) rfl
theorem dX4_judge_78 : decode cX4_judge 78 = .ok (.ireturn, 1) := qd_p qo_172 (by decide +kernel)
theorem dX4_clear_0 : decode cX4_clear 0 = .ok (.aload_n 0, 1) := qd_p qo_42 (by decide +kernel)
theorem dX4_clear_1 : decode cX4_clear 1 = .ok (.iconst 0, 1) := qd_p qo_3 (by decide +kernel)
theorem dX4_clear_2 : decode cX4_clear 2 = .ok (.putfield 70, 3) := qz_2 .putfield 0 70 qo_181 (by decide +kernel) rfl
theorem dX4_clear_5 : decode cX4_clear 5 = .ok (.aload_n 0, 1) := qd_p qo_42 (by decide +kernel)
theorem dX4_clear_6 : decode cX4_clear 6 = .ok (.getfield 279, 3) := qz_2 .getfield 1 23 qo_180 (by decide +kernel) rfl
theorem dX4_clear_9 : decode cX4_clear 9 = .ok (.istore_n 1, 1) := qd_p qo_60 (by decide +kernel)
theorem dX4_clear_10 : decode cX4_clear 10 = .ok (.aload_n 0, 1) := qd_p qo_42 (by decide +kernel)
theorem dX4_clear_11 : decode cX4_clear 11 = .ok (.iconst 0, 1) := qd_p qo_3 (by decide +kernel)
theorem dX4_clear_12 : decode cX4_clear 12 = .ok (.putfield 279, 3) := qz_2 .putfield 1 23 qo_181 (by decide +kernel) rfl
theorem dX4_clear_15 : decode cX4_clear 15 = .ok (.iload_n 1, 1) := qd_p qo_27 (by decide +kernel)
theorem dX4_clear_16 : decode cX4_clear 16 = .ok (.ireturn, 1) := qd_p qo_172 (by decide +kernel)
theorem dX4_drawBelow_0 : decode cX4_drawBelow 0 = .ok (.aload_n 0, 1) := qd_p qo_42 (by decide +kernel)
theorem dX4_drawBelow_1 : decode cX4_drawBelow 1 = .ok (.aload_n 0, 1) := qd_p qo_42 (by decide +kernel)
theorem dX4_drawBelow_2 : decode cX4_drawBelow 2 = .ok (.getfield 297, 3) := qz_2 .getfield 1 41 qo_180 (by decide +kernel) rfl
theorem dX4_drawBelow_5 : decode cX4_drawBelow 5 = .ok (.ldc_w 300, 3) := qz_2 .ldc_w 1 44 qo_19 (by decide +kernel) rfl
theorem dX4_drawBelow_8 : decode cX4_drawBelow 8 = .ok (.imul, 1) := qd_p qo_104 (by decide +kernel)
theorem dX4_drawBelow_9 : decode cX4_drawBelow 9 = .ok (.sipush 12345, 3) := qz_s2 .sipush 48 57 qo_17 (by decide +kernel) rfl
theorem dX4_drawBelow_12 : decode cX4_drawBelow 12 = .ok (.iadd, 1) := qd_p qo_96 (by decide +kernel)
theorem dX4_drawBelow_13 : decode cX4_drawBelow 13 = .ok (.putfield 297, 3) := qz_2 .putfield 1 41 qo_181 (by decide +kernel) rfl
theorem dX4_drawBelow_16 : decode cX4_drawBelow 16 = .ok (.aload_n 0, 1) := qd_p qo_42 (by decide +kernel)
theorem dX4_drawBelow_17 : decode cX4_drawBelow 17 = .ok (.getfield 297, 3) := qz_2 .getfield 1 41 qo_180 (by decide +kernel) rfl
theorem dX4_drawBelow_20 : decode cX4_drawBelow 20 = .ok (.ldc_w 301, 3) := qz_2 .ldc_w 1 45 qo_19 (by decide +kernel) rfl
theorem dX4_drawBelow_23 : decode cX4_drawBelow 23 = .ok (.iand, 1) := qd_p qo_126 (by decide +kernel)
theorem dX4_drawBelow_24 : decode cX4_drawBelow 24 = .ok (.ldc_w 302, 3) := qz_2 .ldc_w 1 46 qo_19 (by decide +kernel) rfl
theorem dX4_drawBelow_27 : decode cX4_drawBelow 27 = .ok (.idiv, 1) := qd_p qo_108 (by decide +kernel)
theorem dX4_drawBelow_28 : decode cX4_drawBelow 28 = .ok (.iload_n 1, 1) := qd_p qo_27 (by decide +kernel)
theorem dX4_drawBelow_29 : decode cX4_drawBelow 29 = .ok (.irem, 1) := qd_p qo_112 (by decide +kernel)
theorem dX4_drawBelow_30 : decode cX4_drawBelow 30 = .ok (.ireturn, 1) := qd_p qo_172 (by decide +kernel)
theorem dX4_lots_0 : decode cX4_lots 0 = .ok (.aload_n 0, 1) := qd_p qo_42 (by decide +kernel)
theorem dX4_lots_1 : decode cX4_lots 1 = .ok (.iconst 0, 1) := qd_p qo_3 (by decide +kernel)
theorem dX4_lots_2 : decode cX4_lots 2 = .ok (.putfield 70, 3) := qz_2 .putfield 0 70 qo_181 (by decide +kernel) rfl
theorem dX4_lots_5 : decode cX4_lots 5 = .ok (.iload_n 1, 1) := qd_p qo_27 (by decide +kernel)
theorem dX4_lots_6 : decode cX4_lots 6 = .ok (.iconst 1, 1) := qd_p qo_4 (by decide +kernel)
theorem dX4_lots_7 : decode cX4_lots 7 = .ok (.bipush 20, 2) := qz_s1 .bipush 20 qo_16 (by decide +kernel) rfl
theorem dX4_lots_9 : decode cX4_lots 9 = .ok (.invokestatic 231, 3) := qz_2 .invokestatic 0 231 qo_184 (by decide +kernel) rfl
theorem dX4_lots_12 : decode cX4_lots 12 = .ok (.iload_n 3, 1) := qd_p qo_29 (by decide +kernel)
theorem dX4_lots_13 : decode cX4_lots 13 = .ok (.iconst 1, 1) := qd_p qo_4 (by decide +kernel)
theorem dX4_lots_14 : decode cX4_lots 14 = .ok (.invokestatic 251, 3) := qz_2 .invokestatic 0 251 qo_184 (by decide +kernel) rfl
theorem dX4_lots_17 : decode cX4_lots 17 = .ok (.istore 4, 2) := qz_1 .istore 4 qo_54 (by decide +kernel)
theorem dX4_lots_19 : decode cX4_lots 19 = .ok (.iload 4, 2) := qz_1 .iload 4 qo_21 (by decide +kernel)
theorem dX4_lots_21 : decode cX4_lots 21 = .ok (.ifCond .ge 10, 3) := qz_s2 (.ifCond .ge) 0 10 qo_156 (by decide +kernel) rfl
theorem dX4_lots_24 : decode cX4_lots 24 = .ok (.aload_n 0, 1) := qd_p qo_42 (by decide +kernel)
theorem dX4_lots_25 : decode cX4_lots 25 = .ok (.iload 4, 2) := qz_1 .iload 4 qo_21 (by decide +kernel)
theorem dX4_lots_27 : decode cX4_lots 27 = .ok (.invokevirtual 143, 3) := qz_2 .invokevirtual 0 143 qo_182 (by decide +kernel) rfl
theorem dX4_lots_30 : decode cX4_lots 30 = .ok (.ireturn, 1) := qd_p qo_172 (by decide +kernel)
theorem dX4_lots_31 : decode cX4_lots 31 = .ok (.aload_n 0, 1) := qd_p qo_42 (by decide +kernel)
theorem dX4_lots_32 : decode cX4_lots 32 = .ok (.iload_n 2, 1) := qd_p qo_28 (by decide +kernel)
theorem dX4_lots_33 : decode cX4_lots 33 = .ok (.putfield 297, 3) := qz_2 .putfield 1 41 qo_181 (by decide +kernel) rfl
theorem dX4_lots_36 : decode cX4_lots 36 = .ok (.iconst 0, 1) := qd_p qo_3 (by decide +kernel)
theorem dX4_lots_37 : decode cX4_lots 37 = .ok (.istore 5, 2) := qz_1 .istore 5 qo_54 (by decide +kernel)
theorem dX4_lots_39 : decode cX4_lots 39 = .ok (.aload_n 0, 1) := qd_p qo_42 (by decide +kernel)
theorem dX4_lots_40 : decode cX4_lots 40 = .ok (.invokevirtual 195, 3) := qz_2 .invokevirtual 0 195 qo_182 (by decide +kernel) rfl
theorem dX4_lots_43 : decode cX4_lots 43 = .ok (.iconst 0, 1) := qd_p qo_3 (by decide +kernel)
theorem dX4_lots_44 : decode cX4_lots 44 = .ok (.istore 6, 2) := qz_1 .istore 6 qo_54 (by decide +kernel)
theorem dX4_lots_46 : decode cX4_lots 46 = .ok (.iload 6, 2) := qz_1 .iload 6 qo_21 (by decide +kernel)
theorem dX4_lots_48 : decode cX4_lots 48 = .ok (.iload_n 1, 1) := qd_p qo_27 (by decide +kernel)
theorem dX4_lots_49 : decode cX4_lots 49 = .ok (.if_icmp .ge 155, 3) := qz_s2 (.if_icmp .ge) 0 155 qo_162 (by decide +kernel) rfl
theorem dX4_lots_52 : decode cX4_lots 52 = .ok (.aload_n 0, 1) := qd_p qo_42 (by decide +kernel)
theorem dX4_lots_53 : decode cX4_lots 53 = .ok (.getfield 81, 3) := qz_2 .getfield 0 81 qo_180 (by decide +kernel) rfl
theorem dX4_lots_56 : decode cX4_lots 56 = .ok (.ifCond .le 148, 3) := qz_s2 (.ifCond .le) 0 148 qo_158 (by decide +kernel) rfl
theorem dX4_lots_59 : decode cX4_lots 59 = .ok (.iconst 0, 1) := qd_p qo_3 (by decide +kernel)
theorem dX4_lots_60 : decode cX4_lots 60 = .ok (.istore 7, 2) := qz_1 .istore 7 qo_54 (by decide +kernel)
theorem dX4_lots_62 : decode cX4_lots 62 = .ok (.iload 7, 2) := qz_1 .iload 7 qo_21 (by decide +kernel)
theorem dX4_lots_64 : decode cX4_lots 64 = .ok (.aload_n 0, 1) := qd_p qo_42 (by decide +kernel)
theorem dX4_lots_65 : decode cX4_lots 65 = .ok (.getfield 74, 3) := qz_2 .getfield 0 74 qo_180 (by decide +kernel) rfl
theorem dX4_lots_68 : decode cX4_lots 68 = .ok (.if_icmp .ge 75, 3) := qz_s2 (.if_icmp .ge) 0 75 qo_162 (by decide +kernel) rfl
theorem dX4_lots_71 : decode cX4_lots 71 = .ok (.aload_n 0, 1) := qd_p qo_42 (by decide +kernel)
theorem dX4_lots_72 : decode cX4_lots 72 = .ok (.iload 7, 2) := qz_1 .iload 7 qo_21 (by decide +kernel)
theorem dX4_lots_74 : decode cX4_lots 74 = .ok (.iconst 0, 1) := qd_p qo_3 (by decide +kernel)
theorem dX4_lots_75 : decode cX4_lots 75 = .ok (.bipush 23, 2) := qz_s1 .bipush 23 qo_16 (by decide +kernel) rfl
theorem dX4_lots_77 : decode cX4_lots 77 = .ok (.bipush 9, 2) := qz_s1 .bipush 9 qo_16 (by decide +kernel) rfl
theorem dX4_lots_79 : decode cX4_lots 79 = .ok (.invokevirtual 182, 3) := qz_2 .invokevirtual 0 182 qo_182 (by decide +kernel) rfl
theorem dX4_lots_82 : decode cX4_lots 82 = .ok (.iconst 0, 1) := qd_p qo_3 (by decide +kernel)
theorem dX4_lots_83 : decode cX4_lots 83 = .ok (.istore 8, 2) := qz_1 .istore 8 qo_54 (by decide +kernel)
theorem dX4_lots_85 : decode cX4_lots 85 = .ok (.iload 8, 2) := qz_1 .iload 8 qo_21 (by decide +kernel)
theorem dX4_lots_87 : decode cX4_lots 87 = .ok (.iconst 4, 1) := qd_p qo_7 (by decide +kernel)
theorem dX4_lots_88 : decode cX4_lots 88 = .ok (.if_icmp .ge 49, 3) := qz_s2 (.if_icmp .ge) 0 49 qo_162 (by decide +kernel) rfl
theorem dX4_lots_91 : decode cX4_lots 91 = .ok (.aload_n 0, 1) := qd_p qo_42 (by decide +kernel)
theorem dX4_lots_92 : decode cX4_lots 92 = .ok (.bipush 24, 2) := qz_s1 .bipush 24 qo_16 (by decide +kernel) rfl
theorem dX4_lots_94 : decode cX4_lots 94 = .ok (.invokevirtual 303, 3) := qz_2 .invokevirtual 1 47 qo_182 (by decide +kernel) rfl
theorem dX4_lots_97 : decode cX4_lots 97 = .ok (.istore 9, 2) := qz_1 .istore 9 qo_54 (by decide +kernel)
theorem dX4_lots_99 : decode cX4_lots 99 = .ok (.aload_n 0, 1) := qd_p qo_42 (by decide +kernel)
theorem dX4_lots_100 : decode cX4_lots 100 = .ok (.iload 7, 2) := qz_1 .iload 7 qo_21 (by decide +kernel)
theorem dX4_lots_102 : decode cX4_lots 102 = .ok (.iload 9, 2) := qz_1 .iload 9 qo_21 (by decide +kernel)
theorem dX4_lots_104 : decode cX4_lots 104 = .ok (.iload 9, 2) := qz_1 .iload 9 qo_21 (by decide +kernel)
theorem dX4_lots_106 : decode cX4_lots 106 = .ok (.bipush 20, 2) := qz_s1 .bipush 20 qo_16 (by decide +kernel) rfl
theorem dX4_lots_108 : decode cX4_lots 108 = .ok (.if_icmp .le 8, 3) := qz_s2 (.if_icmp .le) 0 8 qo_164 (by decide +kernel) rfl
theorem dX4_lots_111 : decode cX4_lots 111 = .ok (.bipush 23, 2) := qz_s1 .bipush 23 qo_16 (by decide +kernel) rfl
theorem dX4_lots_113 : decode cX4_lots 113 = .ok (.goto 7, 3) := qz_s2 .goto 0 7 qo_167 (by decide +kernel) rfl
theorem dX4_lots_116 : decode cX4_lots 116 = .ok (.iload 9, 2) := qz_1 .iload 9 qo_21 (by decide +kernel)
theorem dX4_lots_118 : decode cX4_lots 118 = .ok (.iconst 3, 1) := qd_p qo_6 (by decide +kernel)
theorem dX4_lots_119 : decode cX4_lots 119 = .ok (.iadd, 1) := qd_p qo_96 (by decide +kernel)
theorem dX4_lots_120 : decode cX4_lots 120 = .ok (.aload_n 0, 1) := qd_p qo_42 (by decide +kernel)
theorem dX4_lots_121 : decode cX4_lots 121 = .ok (.aload_n 0, 1) := qd_p qo_42 (by decide +kernel)
theorem dX4_lots_122 : decode cX4_lots 122 = .ok (.getfield 81, 3) := qz_2 .getfield 0 81 qo_180 (by decide +kernel) rfl
theorem dX4_lots_125 : decode cX4_lots 125 = .ok (.invokevirtual 303, 3) := qz_2 .invokevirtual 1 47 qo_182 (by decide +kernel) rfl
theorem dX4_lots_128 : decode cX4_lots 128 = .ok (.invokevirtual 182, 3) := qz_2 .invokevirtual 0 182 qo_182 (by decide +kernel) rfl
theorem dX4_lots_131 : decode cX4_lots 131 = .ok (.iinc 8 1, 3) := qd_i (x := 8) (y := 1) qo_132 (by decide +kernel) rfl
theorem dX4_lots_134 : decode cX4_lots 134 = .ok (.goto (-49), 3) := qz_s2 .goto 255 207 qo_167 (by decide +kernel) rfl
theorem dX4_lots_137 : decode cX4_lots 137 = .ok (.iinc 7 1, 3) := qd_i (x := 7) (y := 1) qo_132 (by decide +kernel) rfl
theorem dX4_lots_140 : decode cX4_lots 140 = .ok (.goto (-78), 3) := qz_s2 .goto 255 178 qo_167 (by decide +kernel) rfl
theorem dX4_lots_143 : decode cX4_lots 143 = .ok (.aload_n 0, 1) := qd_p qo_42 (by decide +kernel)
theorem dX4_lots_144 : decode cX4_lots 144 = .ok (.invokevirtual 134, 3) := qz_2 .invokevirtual 0 134 qo_182 (by decide +kernel) rfl
theorem dX4_lots_147 : decode cX4_lots 147 = .ok (.aload_n 0, 1) := qd_p qo_42 (by decide +kernel)
theorem dX4_lots_148 : decode cX4_lots 148 = .ok (.bipush 99, 2) := qz_s1 .bipush 99 qo_16 (by decide +kernel) rfl
theorem dX4_lots_150 : decode cX4_lots 150 = .ok (.invokevirtual 254, 3) := qz_2 .invokevirtual 0 254 qo_182 (by decide +kernel) rfl
theorem dX4_lots_153 : decode cX4_lots 153 = .ok (.istore 7, 2) := qz_1 .istore 7 qo_54 (by decide +kernel)
theorem dX4_lots_155 : decode cX4_lots 155 = .ok (.iload 5, 2) := qz_1 .iload 5 qo_21 (by decide +kernel)
theorem dX4_lots_157 : decode cX4_lots 157 = .ok (.iload_n 3, 1) := qd_p qo_29 (by decide +kernel)
theorem dX4_lots_158 : decode cX4_lots 158 = .ok (.ifCond .ne 20, 3) := qz_s2 (.ifCond .ne) 0 20 qo_154 (by decide +kernel) rfl
theorem dX4_lots_161 : decode cX4_lots 161 = .ok (.bipush 8, 2) := qz_s1 .bipush 8 qo_16 (by decide +kernel) rfl
theorem dX4_lots_163 : decode cX4_lots 163 = .ok (.aload_n 0, 1) := qd_p qo_42 (by decide +kernel)
theorem dX4_lots_164 : decode cX4_lots 164 = .ok (.bipush (-9), 2) := qz_s1 .bipush 247 qo_16 (by decide +kernel) rfl
theorem dX4_lots_166 : decode cX4_lots 166 = .ok (.bipush 99, 2) := qz_s1 .bipush 99 qo_16 (by decide +kernel) rfl
theorem dX4_lots_168 : decode cX4_lots 168 = .ok (.invokevirtual 128, 3) := qz_2 .invokevirtual 0 128 qo_182 (by decide +kernel) rfl
theorem dX4_lots_171 : decode cX4_lots 171 = .ok (.invokestatic 263, 3) := qz_2 .invokestatic 1 7 qo_184 (by decide +kernel) rfl
theorem dX4_lots_174 : decode cX4_lots 174 = .ok (.isub, 1) := qd_p qo_100 (by decide +kernel)
theorem dX4_lots_175 : decode cX4_lots 175 = .ok (.goto 20, 3) := qz_s2 .goto 0 20 qo_167 (by decide +kernel) rfl
theorem dX4_lots_178 : decode cX4_lots 178 = .ok (.iload 7, 2) := qz_1 .iload 7 qo_21 (by decide +kernel)
theorem dX4_lots_180 : decode cX4_lots 180 = .ok (.ifCond .ge 7, 3) := qz_s2 (.ifCond .ge) 0 7 qo_156 (by decide +kernel) rfl
theorem dX4_lots_183 : decode cX4_lots 183 = .ok (.iconst 0, 1) := qd_p qo_3 (by decide +kernel)
theorem dX4_lots_184 : decode cX4_lots 184 = .ok (.goto 11, 3) := qz_s2 .goto 0 11 qo_167 (by decide +kernel) rfl
theorem dX4_lots_187 : decode cX4_lots 187 = .ok (.aload_n 0, 1) := qd_p qo_42 (by decide +kernel)
theorem dX4_lots_188 : decode cX4_lots 188 = .ok (.iload 7, 2) := qz_1 .iload 7 qo_21 (by decide +kernel)
theorem dX4_lots_190 : decode cX4_lots 190 = .ok (.bipush 99, 2) := qz_s1 .bipush 99 qo_16 (by decide +kernel) rfl
theorem dX4_lots_192 : decode cX4_lots 192 = .ok (.invokevirtual 137, 3) := qz_2 .invokevirtual 0 137 qo_182 (by decide +kernel) rfl
theorem dX4_lots_195 : decode cX4_lots 195 = .ok (.iadd, 1) := qd_p qo_96 (by decide +kernel)
theorem dX4_lots_196 : decode cX4_lots 196 = .ok (.istore 5, 2) := qz_1 .istore 5 qo_54 (by decide +kernel)
theorem dX4_lots_198 : decode cX4_lots 198 = .ok (.iinc 6 1, 3) := qd_i (x := 6) (y := 1) qo_132 (by decide +kernel) rfl
theorem dX4_lots_201 : decode cX4_lots 201 = .ok (.goto (-155), 3) := qz_s2 .goto 255 101 qo_167 (by decide +kernel) rfl
theorem dX4_lots_204 : decode cX4_lots 204 = .ok (.aload_n 0, 1) := qd_p qo_42 (by decide +kernel)
theorem dX4_lots_205 : decode cX4_lots 205 = .ok (.invokevirtual 201, 3) := qz_2 .invokevirtual 0 201 qo_182 (by decide +kernel) rfl
theorem dX4_lots_208 : decode cX4_lots 208 = .ok (.iload 5, 2) := qz_1 .iload 5 qo_21 (by decide +kernel)
theorem dX4_lots_210 : decode cX4_lots 210 = .ok (.ireturn, 1) := qd_p qo_172 (by decide +kernel)
theorem dX4_count_0 : decode cX4_count 0 = .ok (.aload_n 0, 1) := qd_p qo_42 (by decide +kernel)
theorem dX4_count_1 : decode cX4_count 1 = .ok (.iconst 0, 1) := qd_p qo_3 (by decide +kernel)
theorem dX4_count_2 : decode cX4_count 2 = .ok (.putfield 70, 3) := qz_2 .putfield 0 70 qo_181 (by decide +kernel) rfl
theorem dX4_count_5 : decode cX4_count 5 = .ok (.iconst 0, 1) := qd_p qo_3 (by decide +kernel)
theorem dX4_count_6 : decode cX4_count 6 = .ok (.istore_n 2, 1) := qd_p qo_61 (by decide +kernel)
theorem dX4_count_7 : decode cX4_count 7 = .ok (.iload_n 1, 1) := qd_p qo_27 (by decide +kernel)
theorem dX4_count_8 : decode cX4_count 8 = .ok (.tableswitch 130 0 9 #[56, 61, 66, 71, 76, 81, 89, 115, 120, 125], 56) := by decide +kernel
theorem dX4_count_64 : decode cX4_count 64 = .ok (.aload_n 0, 1) := qd_p qo_42 (by decide +kernel)
theorem dX4_count_65 : decode cX4_count 65 = .ok (.getfield 81, 3) := qz_2 .getfield 0 81 qo_180 (by decide +kernel) rfl
theorem dX4_count_68 : decode cX4_count 68 = .ok (.ireturn, 1) := qd_p qo_172 (by decide +kernel)
theorem dX4_count_69 : decode cX4_count 69 = .ok (.aload_n 0, 1) := qd_p qo_42 (by decide +kernel)
theorem dX4_count_70 : decode cX4_count 70 = .ok (.getfield 74, 3) := qz_2 .getfield 0 74 qo_180 (by decide +kernel) rfl
theorem dX4_count_73 : decode cX4_count 73 = .ok (.ireturn, 1) := qd_p qo_172 (by decide +kernel)
theorem dX4_count_74 : decode cX4_count 74 = .ok (.aload_n 0, 1) := qd_p qo_42 (by decide +kernel)
theorem dX4_count_75 : decode cX4_count 75 = .ok (.getfield 140, 3) := qz_2 .getfield 0 140 qo_180 (by decide +kernel) rfl
theorem dX4_count_78 : decode cX4_count 78 = .ok (.ireturn, 1) := qd_p qo_172 (by decide +kernel)
theorem dX4_count_79 : decode cX4_count 79 = .ok (.aload_n 0, 1) := qd_p qo_42 (by decide +kernel)
theorem dX4_count_80 : decode cX4_count 80 = .ok (.getfield 115, 3) := qz_2 .getfield 0 115 qo_180 (by decide +kernel) rfl
theorem dX4_count_83 : decode cX4_count 83 = .ok (.ireturn, 1) := qd_p qo_172 (by decide +kernel)
theorem dX4_count_84 : decode cX4_count 84 = .ok (.aload_n 0, 1) := qd_p qo_42 (by decide +kernel)
theorem dX4_count_85 : decode cX4_count 85 = .ok (.invokevirtual 248, 3) := qz_2 .invokevirtual 0 248 qo_182 (by decide +kernel) rfl
theorem dX4_count_88 : decode cX4_count 88 = .ok (.ireturn, 1) := qd_p qo_172 (by decide +kernel)
theorem dX4_count_89 : decode cX4_count 89 = .ok (.aload_n 0, 1) := qd_p qo_42 (by decide +kernel)
theorem dX4_count_90 : decode cX4_count 90 = .ok (.invokevirtual 96, 3) := qz_2 .invokevirtual 0 96 qo_182 (by decide +kernel) rfl
theorem dX4_count_93 : decode cX4_count 93 = .ok (.invokestatic 263, 3) := qz_2 .invokestatic 1 7 qo_184 (by decide +kernel) rfl
theorem dX4_count_96 : decode cX4_count 96 = .ok (.ireturn, 1) := qd_p qo_172 (by decide +kernel)
theorem dX4_count_97 : decode cX4_count 97 = .ok (.iconst 0, 1) := qd_p qo_3 (by decide +kernel)
theorem dX4_count_98 : decode cX4_count 98 = .ok (.istore_n 3, 1) := qd_p qo_62 (by decide +kernel)
theorem dX4_count_99 : decode cX4_count 99 = .ok (.iload_n 3, 1) := qd_p qo_29 (by decide +kernel)
theorem dX4_count_100 : decode cX4_count 100 = .ok (.aload_n 0, 1) := qd_p qo_42 (by decide +kernel)
theorem dX4_count_101 : decode cX4_count 101 = .ok (.getfield 74, 3) := qz_2 .getfield 0 74 qo_180 (by decide +kernel) rfl
theorem dX4_count_104 : decode cX4_count 104 = .ok (.if_icmp .ge 17, 3) := qz_s2 (.if_icmp .ge) 0 17 qo_162 (by decide +kernel) rfl
theorem dX4_count_107 : decode cX4_count 107 = .ok (.iload_n 2, 1) := qd_p qo_28 (by decide +kernel)
theorem dX4_count_108 : decode cX4_count 108 = .ok (.aload_n 0, 1) := qd_p qo_42 (by decide +kernel)
theorem dX4_count_109 : decode cX4_count 109 = .ok (.iload_n 3, 1) := qd_p qo_29 (by decide +kernel)
theorem dX4_count_110 : decode cX4_count 110 = .ok (.invokevirtual 228, 3) := qz_2 .invokevirtual 0 228 qo_182 (by decide +kernel) rfl
theorem dX4_count_113 : decode cX4_count 113 = .ok (.iadd, 1) := qd_p qo_96 (by decide +kernel)
theorem dX4_count_114 : decode cX4_count 114 = .ok (.istore_n 2, 1) := qd_p qo_61 (by decide +kernel)
theorem dX4_count_115 : decode cX4_count 115 = .ok (.iinc 3 1, 3) := qd_i (x := 3) (y := 1) qo_132 (by decide +kernel) rfl
theorem dX4_count_118 : decode cX4_count 118 = .ok (.goto (-19), 3) := qz_s2 .goto 255 237 qo_167 (by decide +kernel) rfl
theorem dX4_count_121 : decode cX4_count 121 = .ok (.iload_n 2, 1) := qd_p qo_28 (by decide +kernel)
theorem dX4_count_122 : decode cX4_count 122 = .ok (.ireturn, 1) := qd_p qo_172 (by decide +kernel)
theorem dX4_count_123 : decode cX4_count 123 = .ok (.aload_n 0, 1) := qd_p qo_42 (by decide +kernel)
theorem dX4_count_124 : decode cX4_count 124 = .ok (.getfield 146, 3) := qz_2 .getfield 0 146 qo_180 (by decide +kernel) rfl
theorem dX4_count_127 : decode cX4_count 127 = .ok (.ireturn, 1) := qd_p qo_172 (by decide +kernel)
theorem dX4_count_128 : decode cX4_count 128 = .ok (.aload_n 0, 1) := qd_p qo_42 (by decide +kernel)
theorem dX4_count_129 : decode cX4_count 129 = .ok (.getfield 279, 3) := qz_2 .getfield 1 23 qo_180 (by decide +kernel) rfl
theorem dX4_count_132 : decode cX4_count 132 = .ok (.ireturn, 1) := qd_p qo_172 (by decide +kernel)
theorem dX4_count_133 : decode cX4_count 133 = .ok (.aload_n 0, 1) := qd_p qo_42 (by decide +kernel)
theorem dX4_count_134 : decode cX4_count 134 = .ok (.getfield 204, 3) := qz_2 .getfield 0 204 qo_180 (by decide +kernel) rfl
theorem dX4_count_137 : decode cX4_count 137 = .ok (.ireturn, 1) := qd_p qo_172 (by decide +kernel)
theorem dX4_count_138 : decode cX4_count 138 = .ok (.iload_n 1, 1) := qd_p qo_27 (by decide +kernel)
theorem dX4_count_139 : decode cX4_count 139 = .ok (.i2l, 1) := qd_p qo_133 (by decide +kernel)
theorem dX4_count_140 : decode cX4_count 140 = .ok (.ldc2_w 306, 3) := qz_2 .ldc2_w 1 50 qo_20 (by decide +kernel) rfl
theorem dX4_count_143 : decode cX4_count 143 = .ok (.ldc2_w 308, 3) := qz_2 .ldc2_w 1 52 qo_20 (by decide +kernel) rfl
theorem dX4_count_146 : decode cX4_count 146 = .ok (.invokestatic 77, 3) := qz_2 .invokestatic 0 77 qo_184 (by decide +kernel) rfl
theorem dX4_count_149 : decode cX4_count 149 = .ok (.ifCond .eq 15, 3) := qz_s2 (.ifCond .eq) 0 15 qo_153 (by decide +kernel) rfl
theorem dX4_count_152 : decode cX4_count 152 = .ok (.aload_n 0, 1) := qd_p qo_42 (by decide +kernel)
theorem dX4_count_153 : decode cX4_count 153 = .ok (.getfield 28, 3) := qz_2 .getfield 0 28 qo_180 (by decide +kernel) rfl
theorem dX4_count_156 : decode cX4_count 156 = .ok (.iload_n 1, 1) := qd_p qo_27 (by decide +kernel)
theorem dX4_count_157 : decode cX4_count 157 = .ok (.bipush 10, 2) := qz_s1 .bipush 10 qo_16 (by decide +kernel) rfl
theorem dX4_count_159 : decode cX4_count 159 = .ok (.isub, 1) := qd_p qo_100 (by decide +kernel)
theorem dX4_count_160 : decode cX4_count 160 = .ok (.iaload, 1) := qd_p qo_46 (by decide +kernel)
theorem dX4_count_161 : decode cX4_count 161 = .ok (.goto 5, 3) := qz_s2 .goto 0 5 qo_167 (by decide +kernel) rfl
theorem dX4_count_164 : decode cX4_count 164 = .ok (.bipush (-9), 2) := qz_s1 .bipush 247 qo_16 (by decide +kernel) rfl
theorem dX4_count_166 : decode cX4_count 166 = .ok (.ireturn, 1) := qd_p qo_172 (by decide +kernel)
section
variable {p : Program} {l : Launch} {e : Env} {s : State} {m : MethodId} {args : Array Value} {below : List Frame} {meth : Method} {c : Code} {D : va_G} {tI tII : ClassId} {B : Nat}
set_option maxHeartbeats 4000000 in
set_option maxRecDepth 100000 in
theorem w_X4_row_31 (C : wt_C p s m args meth c RX4 cX4_row 2 (some .int) D tI tII) {F : Nat} {σ : Mem} {r : Int32} {σ' : Mem} {H : Heap} {locs : List Loc} {ls : Array Slot} (hf : j_X4_row_31 F σ = some (r, σ')) (hM : wt_St D tI tII B σ s H locs) (hl : lv_has ls 2 [(0, .ref (B + 101))]) : W p l e rm_X4_row s m args below meth c H locs 0 0 (MQ below (wt_Qi D tI tII B r σ') args s 0 0 (fun q => B ≤ q)) (F0 m 31 ls []) := by
  obtain ⟨hx, hb, hts, hown, hml, hr, hlk, hK⟩ := id C
  replace hf := Eq.trans j_X4_row_31_e.symm hf
  refine lv_aload_n hx hb dX4_row_31 rfl (lv_at hl 0 rfl) ?_
  refine lv_bipush (v := -6) hx hb dX4_row_32 (by decide) ?_
  refine wt_callVi (As := [.int (-6 : Int32)]) (rest := []) hx hb hml hts hown hK hM wt_rc_X4 cw_X4_143 hd_X4_refuse rfl ⟨qz_b rfl, qz_b rfl⟩ ⟨rfl, rfl⟩ hl.1 rfl (qz_b rfl) dX4_row_34 hf (fun _ _ h9 => c_X4_refuse h9) (fun r1 s2 H locs hf hM => ?_)
  exact wt_iret hx hb hr hlk hK hM hf dX4_row_37
set_option maxHeartbeats 4000000 in
set_option maxRecDepth 100000 in
theorem w_X4_row_0 (C : wt_C p s m args meth c RX4 cX4_row 2 (some .int) D tI tII) {F : Nat} {x1 : Int32} {σ : Mem} {r : Int32} {σ' : Mem} {H : Heap} {locs : List Loc} {ls : Array Slot} (hf : f_X4_row F x1 σ = some (r, σ')) (hM : wt_St D tI tII B σ s H locs) (hl : lv_has ls 2 [(0, .ref (B + 101)), (1, .int x1)]) : W p l e rm_X4_row s m args below meth c H locs 0 0 (MQ below (wt_Qi D tI tII B r σ') args s 0 0 (fun q => B ≤ q)) (F0 m 0 ls []) := by
  obtain ⟨hx, hb, hts, hown, hml, hr, hlk, hK⟩ := id C
  replace hf := Eq.trans f_X4_row_e.symm hf
  refine lv_aload_n hx hb dX4_row_0 rfl (lv_at hl 0 rfl) ?_
  refine lv_iconst (v := 0) hx hb dX4_row_1 (by decide) ?_
  refine pf_X4_thrown  hx hb hts hown hK hM tw_720 dX4_row_2 hf (fun s3 H locs hf hM => ?_)
  refine lv_iload_n hx hb dX4_row_5 rfl (lv_at hl 1 rfl) ?_
  refine wq_if_ge (tgt := 16) hx hb dX4_row_6 (by decide) hf (fun hf => ?_) (fun hf => ?_)
  · refine lv_iload_n hx hb dX4_row_16 rfl (lv_at hl 1 rfl) ?_
    refine lv_bipush (v := 99) hx hb dX4_row_17 (by decide) ?_
    refine wq_icmp_gt (tgt := 31) hx hb dX4_row_19 (by decide) hf (fun hf => ?_) (fun hf => ?_)
    · exact w_X4_row_31 C hf hM (lv_sub hl [0] rfl)
    refine lv_aload_n hx hb dX4_row_22 rfl (lv_at hl 0 rfl) ?_
    refine gf_X4_rowMany  hx hb hts hown hK hM tw_744 dX4_row_23 ?_
    refine lv_bipush (v := 12) hx hb dX4_row_26 (by decide) ?_
    refine wq_icmp_ne (tgt := 38) hx hb dX4_row_28 (by decide) hf (fun hf => ?_) (fun hf => ?_)
    · refine lv_aload_n hx hb dX4_row_38 rfl (lv_at hl 0 rfl) ?_
      refine gf_X4_row  hx hb hts hown hK hM tw_743 dX4_row_39 ?_
      refine lv_aload_n hx hb dX4_row_42 rfl (lv_at hl 0 rfl) ?_
      refine gf_X4_rowMany  hx hb hts hown hK hM tw_744 dX4_row_43 ?_
      refine lv_iload_n hx hb dX4_row_46 rfl (lv_at hl 1 rfl) ?_
      obtain ⟨i4, hf⟩ := wt_chk_of hf
      refine wt_ist hx hb hK hM wt_a121 i4 dX4_row_47 hf (fun s5 H locs hf hM => ?_)
      refine lv_aload_n hx hb dX4_row_48 rfl (lv_at hl 0 rfl) ?_
      refine lv_dup hx hb dX4_row_49 rfl ?_
      refine gf_X4_rowMany  hx hb hts hown hK hM tw_744 dX4_row_50 ?_
      refine lv_iconst (v := 1) hx hb dX4_row_53 (by decide) ?_
      refine lv_iadd hx hb dX4_row_54 ?_
      refine pf_X4_rowMany  hx hb hts hown hK hM tw_744 dX4_row_55 hf (fun s6 H locs hf hM => ?_)
      refine lv_aload_n hx hb dX4_row_58 rfl (lv_at hl 0 rfl) ?_
      refine gf_X4_rowMany  hx hb hts hown hK hM tw_744 dX4_row_59 ?_
      exact wt_iret hx hb hr hlk hK hM hf dX4_row_62
    exact w_X4_row_31 C hf hM (lv_sub hl [0] rfl)
  refine lv_aload_n hx hb dX4_row_9 rfl (lv_at hl 0 rfl) ?_
  refine lv_bipush (v := -4) hx hb dX4_row_10 (by decide) ?_
  refine wt_callVi (As := [.int (-4 : Int32)]) (rest := []) hx hb hml hts hown hK hM wt_rc_X4 cw_X4_143 hd_X4_refuse rfl ⟨qz_b rfl, qz_b rfl⟩ ⟨rfl, rfl⟩ hl.1 rfl (qz_b rfl) dX4_row_12 hf (fun _ _ h9 => c_X4_refuse h9) (fun r7 s8 H locs hf hM => ?_)
  exact wt_iret hx hb hr hlk hK hM hf dX4_row_15
end
set_option maxHeartbeats 4000000 in
set_option maxRecDepth 100000 in
theorem c_X4_row {l : Launch} {D : va_G} {tI tII : ClassId} {B F : Nat} {x1 : Int32} {σ σ' : Mem} {r : Int32} (hf : f_X4_row F x1 σ = some (r, σ')) : wt_Mi l yX4_row cX4_row 2 (some .int) rm_X4_row [.ref (B + 101), .int x1] D tI tII B σ r σ' := by
  refine Met.ofW (cc := cX4_row) (maxL := 2) (ret := (some .int)) (by decide) rfl ?_
  intro p e s m args below meth c s₁ B9 hml hv
  obtain ⟨rfl, hP, hK⟩ := hv
  have hl := lv_entry ([.ref (B + 101), .int x1]) (n := 2) (qz_b rfl)
  rw [lg_entry_eq]
  generalize (lg_sl ([.ref (B + 101), .int x1]) ++ List.replicate (2 - (lg_sl ([.ref (B + 101), .int x1])).length) Slot.unset).toArray = ls at hl ⊢
  exact w_X4_row_0 (wt_C_of B9 hml hK) hf ⟨hP, va_S.rf⟩ hl
section
variable {p : Program} {l : Launch} {e : Env} {s : State} {m : MethodId} {args : Array Value} {below : List Frame} {meth : Method} {c : Code} {D : va_G} {tI tII : ClassId} {B : Nat}
set_option maxHeartbeats 4000000 in
set_option maxRecDepth 100000 in
theorem w_X4_judge_65 (C : wt_C p s m args meth c RX4 cX4_judge 5 (some .int) D tI tII) {F : Nat} {k34 : Int32 → Mem → Option (Int32 × Mem)} {x1 : Int32} {x2 : Int32} {x3 : Int32} {t0 : Int32} {t1 : Int32} {σ : Mem} {r : Int32} {σ' : Mem} {H : Heap} {locs : List Loc} {ls : Array Slot} (hk34 : ∀ (x3 : Int32) (σ : Mem) (H : Heap) (locs : List Loc) (ls : Array Slot), k34 x3 σ = some (r, σ') → wt_St D tI tII B σ s H locs → lv_has ls 5 [(0, .ref (B + 101)), (1, .int x1), (2, .int x2), (3, .int x3)] → W p l e rm_X4_judge s m args below meth c H locs 0 0 (MQ below (wt_Qi D tI tII B r σ') args s 0 0 (fun q => B ≤ q)) (F0 m 34 ls [])) (hf : j_X4_judge_65 F k34 x1 x2 x3 t0 t1 σ = some (r, σ')) (hM : wt_St D tI tII B σ s H locs) (hl : lv_has ls 5 [(0, .ref (B + 101)), (1, .int x1), (2, .int x2), (3, .int x3)]) : W p l e rm_X4_judge s m args below meth c H locs 0 0 (MQ below (wt_Qi D tI tII B r σ') args s 0 0 (fun q => B ≤ q)) (F0 m 65 ls [.int t1, .int t0]) := by
  obtain ⟨hx, hb, hts, hown, hml, hr, hlk, hK⟩ := id C
  replace hf := Eq.trans j_X4_judge_65_e.symm hf
  refine wq_icmp_eq (tgt := 70) hx hb dX4_judge_65 (by decide) hf (fun hf => ?_) (fun hf => ?_)
  · refine lv_iinc (v := (x3 + (1 : Int32))) (lv' := [(3, .int (x3 + (1 : Int32))), (0, .ref (B + 101)), (1, .int x1), (2, .int x2)]) hx hb dX4_judge_70 hl (k := 3) rfl rfl (by decide) rfl (fun ls hl => ?_)
    refine lv_goto (tgt := 34) hx hb dX4_judge_73 (by decide) ?_
    exact hk34 _ _ _ _ _ hf hM (lv_sub hl [1, 2, 3, 0] rfl)
  refine lv_iload_n hx hb dX4_judge_68 rfl (lv_at hl 3 rfl) ?_
  exact wt_iret hx hb hr hlk hK hM hf dX4_judge_69
set_option maxHeartbeats 4000000 in
set_option maxRecDepth 100000 in
theorem w_X4_judge_34 (C : wt_C p s m args meth c RX4 cX4_judge 5 (some .int) D tI tII) {F : Nat} {x1 : Int32} {x2 : Int32} {r : Int32} {σ' : Mem} : ∀ (N : Nat) (x3 : Int32) (σ : Mem) (H : Heap) (locs : List Loc) (ls : Array Slot), lp_X4_judge_34 F x1 x2 N x3 σ = some (r, σ') → wt_St D tI tII B σ s H locs → lv_has ls 5 [(0, .ref (B + 101)), (1, .int x1), (2, .int x2), (3, .int x3)] → W p l e rm_X4_judge s m args below meth c H locs 0 0 (MQ below (wt_Qi D tI tII B r σ') args s 0 0 (fun q => B ≤ q)) (F0 m 34 ls []) := by
  obtain ⟨hx, hb, hts, hown, hml, hr, hlk, hK⟩ := id C
  intro N
  induction N with
  | zero => intro x3 σ H locs ls hf; exact wt_none (show (none : Option (Int32 × Mem)) = some (r, σ') from hf)
  | succ N ih =>
    intro x3 σ H locs ls hf hM hl
    replace hf := Eq.trans lp_X4_judge_34_s.symm hf
    refine lv_iload_n hx hb dX4_judge_34 rfl (lv_at hl 3 rfl) ?_
    refine lv_iload_n hx hb dX4_judge_35 rfl (lv_at hl 2 rfl) ?_
    refine wq_icmp_ge (tgt := 76) hx hb dX4_judge_36 (by decide) hf (fun hf => ?_) (fun hf => ?_)
    · refine lv_bipush (v := -9) hx hb dX4_judge_76 (by decide) ?_
      exact wt_iret hx hb hr hlk hK hM hf dX4_judge_78
    refine lv_aload_n hx hb dX4_judge_39 rfl (lv_at hl 0 rfl) ?_
    refine lv_iload_n hx hb dX4_judge_40 rfl (lv_at hl 1 rfl) ?_
    refine lv_iload_n hx hb dX4_judge_41 rfl (lv_at hl 3 rfl) ?_
    refine wt_callVi (As := [.int x1, .int x3]) (rest := []) hx hb hml hts hown hK hM wt_rc_X4 cw_X4_125 hd_X4_ownerIn rfl ⟨qz_b rfl, qz_b rfl⟩ ⟨rfl, rfl⟩ hl.1 rfl (qz_b rfl) dX4_judge_42 hf (fun _ _ h9 => c_X4_ownerIn h9) (fun r1 s2 H locs hf hM => ?_)
    refine lv_istore (lv' := [(4, .int r1), (0, .ref (B + 101)), (1, .int x1), (2, .int x2), (3, .int x3)]) hx hb dX4_judge_45 hl (by decide) rfl (fun ls hl => ?_)
    refine lv_aload_n hx hb dX4_judge_47 rfl (lv_at hl 1 rfl) ?_
    refine gf_X4_row  hx hb hts hown hK hM tw_743 dX4_judge_48 ?_
    refine lv_iload_n hx hb dX4_judge_51 rfl (lv_at hl 4 rfl) ?_
    obtain ⟨i3, hf⟩ := wt_chk_of hf
    refine wt_ild hx hb hK hM wt_a121 i3 dX4_judge_52 ?_
    refine lv_iload hx hb dX4_judge_53 (lv_at hl 0 rfl) ?_
    refine wq_if_ge (tgt := 63) hx hb dX4_judge_55 (by decide) hf (fun hf => ?_) (fun hf => ?_)
    · refine lv_iload hx hb dX4_judge_63 (lv_at hl 0 rfl) ?_
      exact w_X4_judge_65 C ih hf hM (lv_sub hl [1, 2, 3, 4] rfl)
    refine lv_bipush (v := 99) hx hb dX4_judge_58 (by decide) ?_
    refine lv_goto (tgt := 65) hx hb dX4_judge_60 (by decide) ?_
    exact w_X4_judge_65 C ih hf hM (lv_sub hl [1, 2, 3, 4] rfl)
set_option maxHeartbeats 4000000 in
set_option maxRecDepth 100000 in
theorem w_X4_judge_0 (C : wt_C p s m args meth c RX4 cX4_judge 5 (some .int) D tI tII) {F : Nat} {x1 : Int32} {σ : Mem} {r : Int32} {σ' : Mem} {H : Heap} {locs : List Loc} {ls : Array Slot} (hf : f_X4_judge F x1 σ = some (r, σ')) (hM : wt_St D tI tII B σ s H locs) (hl : lv_has ls 5 [(0, .ref (B + 101)), (1, .int x1)]) : W p l e rm_X4_judge s m args below meth c H locs 0 0 (MQ below (wt_Qi D tI tII B r σ') args s 0 0 (fun q => B ≤ q)) (F0 m 0 ls []) := by
  obtain ⟨hx, hb, hts, hown, hml, hr, hlk, hK⟩ := id C
  replace hf := Eq.trans f_X4_judge_e.symm hf
  refine lv_aload_n hx hb dX4_judge_0 rfl (lv_at hl 0 rfl) ?_
  refine lv_iconst (v := 0) hx hb dX4_judge_1 (by decide) ?_
  refine pf_X4_thrown  hx hb hts hown hK hM tw_720 dX4_judge_2 hf (fun s4 H locs hf hM => ?_)
  refine lv_iload_n hx hb dX4_judge_5 rfl (lv_at hl 1 rfl) ?_
  refine wt_callSi (As := [.int x1]) (rest := []) hx hb hml hts hown hK hM cw_X4_243 hd_X4_isView rfl ⟨qz_b rfl, qz_b rfl⟩ ⟨rfl, rfl⟩ hl.1 rfl (qz_b rfl) dX4_judge_6 hf (fun _ _ h9 => c_X4_isView h9) (fun r5 s6 H locs hf hM => ?_)
  refine wq_if_ne (tgt := 18) hx hb dX4_judge_9 (by decide) hf (fun hf => ?_) (fun hf => ?_)
  · refine lv_aload_n hx hb dX4_judge_18 rfl (lv_at hl 0 rfl) ?_
    refine gf_X4_rowMany  hx hb hts hown hK hM tw_744 dX4_judge_19 ?_
    refine lv_istore_n (lv' := [(2, .int (s6 101 34)), (0, .ref (B + 101)), (1, .int x1)]) hx hb dX4_judge_22 rfl hl (by decide) rfl (fun ls hl => ?_)
    refine lv_aload_n hx hb dX4_judge_23 rfl (lv_at hl 1 rfl) ?_
    refine lv_iconst (v := 0) hx hb dX4_judge_24 (by decide) ?_
    refine pf_X4_rowMany  hx hb hts hown hK hM tw_744 dX4_judge_25 hf (fun s7 H locs hf hM => ?_)
    refine lv_aload_n hx hb dX4_judge_28 rfl (lv_at hl 1 rfl) ?_
    refine wt_callVv (As := []) (rest := []) hx hb hml hts hown hK hM wt_rc_X4 cw_X4_134 hd_X4_layBrings rfl ⟨qz_b rfl, qz_b rfl⟩ ⟨rfl, rfl⟩ hl.1 rfl (qz_b rfl) dX4_judge_29 hf (fun _ _ h9 => c_X4_layBrings h9) (fun r8 s9 H locs hf hM => ?_)
    refine lv_iconst (v := 0) hx hb dX4_judge_32 (by decide) ?_
    refine lv_istore_n (lv' := [(3, .int (0 : Int32)), (2, .int (s6 101 34)), (0, .ref (B + 101)), (1, .int x1)]) hx hb dX4_judge_33 rfl hl (by decide) rfl (fun ls hl => ?_)
    exact w_X4_judge_34 C _ _ _ _ _ _ hf hM (lv_sub hl [2, 3, 1, 0] rfl)
  refine lv_aload_n hx hb dX4_judge_12 rfl (lv_at hl 0 rfl) ?_
  refine lv_iconst (v := -1) hx hb dX4_judge_13 (by decide) ?_
  refine wt_callVi (As := [.int (-1 : Int32)]) (rest := []) hx hb hml hts hown hK hM wt_rc_X4 cw_X4_143 hd_X4_refuse rfl ⟨qz_b rfl, qz_b rfl⟩ ⟨rfl, rfl⟩ hl.1 rfl (qz_b rfl) dX4_judge_14 hf (fun _ _ h9 => c_X4_refuse h9) (fun r10 s11 H locs hf hM => ?_)
  exact wt_iret hx hb hr hlk hK hM hf dX4_judge_17
end
set_option maxHeartbeats 4000000 in
set_option maxRecDepth 100000 in
theorem c_X4_judge {l : Launch} {D : va_G} {tI tII : ClassId} {B F : Nat} {x1 : Int32} {σ σ' : Mem} {r : Int32} (hf : f_X4_judge F x1 σ = some (r, σ')) : wt_Mi l yX4_judge cX4_judge 5 (some .int) rm_X4_judge [.ref (B + 101), .int x1] D tI tII B σ r σ' := by
  refine Met.ofW (cc := cX4_judge) (maxL := 5) (ret := (some .int)) (by decide) rfl ?_
  intro p e s m args below meth c s₁ B9 hml hv
  obtain ⟨rfl, hP, hK⟩ := hv
  have hl := lv_entry ([.ref (B + 101), .int x1]) (n := 5) (qz_b rfl)
  rw [lg_entry_eq]
  generalize (lg_sl ([.ref (B + 101), .int x1]) ++ List.replicate (5 - (lg_sl ([.ref (B + 101), .int x1])).length) Slot.unset).toArray = ls at hl ⊢
  exact w_X4_judge_0 (wt_C_of B9 hml hK) hf ⟨hP, va_S.rf⟩ hl
section
variable {p : Program} {l : Launch} {e : Env} {s : State} {m : MethodId} {args : Array Value} {below : List Frame} {meth : Method} {c : Code} {D : va_G} {tI tII : ClassId} {B : Nat}
set_option maxHeartbeats 4000000 in
set_option maxRecDepth 100000 in
theorem w_X4_clear_0 (C : wt_C p s m args meth c RX4 cX4_clear 2 (some .int) D tI tII) {F : Nat} {σ : Mem} {r : Int32} {σ' : Mem} {H : Heap} {locs : List Loc} {ls : Array Slot} (hf : f_X4_clear F σ = some (r, σ')) (hM : wt_St D tI tII B σ s H locs) (hl : lv_has ls 2 [(0, .ref (B + 101))]) : W p l e rm_X4_clear s m args below meth c H locs 0 0 (MQ below (wt_Qi D tI tII B r σ') args s 0 0 (fun q => B ≤ q)) (F0 m 0 ls []) := by
  obtain ⟨hx, hb, hts, hown, hml, hr, hlk, hK⟩ := id C
  replace hf := Eq.trans f_X4_clear_e.symm hf
  refine lv_aload_n hx hb dX4_clear_0 rfl (lv_at hl 0 rfl) ?_
  refine lv_iconst (v := 0) hx hb dX4_clear_1 (by decide) ?_
  refine pf_X4_thrown  hx hb hts hown hK hM tw_720 dX4_clear_2 hf (fun s1 H locs hf hM => ?_)
  refine lv_aload_n hx hb dX4_clear_5 rfl (lv_at hl 0 rfl) ?_
  refine gf_X4_rowMany  hx hb hts hown hK hM tw_744 dX4_clear_6 ?_
  refine lv_istore_n (lv' := [(1, .int (s1 101 34)), (0, .ref (B + 101))]) hx hb dX4_clear_9 rfl hl (by decide) rfl (fun ls hl => ?_)
  refine lv_aload_n hx hb dX4_clear_10 rfl (lv_at hl 1 rfl) ?_
  refine lv_iconst (v := 0) hx hb dX4_clear_11 (by decide) ?_
  refine pf_X4_rowMany  hx hb hts hown hK hM tw_744 dX4_clear_12 hf (fun s2 H locs hf hM => ?_)
  refine lv_iload_n hx hb dX4_clear_15 rfl (lv_at hl 0 rfl) ?_
  exact wt_iret hx hb hr hlk hK hM hf dX4_clear_16
end
set_option maxHeartbeats 4000000 in
set_option maxRecDepth 100000 in
theorem c_X4_clear {l : Launch} {D : va_G} {tI tII : ClassId} {B F : Nat} {σ σ' : Mem} {r : Int32} (hf : f_X4_clear F σ = some (r, σ')) : wt_Mi l yX4_clear cX4_clear 2 (some .int) rm_X4_clear [.ref (B + 101)] D tI tII B σ r σ' := by
  refine Met.ofW (cc := cX4_clear) (maxL := 2) (ret := (some .int)) (by decide) rfl ?_
  intro p e s m args below meth c s₁ B9 hml hv
  obtain ⟨rfl, hP, hK⟩ := hv
  have hl := lv_entry ([.ref (B + 101)]) (n := 2) (qz_b rfl)
  rw [lg_entry_eq]
  generalize (lg_sl ([.ref (B + 101)]) ++ List.replicate (2 - (lg_sl ([.ref (B + 101)])).length) Slot.unset).toArray = ls at hl ⊢
  exact w_X4_clear_0 (wt_C_of B9 hml hK) hf ⟨hP, va_S.rf⟩ hl
section
variable {p : Program} {l : Launch} {e : Env} {s : State} {m : MethodId} {args : Array Value} {below : List Frame} {meth : Method} {c : Code} {D : va_G} {tI tII : ClassId} {B : Nat}
set_option maxHeartbeats 4000000 in
set_option maxRecDepth 100000 in
theorem w_X4_drawBelow_0 (C : wt_C p s m args meth c RX4 cX4_drawBelow 2 (some .int) D tI tII) {F : Nat} {x1 : Int32} {σ : Mem} {r : Int32} {σ' : Mem} {H : Heap} {locs : List Loc} {ls : Array Slot} (hf : f_X4_drawBelow F x1 σ = some (r, σ')) (hM : wt_St D tI tII B σ s H locs) (hl : lv_has ls 2 [(0, .ref (B + 101)), (1, .int x1)]) : W p l e rm_X4_drawBelow s m args below meth c H locs 0 0 (MQ below (wt_Qi D tI tII B r σ') args s 0 0 (fun q => B ≤ q)) (F0 m 0 ls []) := by
  obtain ⟨hx, hb, hts, hown, hml, hr, hlk, hK⟩ := id C
  replace hf := Eq.trans f_X4_drawBelow_e.symm hf
  refine lv_aload_n hx hb dX4_drawBelow_0 rfl (lv_at hl 0 rfl) ?_
  refine lv_aload_n hx hb dX4_drawBelow_1 rfl (lv_at hl 0 rfl) ?_
  refine gf_X4_seed  hx hb hts hown hK hM tw_745 dX4_drawBelow_2 ?_
  refine lv_ldcw (v := 1103515245) hx hb hown (hts _ tw_1228) dX4_drawBelow_5 ?_
  refine lv_imul hx hb dX4_drawBelow_8 ?_
  refine lv_sipush (v := 12345) hx hb dX4_drawBelow_9 (by decide) ?_
  refine lv_iadd hx hb dX4_drawBelow_12 ?_
  refine pf_X4_seed  hx hb hts hown hK hM tw_745 dX4_drawBelow_13 hf (fun s1 H locs hf hM => ?_)
  refine lv_aload_n hx hb dX4_drawBelow_16 rfl (lv_at hl 0 rfl) ?_
  refine gf_X4_seed  hx hb hts hown hK hM tw_745 dX4_drawBelow_17 ?_
  refine lv_ldcw (v := 2147483647) hx hb hown (hts _ tw_1229) dX4_drawBelow_20 ?_
  refine lv_iand hx hb dX4_drawBelow_23 ?_
  refine lv_ldcw (v := 65536) hx hb hown (hts _ tw_1230) dX4_drawBelow_24 ?_
  refine lv_idiv hx hb dX4_drawBelow_27 (by decide) ?_
  refine lv_iload_n hx hb dX4_drawBelow_28 rfl (lv_at hl 1 rfl) ?_
  obtain ⟨nz29, hf⟩ := wt_nz_of hf
  refine lv_irem hx hb dX4_drawBelow_29 nz29 ?_
  exact wt_iret hx hb hr hlk hK hM hf dX4_drawBelow_30
end
set_option maxHeartbeats 4000000 in
set_option maxRecDepth 100000 in
theorem c_X4_drawBelow {l : Launch} {D : va_G} {tI tII : ClassId} {B F : Nat} {x1 : Int32} {σ σ' : Mem} {r : Int32} (hf : f_X4_drawBelow F x1 σ = some (r, σ')) : wt_Mi l yX4_drawBelow cX4_drawBelow 2 (some .int) rm_X4_drawBelow [.ref (B + 101), .int x1] D tI tII B σ r σ' := by
  refine Met.ofW (cc := cX4_drawBelow) (maxL := 2) (ret := (some .int)) (by decide) rfl ?_
  intro p e s m args below meth c s₁ B9 hml hv
  obtain ⟨rfl, hP, hK⟩ := hv
  have hl := lv_entry ([.ref (B + 101), .int x1]) (n := 2) (qz_b rfl)
  rw [lg_entry_eq]
  generalize (lg_sl ([.ref (B + 101), .int x1]) ++ List.replicate (2 - (lg_sl ([.ref (B + 101), .int x1])).length) Slot.unset).toArray = ls at hl ⊢
  exact w_X4_drawBelow_0 (wt_C_of B9 hml hK) hf ⟨hP, va_S.rf⟩ hl
section
variable {p : Program} {l : Launch} {e : Env} {s : State} {m : MethodId} {args : Array Value} {below : List Frame} {meth : Method} {c : Code} {D : va_G} {tI tII : ClassId} {B : Nat}
set_option maxHeartbeats 4000000 in
set_option maxRecDepth 100000 in
theorem w_X4_lots_120 (C : wt_C p s m args meth c RX4 cX4_lots 10 (some .int) D tI tII) {F : Nat} {k46 : Int32 → Int32 → Mem → Option (Int32 × Mem)} {k62 : Int32 → Mem → Option (Int32 × Mem)} {k85 : Int32 → Mem → Option (Int32 × Mem)} {x1 : Int32} {x3 : Int32} {x5 : Int32} {x6 : Int32} {x7 : Int32} {x8 : Int32} {t1 : Int32} {t2 : Int32} {t3 : Int32} {σ : Mem} {r : Int32} {σ' : Mem} {H : Heap} {locs : List Loc} {ls : Array Slot} (hk46 : ∀ (x5 : Int32) (x6 : Int32) (σ : Mem) (H : Heap) (locs : List Loc) (ls : Array Slot), k46 x5 x6 σ = some (r, σ') → wt_St D tI tII B σ s H locs → lv_has ls 10 [(0, .ref (B + 101)), (1, .int x1), (3, .int x3), (5, .int x5), (6, .int x6)] → W p l e rm_X4_lots s m args below meth c H locs 0 0 (MQ below (wt_Qi D tI tII B r σ') args s 0 0 (fun q => B ≤ q)) (F0 m 46 ls [])) (hk62 : ∀ (x7 : Int32) (σ : Mem) (H : Heap) (locs : List Loc) (ls : Array Slot), k62 x7 σ = some (r, σ') → wt_St D tI tII B σ s H locs → lv_has ls 10 [(0, .ref (B + 101)), (1, .int x1), (3, .int x3), (5, .int x5), (6, .int x6), (7, .int x7)] → W p l e rm_X4_lots s m args below meth c H locs 0 0 (MQ below (wt_Qi D tI tII B r σ') args s 0 0 (fun q => B ≤ q)) (F0 m 62 ls [])) (hk85 : ∀ (x8 : Int32) (σ : Mem) (H : Heap) (locs : List Loc) (ls : Array Slot), k85 x8 σ = some (r, σ') → wt_St D tI tII B σ s H locs → lv_has ls 10 [(0, .ref (B + 101)), (1, .int x1), (3, .int x3), (5, .int x5), (6, .int x6), (7, .int x7), (8, .int x8)] → W p l e rm_X4_lots s m args below meth c H locs 0 0 (MQ below (wt_Qi D tI tII B r σ') args s 0 0 (fun q => B ≤ q)) (F0 m 85 ls [])) (hf : j_X4_lots_120 F k46 k62 k85 x1 x3 x5 x6 x7 x8 t1 t2 t3 σ = some (r, σ')) (hM : wt_St D tI tII B σ s H locs) (hl : lv_has ls 10 [(0, .ref (B + 101)), (1, .int x1), (3, .int x3), (5, .int x5), (6, .int x6), (7, .int x7), (8, .int x8)]) : W p l e rm_X4_lots s m args below meth c H locs 0 0 (MQ below (wt_Qi D tI tII B r σ') args s 0 0 (fun q => B ≤ q)) (F0 m 120 ls [.int t3, .int t2, .int t1, .ref (B + 101)]) := by
  obtain ⟨hx, hb, hts, hown, hml, hr, hlk, hK⟩ := id C
  replace hf := Eq.trans j_X4_lots_120_e.symm hf
  refine lv_aload_n hx hb dX4_lots_120 rfl (lv_at hl 0 rfl) ?_
  refine lv_aload_n hx hb dX4_lots_121 rfl (lv_at hl 0 rfl) ?_
  refine gf_X4_panes  hx hb hts hown hK hM tw_711 dX4_lots_122 ?_
  refine wt_callVi (As := [.int (σ 101 1)]) (rest := [.int t3, .int t2, .int t1, .ref (B + 101)]) hx hb hml hts hown hK hM wt_rc_X4 cw_X4_303 hd_X4_drawBelow rfl ⟨qz_b rfl, qz_b rfl⟩ ⟨rfl, rfl⟩ hl.1 rfl (qz_b rfl) dX4_lots_125 hf (fun _ _ h9 => c_X4_drawBelow h9) (fun r1 s2 H locs hf hM => ?_)
  refine wt_callVv (As := [.int t1, .int t2, .int t3, .int r1]) (rest := []) hx hb hml hts hown hK hM wt_rc_X4 cw_X4_182 hd_X4_stand rfl ⟨qz_b rfl, qz_b rfl⟩ ⟨rfl, rfl⟩ hl.1 rfl (qz_b rfl) dX4_lots_128 hf (fun _ _ h9 => c_X4_stand h9) (fun r3 s4 H locs hf hM => ?_)
  refine lv_iinc (v := (x8 + (1 : Int32))) (lv' := [(8, .int (x8 + (1 : Int32))), (0, .ref (B + 101)), (1, .int x1), (3, .int x3), (5, .int x5), (6, .int x6), (7, .int x7)]) hx hb dX4_lots_131 hl (k := 6) rfl rfl (by decide) rfl (fun ls hl => ?_)
  refine lv_goto (tgt := 85) hx hb dX4_lots_134 (by decide) ?_
  exact hk85 _ _ _ _ _ hf hM (lv_sub hl [1, 2, 3, 4, 5, 6, 0] rfl)
set_option maxHeartbeats 4000000 in
set_option maxRecDepth 100000 in
theorem w_X4_lots_85 (C : wt_C p s m args meth c RX4 cX4_lots 10 (some .int) D tI tII) {F : Nat} {k46 : Int32 → Int32 → Mem → Option (Int32 × Mem)} {k62 : Int32 → Mem → Option (Int32 × Mem)} {x1 : Int32} {x3 : Int32} {x5 : Int32} {x6 : Int32} {x7 : Int32} {r : Int32} {σ' : Mem} (hk46 : ∀ (x5 : Int32) (x6 : Int32) (σ : Mem) (H : Heap) (locs : List Loc) (ls : Array Slot), k46 x5 x6 σ = some (r, σ') → wt_St D tI tII B σ s H locs → lv_has ls 10 [(0, .ref (B + 101)), (1, .int x1), (3, .int x3), (5, .int x5), (6, .int x6)] → W p l e rm_X4_lots s m args below meth c H locs 0 0 (MQ below (wt_Qi D tI tII B r σ') args s 0 0 (fun q => B ≤ q)) (F0 m 46 ls [])) (hk62 : ∀ (x7 : Int32) (σ : Mem) (H : Heap) (locs : List Loc) (ls : Array Slot), k62 x7 σ = some (r, σ') → wt_St D tI tII B σ s H locs → lv_has ls 10 [(0, .ref (B + 101)), (1, .int x1), (3, .int x3), (5, .int x5), (6, .int x6), (7, .int x7)] → W p l e rm_X4_lots s m args below meth c H locs 0 0 (MQ below (wt_Qi D tI tII B r σ') args s 0 0 (fun q => B ≤ q)) (F0 m 62 ls [])) : ∀ (N : Nat) (x8 : Int32) (σ : Mem) (H : Heap) (locs : List Loc) (ls : Array Slot), lp_X4_lots_85 F k46 k62 x1 x3 x5 x6 x7 N x8 σ = some (r, σ') → wt_St D tI tII B σ s H locs → lv_has ls 10 [(0, .ref (B + 101)), (1, .int x1), (3, .int x3), (5, .int x5), (6, .int x6), (7, .int x7), (8, .int x8)] → W p l e rm_X4_lots s m args below meth c H locs 0 0 (MQ below (wt_Qi D tI tII B r σ') args s 0 0 (fun q => B ≤ q)) (F0 m 85 ls []) := by
  obtain ⟨hx, hb, hts, hown, hml, hr, hlk, hK⟩ := id C
  intro N
  induction N with
  | zero => intro x8 σ H locs ls hf; exact wt_none (show (none : Option (Int32 × Mem)) = some (r, σ') from hf)
  | succ N ih =>
    intro x8 σ H locs ls hf hM hl
    replace hf := Eq.trans lp_X4_lots_85_s.symm hf
    refine lv_iload hx hb dX4_lots_85 (lv_at hl 6 rfl) ?_
    refine lv_iconst (v := 4) hx hb dX4_lots_87 (by decide) ?_
    refine wq_icmp_ge (tgt := 137) hx hb dX4_lots_88 (by decide) hf (fun hf => ?_) (fun hf => ?_)
    · refine lv_iinc (v := (x7 + (1 : Int32))) (lv' := [(7, .int (x7 + (1 : Int32))), (0, .ref (B + 101)), (1, .int x1), (3, .int x3), (5, .int x5), (6, .int x6), (8, .int x8)]) hx hb dX4_lots_137 hl (k := 5) rfl rfl (by decide) rfl (fun ls hl => ?_)
      refine lv_goto (tgt := 62) hx hb dX4_lots_140 (by decide) ?_
      exact hk62 _ _ _ _ _ hf hM (lv_sub hl [1, 2, 3, 4, 5, 0] rfl)
    refine lv_aload_n hx hb dX4_lots_91 rfl (lv_at hl 0 rfl) ?_
    refine lv_bipush (v := 24) hx hb dX4_lots_92 (by decide) ?_
    refine wt_callVi (As := [.int (24 : Int32)]) (rest := []) hx hb hml hts hown hK hM wt_rc_X4 cw_X4_303 hd_X4_drawBelow rfl ⟨qz_b rfl, qz_b rfl⟩ ⟨rfl, rfl⟩ hl.1 rfl (qz_b rfl) dX4_lots_94 hf (fun _ _ h9 => c_X4_drawBelow h9) (fun r5 s6 H locs hf hM => ?_)
    refine lv_istore (lv' := [(9, .int r5), (0, .ref (B + 101)), (1, .int x1), (3, .int x3), (5, .int x5), (6, .int x6), (7, .int x7), (8, .int x8)]) hx hb dX4_lots_97 hl (by decide) rfl (fun ls hl => ?_)
    refine lv_aload_n hx hb dX4_lots_99 rfl (lv_at hl 1 rfl) ?_
    refine lv_iload hx hb dX4_lots_100 (lv_at hl 6 rfl) ?_
    refine lv_iload hx hb dX4_lots_102 (lv_at hl 0 rfl) ?_
    refine lv_iload hx hb dX4_lots_104 (lv_at hl 0 rfl) ?_
    refine lv_bipush (v := 20) hx hb dX4_lots_106 (by decide) ?_
    refine wq_icmp_le (tgt := 116) hx hb dX4_lots_108 (by decide) hf (fun hf => ?_) (fun hf => ?_)
    · refine lv_iload hx hb dX4_lots_116 (lv_at hl 0 rfl) ?_
      refine lv_iconst (v := 3) hx hb dX4_lots_118 (by decide) ?_
      refine lv_iadd hx hb dX4_lots_119 ?_
      exact w_X4_lots_120 C hk46 hk62 ih hf hM (lv_sub hl [1, 2, 3, 4, 5, 6, 7] rfl)
    refine lv_bipush (v := 23) hx hb dX4_lots_111 (by decide) ?_
    refine lv_goto (tgt := 120) hx hb dX4_lots_113 (by decide) ?_
    exact w_X4_lots_120 C hk46 hk62 ih hf hM (lv_sub hl [1, 2, 3, 4, 5, 6, 7] rfl)
set_option maxHeartbeats 4000000 in
set_option maxRecDepth 100000 in
theorem w_X4_lots_195 (C : wt_C p s m args meth c RX4 cX4_lots 10 (some .int) D tI tII) {F : Nat} {k46 : Int32 → Int32 → Mem → Option (Int32 × Mem)} {x1 : Int32} {x3 : Int32} {x6 : Int32} {t0 : Int32} {t1 : Int32} {σ : Mem} {r : Int32} {σ' : Mem} {H : Heap} {locs : List Loc} {ls : Array Slot} (hk46 : ∀ (x5 : Int32) (x6 : Int32) (σ : Mem) (H : Heap) (locs : List Loc) (ls : Array Slot), k46 x5 x6 σ = some (r, σ') → wt_St D tI tII B σ s H locs → lv_has ls 10 [(0, .ref (B + 101)), (1, .int x1), (3, .int x3), (5, .int x5), (6, .int x6)] → W p l e rm_X4_lots s m args below meth c H locs 0 0 (MQ below (wt_Qi D tI tII B r σ') args s 0 0 (fun q => B ≤ q)) (F0 m 46 ls [])) (hf : j_X4_lots_195 F k46 x1 x3 x6 t0 t1 σ = some (r, σ')) (hM : wt_St D tI tII B σ s H locs) (hl : lv_has ls 10 [(0, .ref (B + 101)), (1, .int x1), (3, .int x3), (6, .int x6)]) : W p l e rm_X4_lots s m args below meth c H locs 0 0 (MQ below (wt_Qi D tI tII B r σ') args s 0 0 (fun q => B ≤ q)) (F0 m 195 ls [.int t1, .int t0]) := by
  obtain ⟨hx, hb, hts, hown, hml, hr, hlk, hK⟩ := id C
  replace hf := Eq.trans j_X4_lots_195_e.symm hf
  refine lv_iadd hx hb dX4_lots_195 ?_
  refine lv_istore (lv' := [(5, .int (t0 + t1)), (0, .ref (B + 101)), (1, .int x1), (3, .int x3), (6, .int x6)]) hx hb dX4_lots_196 hl (by decide) rfl (fun ls hl => ?_)
  refine lv_iinc (v := (x6 + (1 : Int32))) (lv' := [(6, .int (x6 + (1 : Int32))), (5, .int (t0 + t1)), (0, .ref (B + 101)), (1, .int x1), (3, .int x3)]) hx hb dX4_lots_198 hl (k := 4) rfl rfl (by decide) rfl (fun ls hl => ?_)
  refine lv_goto (tgt := 46) hx hb dX4_lots_201 (by decide) ?_
  exact hk46 _ _ _ _ _ _ hf hM (lv_sub hl [2, 3, 4, 1, 0] rfl)
set_option maxHeartbeats 4000000 in
set_option maxRecDepth 100000 in
theorem w_X4_lots_62 (C : wt_C p s m args meth c RX4 cX4_lots 10 (some .int) D tI tII) {F : Nat} {k46 : Int32 → Int32 → Mem → Option (Int32 × Mem)} {x1 : Int32} {x3 : Int32} {x5 : Int32} {x6 : Int32} {r : Int32} {σ' : Mem} (hk46 : ∀ (x5 : Int32) (x6 : Int32) (σ : Mem) (H : Heap) (locs : List Loc) (ls : Array Slot), k46 x5 x6 σ = some (r, σ') → wt_St D tI tII B σ s H locs → lv_has ls 10 [(0, .ref (B + 101)), (1, .int x1), (3, .int x3), (5, .int x5), (6, .int x6)] → W p l e rm_X4_lots s m args below meth c H locs 0 0 (MQ below (wt_Qi D tI tII B r σ') args s 0 0 (fun q => B ≤ q)) (F0 m 46 ls [])) : ∀ (N : Nat) (x7 : Int32) (σ : Mem) (H : Heap) (locs : List Loc) (ls : Array Slot), lp_X4_lots_62 F k46 x1 x3 x5 x6 N x7 σ = some (r, σ') → wt_St D tI tII B σ s H locs → lv_has ls 10 [(0, .ref (B + 101)), (1, .int x1), (3, .int x3), (5, .int x5), (6, .int x6), (7, .int x7)] → W p l e rm_X4_lots s m args below meth c H locs 0 0 (MQ below (wt_Qi D tI tII B r σ') args s 0 0 (fun q => B ≤ q)) (F0 m 62 ls []) := by
  obtain ⟨hx, hb, hts, hown, hml, hr, hlk, hK⟩ := id C
  intro N
  induction N with
  | zero => intro x7 σ H locs ls hf; exact wt_none (show (none : Option (Int32 × Mem)) = some (r, σ') from hf)
  | succ N ih =>
    intro x7 σ H locs ls hf hM hl
    replace hf := Eq.trans lp_X4_lots_62_s.symm hf
    refine lv_iload hx hb dX4_lots_62 (lv_at hl 5 rfl) ?_
    refine lv_aload_n hx hb dX4_lots_64 rfl (lv_at hl 0 rfl) ?_
    refine gf_X4_lookers  hx hb hts hown hK hM tw_713 dX4_lots_65 ?_
    refine wq_icmp_ge (tgt := 143) hx hb dX4_lots_68 (by decide) hf (fun hf => ?_) (fun hf => ?_)
    · refine lv_aload_n hx hb dX4_lots_143 rfl (lv_at hl 0 rfl) ?_
      refine wt_callVv (As := []) (rest := []) hx hb hml hts hown hK hM wt_rc_X4 cw_X4_134 hd_X4_layBrings rfl ⟨qz_b rfl, qz_b rfl⟩ ⟨rfl, rfl⟩ hl.1 rfl (qz_b rfl) dX4_lots_144 hf (fun _ _ h9 => c_X4_layBrings h9) (fun r7 s8 H locs hf hM => ?_)
      refine lv_aload_n hx hb dX4_lots_147 rfl (lv_at hl 0 rfl) ?_
      refine lv_bipush (v := 99) hx hb dX4_lots_148 (by decide) ?_
      refine wt_callVi (As := [.int (99 : Int32)]) (rest := []) hx hb hml hts hown hK hM wt_rc_X4 cw_X4_254 hd_X4_richestIn rfl ⟨qz_b rfl, qz_b rfl⟩ ⟨rfl, rfl⟩ hl.1 rfl (qz_b rfl) dX4_lots_150 hf (fun _ _ h9 => c_X4_richestIn h9) (fun r9 s10 H locs hf hM => ?_)
      refine lv_istore (lv' := [(7, .int r9), (0, .ref (B + 101)), (1, .int x1), (3, .int x3), (5, .int x5), (6, .int x6)]) hx hb dX4_lots_153 hl (by decide) rfl (fun ls hl => ?_)
      refine lv_iload hx hb dX4_lots_155 (lv_at hl 4 rfl) ?_
      refine lv_iload_n hx hb dX4_lots_157 rfl (lv_at hl 3 rfl) ?_
      refine wq_if_ne (tgt := 178) hx hb dX4_lots_158 (by decide) hf (fun hf => ?_) (fun hf => ?_)
      · refine lv_iload hx hb dX4_lots_178 (lv_at hl 0 rfl) ?_
        refine wq_if_ge (tgt := 187) hx hb dX4_lots_180 (by decide) hf (fun hf => ?_) (fun hf => ?_)
        · refine lv_aload_n hx hb dX4_lots_187 rfl (lv_at hl 1 rfl) ?_
          refine lv_iload hx hb dX4_lots_188 (lv_at hl 0 rfl) ?_
          refine lv_bipush (v := 99) hx hb dX4_lots_190 (by decide) ?_
          refine wt_callVi (As := [.int r9, .int (99 : Int32)]) (rest := [.int x5]) hx hb hml hts hown hK hM wt_rc_X4 cw_X4_137 hd_X4_worthIn rfl ⟨qz_b rfl, qz_b rfl⟩ ⟨rfl, rfl⟩ hl.1 rfl (qz_b rfl) dX4_lots_192 hf (fun _ _ h9 => c_X4_worthIn h9) (fun r11 s12 H locs hf hM => ?_)
          exact w_X4_lots_195 C hk46 hf hM (lv_sub hl [1, 2, 3, 5] rfl)
        refine lv_iconst (v := 0) hx hb dX4_lots_183 (by decide) ?_
        refine lv_goto (tgt := 195) hx hb dX4_lots_184 (by decide) ?_
        exact w_X4_lots_195 C hk46 hf hM (lv_sub hl [1, 2, 3, 5] rfl)
      refine lv_bipush (v := 8) hx hb dX4_lots_161 (by decide) ?_
      refine lv_aload_n hx hb dX4_lots_163 rfl (lv_at hl 1 rfl) ?_
      refine lv_bipush (v := -9) hx hb dX4_lots_164 (by decide) ?_
      refine lv_bipush (v := 99) hx hb dX4_lots_166 (by decide) ?_
      refine wt_callVi (As := [.int (-9 : Int32), .int (99 : Int32)]) (rest := [.int (8 : Int32), .int x5]) hx hb hml hts hown hK hM wt_rc_X4 cw_X4_128 hd_X4_viewsIn rfl ⟨qz_b rfl, qz_b rfl⟩ ⟨rfl, rfl⟩ hl.1 rfl (qz_b rfl) dX4_lots_168 hf (fun _ _ h9 => c_X4_viewsIn h9) (fun r13 s14 H locs hf hM => ?_)
      refine wt_callSi (As := [.int r13]) (rest := [.int (8 : Int32), .int x5]) hx hb hml hts hown hK hM cw_X4_263 hd_X4_onesOf rfl ⟨qz_b rfl, qz_b rfl⟩ ⟨rfl, rfl⟩ hl.1 rfl (qz_b rfl) dX4_lots_171 hf (fun _ _ h9 => c_X4_onesOf h9) (fun r15 s16 H locs hf hM => ?_)
      refine lv_isub hx hb dX4_lots_174 ?_
      refine lv_goto (tgt := 195) hx hb dX4_lots_175 (by decide) ?_
      exact w_X4_lots_195 C hk46 hf hM (lv_sub hl [1, 2, 3, 5] rfl)
    refine lv_aload_n hx hb dX4_lots_71 rfl (lv_at hl 0 rfl) ?_
    refine lv_iload hx hb dX4_lots_72 (lv_at hl 5 rfl) ?_
    refine lv_iconst (v := 0) hx hb dX4_lots_74 (by decide) ?_
    refine lv_bipush (v := 23) hx hb dX4_lots_75 (by decide) ?_
    refine lv_bipush (v := 9) hx hb dX4_lots_77 (by decide) ?_
    refine wt_callVv (As := [.int x7, .int (0 : Int32), .int (23 : Int32), .int (9 : Int32)]) (rest := []) hx hb hml hts hown hK hM wt_rc_X4 cw_X4_182 hd_X4_stand rfl ⟨qz_b rfl, qz_b rfl⟩ ⟨rfl, rfl⟩ hl.1 rfl (qz_b rfl) dX4_lots_79 hf (fun _ _ h9 => c_X4_stand h9) (fun r17 s18 H locs hf hM => ?_)
    refine lv_iconst (v := 0) hx hb dX4_lots_82 (by decide) ?_
    refine lv_istore (lv' := [(8, .int (0 : Int32)), (0, .ref (B + 101)), (1, .int x1), (3, .int x3), (5, .int x5), (6, .int x6), (7, .int x7)]) hx hb dX4_lots_83 hl (by decide) rfl (fun ls hl => ?_)
    exact w_X4_lots_85 C hk46 ih _ _ _ _ _ _ hf hM (lv_sub hl [1, 2, 3, 4, 5, 6, 0] rfl)
set_option maxHeartbeats 4000000 in
set_option maxRecDepth 100000 in
theorem w_X4_lots_204 (C : wt_C p s m args meth c RX4 cX4_lots 10 (some .int) D tI tII) {F : Nat} {x5 : Int32} {σ : Mem} {r : Int32} {σ' : Mem} {H : Heap} {locs : List Loc} {ls : Array Slot} (hf : j_X4_lots_204 F x5 σ = some (r, σ')) (hM : wt_St D tI tII B σ s H locs) (hl : lv_has ls 10 [(0, .ref (B + 101)), (5, .int x5)]) : W p l e rm_X4_lots s m args below meth c H locs 0 0 (MQ below (wt_Qi D tI tII B r σ') args s 0 0 (fun q => B ≤ q)) (F0 m 204 ls []) := by
  obtain ⟨hx, hb, hts, hown, hml, hr, hlk, hK⟩ := id C
  replace hf := Eq.trans j_X4_lots_204_e.symm hf
  refine lv_aload_n hx hb dX4_lots_204 rfl (lv_at hl 0 rfl) ?_
  refine wt_callVv (As := []) (rest := []) hx hb hml hts hown hK hM wt_rc_X4 cw_X4_201 hd_X4_again rfl ⟨qz_b rfl, qz_b rfl⟩ ⟨rfl, rfl⟩ hl.1 rfl (qz_b rfl) dX4_lots_205 hf (fun _ _ h9 => c_X4_again h9) (fun r19 s20 H locs hf hM => ?_)
  refine lv_iload hx hb dX4_lots_208 (lv_at hl 1 rfl) ?_
  exact wt_iret hx hb hr hlk hK hM hf dX4_lots_210
set_option maxHeartbeats 4000000 in
set_option maxRecDepth 100000 in
theorem w_X4_lots_46 (C : wt_C p s m args meth c RX4 cX4_lots 10 (some .int) D tI tII) {F : Nat} {x1 : Int32} {x3 : Int32} {r : Int32} {σ' : Mem} : ∀ (N : Nat) (x5 : Int32) (x6 : Int32) (σ : Mem) (H : Heap) (locs : List Loc) (ls : Array Slot), lp_X4_lots_46 F x1 x3 N x5 x6 σ = some (r, σ') → wt_St D tI tII B σ s H locs → lv_has ls 10 [(0, .ref (B + 101)), (1, .int x1), (3, .int x3), (5, .int x5), (6, .int x6)] → W p l e rm_X4_lots s m args below meth c H locs 0 0 (MQ below (wt_Qi D tI tII B r σ') args s 0 0 (fun q => B ≤ q)) (F0 m 46 ls []) := by
  obtain ⟨hx, hb, hts, hown, hml, hr, hlk, hK⟩ := id C
  intro N
  induction N with
  | zero => intro x5 x6 σ H locs ls hf; exact wt_none (show (none : Option (Int32 × Mem)) = some (r, σ') from hf)
  | succ N ih =>
    intro x5 x6 σ H locs ls hf hM hl
    replace hf := Eq.trans lp_X4_lots_46_s.symm hf
    refine lv_iload hx hb dX4_lots_46 (lv_at hl 4 rfl) ?_
    refine lv_iload_n hx hb dX4_lots_48 rfl (lv_at hl 1 rfl) ?_
    refine wq_icmp_ge (tgt := 204) hx hb dX4_lots_49 (by decide) hf (fun hf => ?_) (fun hf => ?_)
    · exact w_X4_lots_204 C hf hM (lv_sub hl [0, 3] rfl)
    refine lv_aload_n hx hb dX4_lots_52 rfl (lv_at hl 0 rfl) ?_
    refine gf_X4_panes  hx hb hts hown hK hM tw_711 dX4_lots_53 ?_
    refine wq_if_le (tgt := 204) hx hb dX4_lots_56 (by decide) hf (fun hf => ?_) (fun hf => ?_)
    · exact w_X4_lots_204 C hf hM (lv_sub hl [0, 3] rfl)
    refine lv_iconst (v := 0) hx hb dX4_lots_59 (by decide) ?_
    refine lv_istore (lv' := [(7, .int (0 : Int32)), (0, .ref (B + 101)), (1, .int x1), (3, .int x3), (5, .int x5), (6, .int x6)]) hx hb dX4_lots_60 hl (by decide) rfl (fun ls hl => ?_)
    exact w_X4_lots_62 C ih _ _ _ _ _ _ hf hM (lv_sub hl [1, 2, 3, 4, 5, 0] rfl)
set_option maxHeartbeats 4000000 in
set_option maxRecDepth 100000 in
theorem w_X4_lots_0 (C : wt_C p s m args meth c RX4 cX4_lots 10 (some .int) D tI tII) {F : Nat} {x1 : Int32} {x2 : Int32} {x3 : Int32} {σ : Mem} {r : Int32} {σ' : Mem} {H : Heap} {locs : List Loc} {ls : Array Slot} (hf : f_X4_lots F x1 x2 x3 σ = some (r, σ')) (hM : wt_St D tI tII B σ s H locs) (hl : lv_has ls 10 [(0, .ref (B + 101)), (1, .int x1), (2, .int x2), (3, .int x3)]) : W p l e rm_X4_lots s m args below meth c H locs 0 0 (MQ below (wt_Qi D tI tII B r σ') args s 0 0 (fun q => B ≤ q)) (F0 m 0 ls []) := by
  obtain ⟨hx, hb, hts, hown, hml, hr, hlk, hK⟩ := id C
  replace hf := Eq.trans f_X4_lots_e.symm hf
  refine lv_aload_n hx hb dX4_lots_0 rfl (lv_at hl 0 rfl) ?_
  refine lv_iconst (v := 0) hx hb dX4_lots_1 (by decide) ?_
  refine pf_X4_thrown  hx hb hts hown hK hM tw_720 dX4_lots_2 hf (fun s21 H locs hf hM => ?_)
  refine lv_iload_n hx hb dX4_lots_5 rfl (lv_at hl 1 rfl) ?_
  refine lv_iconst (v := 1) hx hb dX4_lots_6 (by decide) ?_
  refine lv_bipush (v := 20) hx hb dX4_lots_7 (by decide) ?_
  refine wt_callSi (As := [.int x1, .int (1 : Int32), .int (20 : Int32)]) (rest := []) hx hb hml hts hown hK hM cw_X4_231 hd_X4_wrongNumber rfl ⟨qz_b rfl, qz_b rfl⟩ ⟨rfl, rfl⟩ hl.1 rfl (qz_b rfl) dX4_lots_9 hf (fun _ _ h9 => c_X4_wrongNumber h9) (fun r22 s23 H locs hf hM => ?_)
  refine lv_iload_n hx hb dX4_lots_12 rfl (lv_at hl 3 rfl) ?_
  refine lv_iconst (v := 1) hx hb dX4_lots_13 (by decide) ?_
  refine wt_callSi (As := [.int r22, .int x3, .int (1 : Int32)]) (rest := []) hx hb hml hts hown hK hM cw_X4_251 hd_X4_wrongBit rfl ⟨qz_b rfl, qz_b rfl⟩ ⟨rfl, rfl⟩ hl.1 rfl (qz_b rfl) dX4_lots_14 hf (fun _ _ h9 => c_X4_wrongBit h9) (fun r24 s25 H locs hf hM => ?_)
  refine lv_istore (lv' := [(4, .int r24), (0, .ref (B + 101)), (1, .int x1), (2, .int x2), (3, .int x3)]) hx hb dX4_lots_17 hl (by decide) rfl (fun ls hl => ?_)
  refine lv_iload hx hb dX4_lots_19 (lv_at hl 0 rfl) ?_
  refine wq_if_ge (tgt := 31) hx hb dX4_lots_21 (by decide) hf (fun hf => ?_) (fun hf => ?_)
  · refine lv_aload_n hx hb dX4_lots_31 rfl (lv_at hl 1 rfl) ?_
    refine lv_iload_n hx hb dX4_lots_32 rfl (lv_at hl 3 rfl) ?_
    refine pf_X4_seed  hx hb hts hown hK hM tw_745 dX4_lots_33 hf (fun s26 H locs hf hM => ?_)
    refine lv_iconst (v := 0) hx hb dX4_lots_36 (by decide) ?_
    refine lv_istore (lv' := [(5, .int (0 : Int32)), (4, .int r24), (0, .ref (B + 101)), (1, .int x1), (2, .int x2), (3, .int x3)]) hx hb dX4_lots_37 hl (by decide) rfl (fun ls hl => ?_)
    refine lv_aload_n hx hb dX4_lots_39 rfl (lv_at hl 2 rfl) ?_
    refine wt_callVv (As := []) (rest := []) hx hb hml hts hown hK hM wt_rc_X4 cw_X4_195 hd_X4_think rfl ⟨qz_b rfl, qz_b rfl⟩ ⟨rfl, rfl⟩ hl.1 rfl (qz_b rfl) dX4_lots_40 hf (fun _ _ h9 => c_X4_think h9) (fun r27 s28 H locs hf hM => ?_)
    refine lv_iconst (v := 0) hx hb dX4_lots_43 (by decide) ?_
    refine lv_istore (lv' := [(6, .int (0 : Int32)), (5, .int (0 : Int32)), (4, .int r24), (0, .ref (B + 101)), (1, .int x1), (2, .int x2), (3, .int x3)]) hx hb dX4_lots_44 hl (by decide) rfl (fun ls hl => ?_)
    exact w_X4_lots_46 C _ _ _ _ _ _ _ hf hM (lv_sub hl [3, 4, 6, 1, 0] rfl)
  refine lv_aload_n hx hb dX4_lots_24 rfl (lv_at hl 1 rfl) ?_
  refine lv_iload hx hb dX4_lots_25 (lv_at hl 0 rfl) ?_
  refine wt_callVi (As := [.int r24]) (rest := []) hx hb hml hts hown hK hM wt_rc_X4 cw_X4_143 hd_X4_refuse rfl ⟨qz_b rfl, qz_b rfl⟩ ⟨rfl, rfl⟩ hl.1 rfl (qz_b rfl) dX4_lots_27 hf (fun _ _ h9 => c_X4_refuse h9) (fun r29 s30 H locs hf hM => ?_)
  exact wt_iret hx hb hr hlk hK hM hf dX4_lots_30
end
set_option maxHeartbeats 4000000 in
set_option maxRecDepth 100000 in
theorem c_X4_lots {l : Launch} {D : va_G} {tI tII : ClassId} {B F : Nat} {x1 : Int32} {x2 : Int32} {x3 : Int32} {σ σ' : Mem} {r : Int32} (hf : f_X4_lots F x1 x2 x3 σ = some (r, σ')) : wt_Mi l yX4_lots cX4_lots 10 (some .int) rm_X4_lots [.ref (B + 101), .int x1, .int x2, .int x3] D tI tII B σ r σ' := by
  refine Met.ofW (cc := cX4_lots) (maxL := 10) (ret := (some .int)) (by decide) rfl ?_
  intro p e s m args below meth c s₁ B9 hml hv
  obtain ⟨rfl, hP, hK⟩ := hv
  have hl := lv_entry ([.ref (B + 101), .int x1, .int x2, .int x3]) (n := 10) (qz_b rfl)
  rw [lg_entry_eq]
  generalize (lg_sl ([.ref (B + 101), .int x1, .int x2, .int x3]) ++ List.replicate (10 - (lg_sl ([.ref (B + 101), .int x1, .int x2, .int x3])).length) Slot.unset).toArray = ls at hl ⊢
  exact w_X4_lots_0 (wt_C_of B9 hml hK) hf ⟨hP, va_S.rf⟩ hl
section
variable {p : Program} {l : Launch} {e : Env} {s : State} {m : MethodId} {args : Array Value} {below : List Frame} {meth : Method} {c : Code} {D : va_G} {tI tII : ClassId} {B : Nat}
set_option maxHeartbeats 4000000 in
set_option maxRecDepth 100000 in
theorem w_X4_count_99 (C : wt_C p s m args meth c RX4 cX4_count 4 (some .int) D tI tII) {F : Nat} {r : Int32} {σ' : Mem} : ∀ (N : Nat) (x2 : Int32) (x3 : Int32) (σ : Mem) (H : Heap) (locs : List Loc) (ls : Array Slot), lp_X4_count_99 F N x2 x3 σ = some (r, σ') → wt_St D tI tII B σ s H locs → lv_has ls 4 [(0, .ref (B + 101)), (2, .int x2), (3, .int x3)] → W p l e rm_X4_count s m args below meth c H locs 0 0 (MQ below (wt_Qi D tI tII B r σ') args s 0 0 (fun q => B ≤ q)) (F0 m 99 ls []) := by
  obtain ⟨hx, hb, hts, hown, hml, hr, hlk, hK⟩ := id C
  intro N
  induction N with
  | zero => intro x2 x3 σ H locs ls hf; exact wt_none (show (none : Option (Int32 × Mem)) = some (r, σ') from hf)
  | succ N ih =>
    intro x2 x3 σ H locs ls hf hM hl
    replace hf := Eq.trans lp_X4_count_99_s.symm hf
    refine lv_iload_n hx hb dX4_count_99 rfl (lv_at hl 2 rfl) ?_
    refine lv_aload_n hx hb dX4_count_100 rfl (lv_at hl 0 rfl) ?_
    refine gf_X4_lookers  hx hb hts hown hK hM tw_713 dX4_count_101 ?_
    refine wq_icmp_ge (tgt := 121) hx hb dX4_count_104 (by decide) hf (fun hf => ?_) (fun hf => ?_)
    · refine lv_iload_n hx hb dX4_count_121 rfl (lv_at hl 1 rfl) ?_
      exact wt_iret hx hb hr hlk hK hM hf dX4_count_122
    refine lv_iload_n hx hb dX4_count_107 rfl (lv_at hl 1 rfl) ?_
    refine lv_aload_n hx hb dX4_count_108 rfl (lv_at hl 0 rfl) ?_
    refine lv_iload_n hx hb dX4_count_109 rfl (lv_at hl 2 rfl) ?_
    refine wt_callVi (As := [.int x3]) (rest := [.int x2]) hx hb hml hts hown hK hM wt_rc_X4 cw_X4_228 hd_X4_hoursOf rfl ⟨qz_b rfl, qz_b rfl⟩ ⟨rfl, rfl⟩ hl.1 rfl (qz_b rfl) dX4_count_110 hf (fun _ _ h9 => c_X4_hoursOf h9) (fun r1 s2 H locs hf hM => ?_)
    refine lv_iadd hx hb dX4_count_113 ?_
    refine lv_istore_n (lv' := [(2, .int (x2 + r1)), (0, .ref (B + 101)), (3, .int x3)]) hx hb dX4_count_114 rfl hl (by decide) rfl (fun ls hl => ?_)
    refine lv_iinc (v := (x3 + (1 : Int32))) (lv' := [(3, .int (x3 + (1 : Int32))), (2, .int (x2 + r1)), (0, .ref (B + 101))]) hx hb dX4_count_115 hl (k := 2) rfl rfl (by decide) rfl (fun ls hl => ?_)
    refine lv_goto (tgt := 99) hx hb dX4_count_118 (by decide) ?_
    exact ih _ _ _ _ _ _ hf hM (lv_sub hl [2, 1, 0] rfl)
set_option maxHeartbeats 4000000 in
set_option maxRecDepth 100000 in
theorem w_X4_count_0 (C : wt_C p s m args meth c RX4 cX4_count 4 (some .int) D tI tII) {F : Nat} {x1 : Int32} {σ : Mem} {r : Int32} {σ' : Mem} {H : Heap} {locs : List Loc} {ls : Array Slot} (hf : f_X4_count F x1 σ = some (r, σ')) (hM : wt_St D tI tII B σ s H locs) (hl : lv_has ls 4 [(0, .ref (B + 101)), (1, .int x1)]) : W p l e rm_X4_count s m args below meth c H locs 0 0 (MQ below (wt_Qi D tI tII B r σ') args s 0 0 (fun q => B ≤ q)) (F0 m 0 ls []) := by
  obtain ⟨hx, hb, hts, hown, hml, hr, hlk, hK⟩ := id C
  replace hf := Eq.trans f_X4_count_e.symm hf
  refine lv_aload_n hx hb dX4_count_0 rfl (lv_at hl 0 rfl) ?_
  refine lv_iconst (v := 0) hx hb dX4_count_1 (by decide) ?_
  refine pf_X4_thrown  hx hb hts hown hK hM tw_720 dX4_count_2 hf (fun s3 H locs hf hM => ?_)
  refine lv_iconst (v := 0) hx hb dX4_count_5 (by decide) ?_
  refine lv_istore_n (lv' := [(2, .int (0 : Int32)), (0, .ref (B + 101)), (1, .int x1)]) hx hb dX4_count_6 rfl hl (by decide) rfl (fun ls hl => ?_)
  refine lv_iload_n hx hb dX4_count_7 rfl (lv_at hl 2 rfl) ?_
  refine wq_key hf (fun e9 hf => ?_) (fun n4_0 hf => ?_)
  · refine lv_tableIn (off := 56) (tgt := 64) hx hb dX4_count_8 (by rw [e9]; decide) (by rw [e9]; decide) (by rw [e9]; rfl) (by decide) ?_
    refine lv_aload_n hx hb dX4_count_64 rfl (lv_at hl 1 rfl) ?_
    refine gf_X4_panes  hx hb hts hown hK hM tw_711 dX4_count_65 ?_
    exact wt_iret hx hb hr hlk hK hM hf dX4_count_68
  refine wq_key hf (fun e9 hf => ?_) (fun n4_1 hf => ?_)
  · refine lv_tableIn (off := 61) (tgt := 69) hx hb dX4_count_8 (by rw [e9]; decide) (by rw [e9]; decide) (by rw [e9]; rfl) (by decide) ?_
    refine lv_aload_n hx hb dX4_count_69 rfl (lv_at hl 1 rfl) ?_
    refine gf_X4_lookers  hx hb hts hown hK hM tw_713 dX4_count_70 ?_
    exact wt_iret hx hb hr hlk hK hM hf dX4_count_73
  refine wq_key hf (fun e9 hf => ?_) (fun n4_2 hf => ?_)
  · refine lv_tableIn (off := 66) (tgt := 74) hx hb dX4_count_8 (by rw [e9]; decide) (by rw [e9]; decide) (by rw [e9]; rfl) (by decide) ?_
    refine lv_aload_n hx hb dX4_count_74 rfl (lv_at hl 1 rfl) ?_
    refine gf_X4_today  hx hb hts hown hK hM tw_719 dX4_count_75 ?_
    exact wt_iret hx hb hr hlk hK hM hf dX4_count_78
  refine wq_key hf (fun e9 hf => ?_) (fun n4_3 hf => ?_)
  · refine lv_tableIn (off := 71) (tgt := 79) hx hb dX4_count_8 (by rw [e9]; decide) (by rw [e9]; decide) (by rw [e9]; rfl) (by decide) ?_
    refine lv_aload_n hx hb dX4_count_79 rfl (lv_at hl 1 rfl) ?_
    refine gf_X4_law0  hx hb hts hown hK hM tw_718 dX4_count_80 ?_
    exact wt_iret hx hb hr hlk hK hM hf dX4_count_83
  refine wq_key hf (fun e9 hf => ?_) (fun n4_4 hf => ?_)
  · refine lv_tableIn (off := 76) (tgt := 84) hx hb dX4_count_8 (by rw [e9]; decide) (by rw [e9]; decide) (by rw [e9]; rfl) (by decide) ?_
    refine lv_aload_n hx hb dX4_count_84 rfl (lv_at hl 1 rfl) ?_
    refine wt_callVi (As := []) (rest := []) hx hb hml hts hown hK hM wt_rc_X4 cw_X4_248 hd_X4_owned rfl ⟨qz_b rfl, qz_b rfl⟩ ⟨rfl, rfl⟩ hl.1 rfl (qz_b rfl) dX4_count_85 hf (fun _ _ h9 => c_X4_owned h9) (fun r5 s6 H locs hf hM => ?_)
    exact wt_iret hx hb hr hlk hK hM hf dX4_count_88
  refine wq_key hf (fun e9 hf => ?_) (fun n4_5 hf => ?_)
  · refine lv_tableIn (off := 81) (tgt := 89) hx hb dX4_count_8 (by rw [e9]; decide) (by rw [e9]; decide) (by rw [e9]; rfl) (by decide) ?_
    refine lv_aload_n hx hb dX4_count_89 rfl (lv_at hl 1 rfl) ?_
    refine wt_callVi (As := []) (rest := []) hx hb hml hts hown hK hM wt_rc_X4 cw_X4_96 hd_X4_allShown rfl ⟨qz_b rfl, qz_b rfl⟩ ⟨rfl, rfl⟩ hl.1 rfl (qz_b rfl) dX4_count_90 hf (fun _ _ h9 => c_X4_allShown h9) (fun r7 s8 H locs hf hM => ?_)
    refine wt_callSi (As := [.int r7]) (rest := []) hx hb hml hts hown hK hM cw_X4_263 hd_X4_onesOf rfl ⟨qz_b rfl, qz_b rfl⟩ ⟨rfl, rfl⟩ hl.1 rfl (qz_b rfl) dX4_count_93 hf (fun _ _ h9 => c_X4_onesOf h9) (fun r9 s10 H locs hf hM => ?_)
    exact wt_iret hx hb hr hlk hK hM hf dX4_count_96
  refine wq_key hf (fun e9 hf => ?_) (fun n4_6 hf => ?_)
  · refine lv_tableIn (off := 89) (tgt := 97) hx hb dX4_count_8 (by rw [e9]; decide) (by rw [e9]; decide) (by rw [e9]; rfl) (by decide) ?_
    refine lv_iconst (v := 0) hx hb dX4_count_97 (by decide) ?_
    refine lv_istore_n (lv' := [(3, .int (0 : Int32)), (2, .int (0 : Int32)), (0, .ref (B + 101)), (1, .int x1)]) hx hb dX4_count_98 rfl hl (by decide) rfl (fun ls hl => ?_)
    exact w_X4_count_99 C _ _ _ _ _ _ _ hf hM (lv_sub hl [2, 1, 0] rfl)
  refine wq_key hf (fun e9 hf => ?_) (fun n4_7 hf => ?_)
  · refine lv_tableIn (off := 115) (tgt := 123) hx hb dX4_count_8 (by rw [e9]; decide) (by rw [e9]; decide) (by rw [e9]; rfl) (by decide) ?_
    refine lv_aload_n hx hb dX4_count_123 rfl (lv_at hl 1 rfl) ?_
    refine gf_X4_letterMany  hx hb hts hown hK hM tw_725 dX4_count_124 ?_
    exact wt_iret hx hb hr hlk hK hM hf dX4_count_127
  refine wq_key hf (fun e9 hf => ?_) (fun n4_8 hf => ?_)
  · refine lv_tableIn (off := 120) (tgt := 128) hx hb dX4_count_8 (by rw [e9]; decide) (by rw [e9]; decide) (by rw [e9]; rfl) (by decide) ?_
    refine lv_aload_n hx hb dX4_count_128 rfl (lv_at hl 1 rfl) ?_
    refine gf_X4_rowMany  hx hb hts hown hK hM tw_744 dX4_count_129 ?_
    exact wt_iret hx hb hr hlk hK hM hf dX4_count_132
  refine wq_key hf (fun e9 hf => ?_) (fun n4_9 hf => ?_)
  · refine lv_tableIn (off := 125) (tgt := 133) hx hb dX4_count_8 (by rw [e9]; decide) (by rw [e9]; decide) (by rw [e9]; rfl) (by decide) ?_
    refine lv_aload_n hx hb dX4_count_133 rfl (lv_at hl 1 rfl) ?_
    refine gf_X4_turned  hx hb hts hown hK hM tw_740 dX4_count_134 ?_
    exact wt_iret hx hb hr hlk hK hM hf dX4_count_137
  refine wq_tableD (ks := [(0 : Int32), (1 : Int32), (2 : Int32), (3 : Int32), (4 : Int32), (5 : Int32), (6 : Int32), (7 : Int32), (8 : Int32), (9 : Int32)]) (tgt := 138) hx hb dX4_count_8 (List.forall_mem_cons.mpr ⟨n4_0, List.forall_mem_cons.mpr ⟨n4_1, List.forall_mem_cons.mpr ⟨n4_2, List.forall_mem_cons.mpr ⟨n4_3, List.forall_mem_cons.mpr ⟨n4_4, List.forall_mem_cons.mpr ⟨n4_5, List.forall_mem_cons.mpr ⟨n4_6, List.forall_mem_cons.mpr ⟨n4_7, List.forall_mem_cons.mpr ⟨n4_8, List.forall_mem_cons.mpr ⟨n4_9, fun _ h9 => absurd h9 List.not_mem_nil⟩⟩⟩⟩⟩⟩⟩⟩⟩⟩) (by decide) (by decide) ?_
  refine lv_iload_n hx hb dX4_count_138 rfl (lv_at hl 2 rfl) ?_
  refine lv_i2l (v := (Int32.toInt64 x1)) hx hb dX4_count_139 rfl ?_
  refine lv_ldc2 (v := 11) hx hb hown (hts _ tw_1235) dX4_count_140 ?_
  refine lv_ldc2 (v := 16) hx hb hown (hts _ tw_1236) dX4_count_143 ?_
  refine wt_callSi (As := [.long (Int32.toInt64 x1), .long (11 : Int64), .long (16 : Int64)]) (rest := []) hx hb hml hts hown hK hM cw_X4_77 hd_X4_in rfl ⟨qz_b rfl, qz_b rfl⟩ ⟨rfl, rfl⟩ hl.1 rfl (qz_b rfl) dX4_count_146 hf (fun _ _ h9 => c_X4_in h9) (fun r11 s12 H locs hf hM => ?_)
  refine wq_if_eq (tgt := 164) hx hb dX4_count_149 (by decide) hf (fun hf => ?_) (fun hf => ?_)
  · refine lv_bipush (v := -9) hx hb dX4_count_164 (by decide) ?_
    exact wt_iret hx hb hr hlk hK hM hf dX4_count_166
  refine lv_aload_n hx hb dX4_count_152 rfl (lv_at hl 1 rfl) ?_
  refine gf_X4_refusals  hx hb hts hown hK hM tw_721 dX4_count_153 ?_
  refine lv_iload_n hx hb dX4_count_156 rfl (lv_at hl 2 rfl) ?_
  refine lv_bipush (v := 10) hx hb dX4_count_157 (by decide) ?_
  refine lv_isub hx hb dX4_count_159 ?_
  obtain ⟨i13, hf⟩ := wt_chk_of hf
  refine wt_ild hx hb hK hM wt_a108 i13 dX4_count_160 ?_
  refine lv_goto (tgt := 166) hx hb dX4_count_161 (by decide) ?_
  exact wt_iret hx hb hr hlk hK hM hf dX4_count_166
end
set_option maxHeartbeats 4000000 in
set_option maxRecDepth 100000 in
theorem c_X4_count {l : Launch} {D : va_G} {tI tII : ClassId} {B F : Nat} {x1 : Int32} {σ σ' : Mem} {r : Int32} (hf : f_X4_count F x1 σ = some (r, σ')) : wt_Mi l yX4_count cX4_count 4 (some .int) rm_X4_count [.ref (B + 101), .int x1] D tI tII B σ r σ' := by
  refine Met.ofW (cc := cX4_count) (maxL := 4) (ret := (some .int)) (by decide) rfl ?_
  intro p e s m args below meth c s₁ B9 hml hv
  obtain ⟨rfl, hP, hK⟩ := hv
  have hl := lv_entry ([.ref (B + 101), .int x1]) (n := 4) (qz_b rfl)
  rw [lg_entry_eq]
  generalize (lg_sl ([.ref (B + 101), .int x1]) ++ List.replicate (4 - (lg_sl ([.ref (B + 101), .int x1])).length) Slot.unset).toArray = ls at hl ⊢
  exact w_X4_count_0 (wt_C_of B9 hml hK) hf ⟨hP, va_S.rf⟩ hl
