theorem dX3_duels_0 : decode cX3_duels 0 = .ok (.aload_n 0, 1) := qd_p qo_42 (by decide +kernel)
theorem dX3_duels_1 : decode cX3_duels 1 = .ok (.iload_n 1, 1) := qd_p qo_27 (by decide +kernel)
theorem dX3_duels_2 : decode cX3_duels 2 = .ok (.iload_n 2, 1) := qd_p qo_28 (by decide +kernel)
theorem dX3_duels_3 : decode cX3_duels 3 = .ok (.invokevirtual 89, 3) := qz_2 .invokevirtual 0 89 qo_182 (by decide +kernel) rfl
theorem dX3_duels_6 : decode cX3_duels 6 = .ok (.istore_n 3, 1) := qd_p qo_62 (by decide +kernel)
theorem dX3_duels_7 : decode cX3_duels 7 = .ok (.iload_n 3, 1) := qd_p qo_29 (by decide +kernel)
theorem dX3_duels_8 : decode cX3_duels 8 = .ok (.ifCond .eq 9, 3) := qz_s2 (.ifCond .eq) 0 9 qo_153 (by decide +kernel) rfl
theorem dX3_duels_11 : decode cX3_duels 11 = .ok (.aload_n 0, 1) := qd_p qo_42 (by decide +kernel)
theorem dX3_duels_12 : decode cX3_duels 12 = .ok (.iload_n 3, 1) := qd_p qo_29 (by decide +kernel)
theorem dX3_duels_13 : decode cX3_duels 13 = .ok (.invokevirtual 61, 3) := qz_2 .invokevirtual 0 61 qo_182 (by decide +kernel) rfl
theorem dX3_duels_16 : decode cX3_duels 16 = .ok (.ireturn, 1) := qd_p qo_172 (by decide +kernel)
theorem dX3_duels_17 : decode cX3_duels 17 = .ok (.aload_n 0, 1) := qd_p qo_42 (by decide +kernel)
theorem dX3_duels_18 : decode cX3_duels 18 = .ok (.getfield 10, 3) := qz_2 .getfield 0 10 qo_180 (by decide +kernel) rfl
theorem dX3_duels_21 : decode cX3_duels 21 = .ok (.invokevirtual 141, 3) := qz_2 .invokevirtual 0 141 qo_182 (by decide +kernel) rfl
theorem dX3_duels_24 : decode cX3_duels 24 = .ok (.iconst 0, 1) := qd_p qo_3 (by decide +kernel)
theorem dX3_duels_25 : decode cX3_duels 25 = .ok (.istore 4, 2) := qz_1 .istore 4 qo_54 (by decide +kernel)
theorem dX3_duels_27 : decode cX3_duels 27 = .ok (.iconst 0, 1) := qd_p qo_3 (by decide +kernel)
theorem dX3_duels_28 : decode cX3_duels 28 = .ok (.istore 5, 2) := qz_1 .istore 5 qo_54 (by decide +kernel)
theorem dX3_duels_30 : decode cX3_duels 30 = .ok (.iload 5, 2) := qz_1 .iload 5 qo_21 (by decide +kernel)
theorem dX3_duels_32 : decode cX3_duels 32 = .ok (.bipush 8, 2) := qz_s1 .bipush 8 qo_16 (by decide +kernel) rfl
theorem dX3_duels_34 : decode cX3_duels 34 = .ok (.if_icmp .ge 42, 3) := qz_s2 (.if_icmp .ge) 0 42 qo_162 (by decide +kernel) rfl
theorem dX3_duels_37 : decode cX3_duels 37 = .ok (.aload_n 0, 1) := qd_p qo_42 (by decide +kernel)
theorem dX3_duels_38 : decode cX3_duels 38 = .ok (.getfield 10, 3) := qz_2 .getfield 0 10 qo_180 (by decide +kernel) rfl
theorem dX3_duels_41 : decode cX3_duels 41 = .ok (.getfield 220, 3) := qz_2 .getfield 0 220 qo_180 (by decide +kernel) rfl
theorem dX3_duels_44 : decode cX3_duels 44 = .ok (.iload_n 1, 1) := qd_p qo_27 (by decide +kernel)
theorem dX3_duels_45 : decode cX3_duels 45 = .ok (.aaload, 1) := qd_p qo_50 (by decide +kernel)
theorem dX3_duels_46 : decode cX3_duels 46 = .ok (.iload 5, 2) := qz_1 .iload 5 qo_21 (by decide +kernel)
theorem dX3_duels_48 : decode cX3_duels 48 = .ok (.iaload, 1) := qd_p qo_46 (by decide +kernel)
theorem dX3_duels_49 : decode cX3_duels 49 = .ok (.ifCond .le 21, 3) := qz_s2 (.ifCond .le) 0 21 qo_158 (by decide +kernel) rfl
theorem dX3_duels_52 : decode cX3_duels 52 = .ok (.aload_n 0, 1) := qd_p qo_42 (by decide +kernel)
theorem dX3_duels_53 : decode cX3_duels 53 = .ok (.getfield 10, 3) := qz_2 .getfield 0 10 qo_180 (by decide +kernel) rfl
theorem dX3_duels_56 : decode cX3_duels 56 = .ok (.getfield 220, 3) := qz_2 .getfield 0 220 qo_180 (by decide +kernel) rfl
theorem dX3_duels_59 : decode cX3_duels 59 = .ok (.iload_n 2, 1) := qd_p qo_28 (by decide +kernel)
theorem dX3_duels_60 : decode cX3_duels 60 = .ok (.aaload, 1) := qd_p qo_50 (by decide +kernel)
theorem dX3_duels_61 : decode cX3_duels 61 = .ok (.iload 5, 2) := qz_1 .iload 5 qo_21 (by decide +kernel)
theorem dX3_duels_63 : decode cX3_duels 63 = .ok (.iaload, 1) := qd_p qo_46 (by decide +kernel)
theorem dX3_duels_64 : decode cX3_duels 64 = .ok (.ifCond .le 6, 3) := qz_s2 (.ifCond .le) 0 6 qo_158 (by decide +kernel) rfl
theorem dX3_duels_67 : decode cX3_duels 67 = .ok (.iinc 4 1, 3) := qd_i (x := 4) (y := 1) qo_132 (by decide +kernel) rfl
theorem dX3_duels_70 : decode cX3_duels 70 = .ok (.iinc 5 1, 3) := qd_i (x := 5) (y := 1) qo_132 (by decide +kernel) rfl
theorem dX3_duels_73 : decode cX3_duels 73 = .ok (.goto (-43), 3) := qz_s2 .goto 255 213 qo_167 (by decide +kernel) rfl
theorem dX3_duels_76 : decode cX3_duels 76 = .ok (.iload 4, 2) := qz_1 .iload 4 qo_21 (by decide +kernel)
theorem dX3_duels_78 : decode cX3_duels 78 = .ok (.ireturn, 1) := qd_p qo_172 (by decide +kernel)
theorem dX3_row_0 : decode cX3_row 0 = .ok (.iload_n 1, 1) := qd_p qo_27 (by decide +kernel)
theorem dX3_row_1 : decode cX3_row 1 = .ok (.iconst 0, 1) := qd_p qo_3 (by decide +kernel)
theorem dX3_row_2 : decode cX3_row 2 = .ok (.bipush 99, 2) := qz_s1 .bipush 99 qo_16 (by decide +kernel) rfl
theorem dX3_row_4 : decode cX3_row 4 = .ok (.invokestatic 81, 3) := qz_2 .invokestatic 0 81 qo_184 (by decide +kernel) rfl
theorem dX3_row_7 : decode cX3_row 7 = .ok (.istore_n 2, 1) := qd_p qo_61 (by decide +kernel)
theorem dX3_row_8 : decode cX3_row 8 = .ok (.iload_n 2, 1) := qd_p qo_28 (by decide +kernel)
theorem dX3_row_9 : decode cX3_row 9 = .ok (.ifCond .ne 15, 3) := qz_s2 (.ifCond .ne) 0 15 qo_154 (by decide +kernel) rfl
theorem dX3_row_12 : decode cX3_row 12 = .ok (.aload_n 0, 1) := qd_p qo_42 (by decide +kernel)
theorem dX3_row_13 : decode cX3_row 13 = .ok (.getfield 44, 3) := qz_2 .getfield 0 44 qo_180 (by decide +kernel) rfl
theorem dX3_row_16 : decode cX3_row 16 = .ok (.bipush 12, 2) := qz_s1 .bipush 12 qo_16 (by decide +kernel) rfl
theorem dX3_row_18 : decode cX3_row 18 = .ok (.if_icmp .lt 6, 3) := qz_s2 (.if_icmp .lt) 0 6 qo_161 (by decide +kernel) rfl
theorem dX3_row_21 : decode cX3_row 21 = .ok (.bipush (-6), 2) := qz_s1 .bipush 250 qo_16 (by decide +kernel) rfl
theorem dX3_row_23 : decode cX3_row 23 = .ok (.istore_n 2, 1) := qd_p qo_61 (by decide +kernel)
theorem dX3_row_24 : decode cX3_row 24 = .ok (.iload_n 2, 1) := qd_p qo_28 (by decide +kernel)
theorem dX3_row_25 : decode cX3_row 25 = .ok (.ifCond .eq 9, 3) := qz_s2 (.ifCond .eq) 0 9 qo_153 (by decide +kernel) rfl
theorem dX3_row_28 : decode cX3_row 28 = .ok (.aload_n 0, 1) := qd_p qo_42 (by decide +kernel)
theorem dX3_row_29 : decode cX3_row 29 = .ok (.iload_n 2, 1) := qd_p qo_28 (by decide +kernel)
theorem dX3_row_30 : decode cX3_row 30 = .ok (.invokevirtual 61, 3) := qz_2 .invokevirtual 0 61 qo_182 (by decide +kernel) rfl
theorem dX3_row_33 : decode cX3_row 33 = .ok (.ireturn, 1) := qd_p qo_172 (by decide +kernel)
theorem dX3_row_34 : decode cX3_row 34 = .ok (.aload_n 0, 1) := qd_p qo_42 (by decide +kernel)
theorem dX3_row_35 : decode cX3_row 35 = .ok (.getfield 40, 3) := qz_2 .getfield 0 40 qo_180 (by decide +kernel) rfl
theorem dX3_row_38 : decode cX3_row 38 = .ok (.aload_n 0, 1) := qd_p qo_42 (by decide +kernel)
theorem dX3_row_39 : decode cX3_row 39 = .ok (.getfield 44, 3) := qz_2 .getfield 0 44 qo_180 (by decide +kernel) rfl
theorem dX3_row_42 : decode cX3_row 42 = .ok (.iload_n 1, 1) := qd_p qo_27 (by decide +kernel)
theorem dX3_row_43 : decode cX3_row 43 = .ok (.iastore, 1) := qd_p qo_79 (by decide +kernel)
theorem dX3_row_44 : decode cX3_row 44 = .ok (.aload_n 0, 1) := qd_p qo_42 (by decide +kernel)
theorem dX3_row_45 : decode cX3_row 45 = .ok (.dup, 1) := qd_p qo_89 (by decide +kernel)
theorem dX3_row_46 : decode cX3_row 46 = .ok (.getfield 44, 3) := qz_2 .getfield 0 44 qo_180 (by decide +kernel) rfl
theorem dX3_row_49 : decode cX3_row 49 = .ok (.iconst 1, 1) := qd_p qo_4 (by decide +kernel)
theorem dX3_row_50 : decode cX3_row 50 = .ok (.iadd, 1) := qd_p qo_96 (by decide +kernel)
theorem dX3_row_51 : decode cX3_row 51 = .ok (.putfield 44, 3) := qz_2 .putfield 0 44 qo_181 (by decide +kernel) rfl
theorem dX3_row_54 : decode cX3_row 54 = .ok (.aload_n 0, 1) := qd_p qo_42 (by decide +kernel)
theorem dX3_row_55 : decode cX3_row 55 = .ok (.getfield 44, 3) := qz_2 .getfield 0 44 qo_180 (by decide +kernel) rfl
theorem dX3_row_58 : decode cX3_row 58 = .ok (.ireturn, 1) := qd_p qo_172 (by decide +kernel)
theorem dX3_judge_0 : decode cX3_judge 0 = .ok (.iload_n 1, 1) := qd_p qo_27 (by decide +kernel)
theorem dX3_judge_1 : decode cX3_judge 1 = .ok (.invokestatic 65, 3) := qz_2 .invokestatic 0 65 qo_184 (by decide +kernel) rfl
theorem dX3_judge_4 : decode cX3_judge 4 = .ok (.ifCond .ne 9, 3) := qz_s2 (.ifCond .ne) 0 9 qo_154 (by decide +kernel) rfl
theorem dX3_judge_7 : decode cX3_judge 7 = .ok (.aload_n 0, 1) := qd_p qo_42 (by decide +kernel)
theorem dX3_judge_8 : decode cX3_judge 8 = .ok (.iconst (-1), 1) := qd_p qo_2 (by decide +kernel)
theorem dX3_judge_9 : decode cX3_judge 9 = .ok (.invokevirtual 61, 3) := qz_2 .invokevirtual 0 61 qo_182 (by decide +kernel) rfl
theorem dX3_judge_12 : decode cX3_judge 12 = .ok (.ireturn, 1) := qd_p qo_172 (by decide +kernel)
theorem dX3_judge_13 : decode cX3_judge 13 = .ok (.aload_n 0, 1) := qd_p qo_42 (by decide +kernel)
theorem dX3_judge_14 : decode cX3_judge 14 = .ok (.getfield 10, 3) := qz_2 .getfield 0 10 qo_180 (by decide +kernel) rfl
theorem dX3_judge_17 : decode cX3_judge 17 = .ok (.invokevirtual 141, 3) := qz_2 .invokevirtual 0 141 qo_182 (by decide +kernel) rfl
theorem dX3_judge_20 : decode cX3_judge 20 = .ok (.bipush (-9), 2) := qz_s1 .bipush 247 qo_16 (by decide +kernel) rfl
theorem dX3_judge_22 : decode cX3_judge 22 = .ok (.istore_n 2, 1) := qd_p qo_61 (by decide +kernel)
theorem dX3_judge_23 : decode cX3_judge 23 = .ok (.iconst 0, 1) := qd_p qo_3 (by decide +kernel)
theorem dX3_judge_24 : decode cX3_judge 24 = .ok (.istore_n 3, 1) := qd_p qo_62 (by decide +kernel)
theorem dX3_judge_25 : decode cX3_judge 25 = .ok (.iload_n 3, 1) := qd_p qo_29 (by decide +kernel)
theorem dX3_judge_26 : decode cX3_judge 26 = .ok (.aload_n 0, 1) := qd_p qo_42 (by decide +kernel)
theorem dX3_judge_27 : decode cX3_judge 27 = .ok (.getfield 44, 3) := qz_2 .getfield 0 44 qo_180 (by decide +kernel) rfl
theorem dX3_judge_30 : decode cX3_judge 30 = .ok (.if_icmp .ge 38, 3) := qz_s2 (.if_icmp .ge) 0 38 qo_162 (by decide +kernel) rfl
theorem dX3_judge_33 : decode cX3_judge 33 = .ok (.iload_n 2, 1) := qd_p qo_28 (by decide +kernel)
theorem dX3_judge_34 : decode cX3_judge 34 = .ok (.bipush (-9), 2) := qz_s1 .bipush 247 qo_16 (by decide +kernel) rfl
theorem dX3_judge_36 : decode cX3_judge 36 = .ok (.if_icmp .ne 32, 3) := qz_s2 (.if_icmp .ne) 0 32 qo_160 (by decide +kernel) rfl
theorem dX3_judge_39 : decode cX3_judge 39 = .ok (.aload_n 0, 1) := qd_p qo_42 (by decide +kernel)
theorem dX3_judge_40 : decode cX3_judge 40 = .ok (.getfield 40, 3) := qz_2 .getfield 0 40 qo_180 (by decide +kernel) rfl
theorem dX3_judge_43 : decode cX3_judge 43 = .ok (.iload_n 3, 1) := qd_p qo_29 (by decide +kernel)
theorem dX3_judge_44 : decode cX3_judge 44 = .ok (.iaload, 1) := qd_p qo_46 (by decide +kernel)
theorem dX3_judge_45 : decode cX3_judge 45 = .ok (.aload_n 0, 1) := qd_p qo_42 (by decide +kernel)
theorem dX3_judge_46 : decode cX3_judge 46 = .ok (.getfield 10, 3) := qz_2 .getfield 0 10 qo_180 (by decide +kernel) rfl
theorem dX3_judge_49 : decode cX3_judge 49 = .ok (.iload_n 1, 1) := qd_p qo_27 (by decide +kernel)
theorem dX3_judge_50 : decode cX3_judge 50 = .ok (.iload_n 3, 1) := qd_p qo_29 (by decide +kernel)
theorem dX3_judge_51 : decode cX3_judge 51 = .ok (.invokevirtual 223, 3) := qz_2 .invokevirtual 0 223 qo_182 (by decide +kernel) rfl
theorem dX3_judge_54 : decode cX3_judge 54 = .ok (.invokestatic 281, 3) := qz_2 .invokestatic 1 25 qo_184 (by decide +kernel) rfl
theorem dX3_judge_57 : decode cX3_judge 57 = .ok (.if_icmp .eq 5, 3) := qz_s2 (.if_icmp .eq) 0 5 qo_159 (by decide +kernel) rfl
theorem dX3_judge_60 : decode cX3_judge 60 = .ok (.iload_n 3, 1) := qd_p qo_29 (by decide +kernel)
theorem dX3_judge_61 : decode cX3_judge 61 = .ok (.istore_n 2, 1) := qd_p qo_61 (by decide +kernel)
theorem dX3_judge_62 : decode cX3_judge 62 = .ok (.iinc 3 1, 3) := qd_i (x := 3) (y := 1) qo_132 (by decide +kernel) rfl
theorem dX3_judge_65 : decode cX3_judge 65 = .ok (.goto (-40), 3) := qz_s2 .goto 255 216 qo_167 (by decide +kernel) rfl
theorem dX3_judge_68 : decode cX3_judge 68 = .ok (.aload_n 0, 1) := qd_p qo_42 (by decide +kernel)
theorem dX3_judge_69 : decode cX3_judge 69 = .ok (.iconst 0, 1) := qd_p qo_3 (by decide +kernel)
theorem dX3_judge_70 : decode cX3_judge 70 = .ok (.putfield 44, 3) := qz_2 .putfield 0 44 qo_181 (by decide +kernel) rfl
theorem dX3_judge_73 : decode cX3_judge 73 = .ok (.iload_n 2, 1) := qd_p qo_28 (by decide +kernel)
theorem dX3_judge_74 : decode cX3_judge 74 = .ok (.ireturn, 1) := qd_p qo_172 (by decide +kernel)
theorem dX3_clear_0 : decode cX3_clear 0 = .ok (.aload_n 0, 1) := qd_p qo_42 (by decide +kernel)
theorem dX3_clear_1 : decode cX3_clear 1 = .ok (.getfield 44, 3) := qz_2 .getfield 0 44 qo_180 (by decide +kernel) rfl
theorem dX3_clear_4 : decode cX3_clear 4 = .ok (.istore_n 1, 1) := qd_p qo_60 (by decide +kernel)
theorem dX3_clear_5 : decode cX3_clear 5 = .ok (.aload_n 0, 1) := qd_p qo_42 (by decide +kernel)
theorem dX3_clear_6 : decode cX3_clear 6 = .ok (.iconst 0, 1) := qd_p qo_3 (by decide +kernel)
theorem dX3_clear_7 : decode cX3_clear 7 = .ok (.putfield 44, 3) := qz_2 .putfield 0 44 qo_181 (by decide +kernel) rfl
theorem dX3_clear_10 : decode cX3_clear 10 = .ok (.iload_n 1, 1) := qd_p qo_27 (by decide +kernel)
theorem dX3_clear_11 : decode cX3_clear 11 = .ok (.ireturn, 1) := qd_p qo_172 (by decide +kernel)
theorem dX3_nextSeed_0 : decode cX3_nextSeed 0 = .ok (.iload_n 0, 1) := qd_p qo_26 (by decide +kernel)
theorem dX3_nextSeed_1 : decode cX3_nextSeed 1 = .ok (.ldc_w 332, 3) := qz_2 .ldc_w 1 76 qo_19 (by decide +kernel) rfl
theorem dX3_nextSeed_4 : decode cX3_nextSeed 4 = .ok (.imul, 1) := qd_p qo_104 (by decide +kernel)
theorem dX3_nextSeed_5 : decode cX3_nextSeed 5 = .ok (.sipush 12345, 3) := qz_s2 .sipush 48 57 qo_17 (by decide +kernel) rfl
theorem dX3_nextSeed_8 : decode cX3_nextSeed 8 = .ok (.iadd, 1) := qd_p qo_96 (by decide +kernel)
theorem dX3_nextSeed_9 : decode cX3_nextSeed 9 = .ok (.ireturn, 1) := qd_p qo_172 (by decide +kernel)
theorem dX3_drawBelow_0 : decode cX3_drawBelow 0 = .ok (.iload_n 1, 1) := qd_p qo_27 (by decide +kernel)
theorem dX3_drawBelow_1 : decode cX3_drawBelow 1 = .ok (.ifCond .gt 7, 3) := qz_s2 (.ifCond .gt) 0 7 qo_157 (by decide +kernel) rfl
theorem dX3_drawBelow_4 : decode cX3_drawBelow 4 = .ok (.iconst 0, 1) := qd_p qo_3 (by decide +kernel)
theorem dX3_drawBelow_5 : decode cX3_drawBelow 5 = .ok (.goto 14, 3) := qz_s2 .goto 0 14 qo_167 (by decide +kernel) rfl
theorem dX3_drawBelow_8 : decode cX3_drawBelow 8 = .ok (.iload_n 0, 1) := qd_p qo_26 (by decide +kernel)
theorem dX3_drawBelow_9 : decode cX3_drawBelow 9 = .ok (.ldc_w 333, 3) := qz_2 .ldc_w 1 77 qo_19 (by decide +kernel) rfl
theorem dX3_drawBelow_12 : decode cX3_drawBelow 12 = .ok (.iand, 1) := qd_p qo_126 (by decide +kernel)
theorem dX3_drawBelow_13 : decode cX3_drawBelow 13 = .ok (.ldc_w 334, 3) := qz_2 .ldc_w 1 78 qo_19 (by decide +kernel) rfl
theorem dX3_drawBelow_16 : decode cX3_drawBelow 16 = .ok (.idiv, 1) := qd_p qo_108 (by decide +kernel)
theorem dX3_drawBelow_17 : decode cX3_drawBelow 17 = .ok (.iload_n 1, 1) := qd_p qo_27 (by decide +kernel)
theorem dX3_drawBelow_18 : decode cX3_drawBelow 18 = .ok (.irem, 1) := qd_p qo_112 (by decide +kernel)
theorem dX3_drawBelow_19 : decode cX3_drawBelow 19 = .ok (.ireturn, 1) := qd_p qo_172 (by decide +kernel)
theorem dX3_castRosters_0 : decode cX3_castRosters 0 = .ok (.iload_n 1, 1) := qd_p qo_27 (by decide +kernel)
theorem dX3_castRosters_1 : decode cX3_castRosters 1 = .ok (.istore_n 2, 1) := qd_p qo_61 (by decide +kernel)
theorem dX3_castRosters_2 : decode cX3_castRosters 2 = .ok (.iconst 0, 1) := qd_p qo_3 (by decide +kernel)
theorem dX3_castRosters_3 : decode cX3_castRosters 3 = .ok (.istore_n 3, 1) := qd_p qo_62 (by decide +kernel)
theorem dX3_castRosters_4 : decode cX3_castRosters 4 = .ok (.iload_n 3, 1) := qd_p qo_29 (by decide +kernel)
theorem dX3_castRosters_5 : decode cX3_castRosters 5 = .ok (.aload_n 0, 1) := qd_p qo_42 (by decide +kernel)
theorem dX3_castRosters_6 : decode cX3_castRosters 6 = .ok (.getfield 16, 3) := qz_2 .getfield 0 16 qo_180 (by decide +kernel) rfl
theorem dX3_castRosters_9 : decode cX3_castRosters 9 = .ok (.getfield 153, 3) := qz_2 .getfield 0 153 qo_180 (by decide +kernel) rfl
theorem dX3_castRosters_12 : decode cX3_castRosters 12 = .ok (.if_icmp .ge 93, 3) := qz_s2 (.if_icmp .ge) 0 93 qo_162 (by decide +kernel) rfl
theorem dX3_castRosters_15 : decode cX3_castRosters 15 = .ok (.aload_n 0, 1) := qd_p qo_42 (by decide +kernel)
theorem dX3_castRosters_16 : decode cX3_castRosters 16 = .ok (.getfield 16, 3) := qz_2 .getfield 0 16 qo_180 (by decide +kernel) rfl
theorem dX3_castRosters_19 : decode cX3_castRosters 19 = .ok (.iload_n 3, 1) := qd_p qo_29 (by decide +kernel)
theorem dX3_castRosters_20 : decode cX3_castRosters 20 = .ok (.iconst 0, 1) := qd_p qo_3 (by decide +kernel)
theorem dX3_castRosters_21 : decode cX3_castRosters 21 = .ok (.bipush 23, 2) := qz_s1 .bipush 23 qo_16 (by decide +kernel) rfl
theorem dX3_castRosters_23 : decode cX3_castRosters 23 = .ok (.bipush 9, 2) := qz_s1 .bipush 9 qo_16 (by decide +kernel) rfl
theorem dX3_castRosters_25 : decode cX3_castRosters 25 = .ok (.invokevirtual 170, 3) := qz_2 .invokevirtual 0 170 qo_182 (by decide +kernel) rfl
theorem dX3_castRosters_28 : decode cX3_castRosters 28 = .ok (.pop, 1) := qd_p qo_87 (by decide +kernel)
theorem dX3_castRosters_29 : decode cX3_castRosters 29 = .ok (.iconst 0, 1) := qd_p qo_3 (by decide +kernel)
theorem dX3_castRosters_30 : decode cX3_castRosters 30 = .ok (.istore 4, 2) := qz_1 .istore 4 qo_54 (by decide +kernel)
theorem dX3_castRosters_32 : decode cX3_castRosters 32 = .ok (.iload 4, 2) := qz_1 .iload 4 qo_21 (by decide +kernel)
theorem dX3_castRosters_34 : decode cX3_castRosters 34 = .ok (.iconst 4, 1) := qd_p qo_7 (by decide +kernel)
theorem dX3_castRosters_35 : decode cX3_castRosters 35 = .ok (.if_icmp .ge 64, 3) := qz_s2 (.if_icmp .ge) 0 64 qo_162 (by decide +kernel) rfl
theorem dX3_castRosters_38 : decode cX3_castRosters 38 = .ok (.iload_n 2, 1) := qd_p qo_28 (by decide +kernel)
theorem dX3_castRosters_39 : decode cX3_castRosters 39 = .ok (.invokestatic 321, 3) := qz_2 .invokestatic 1 65 qo_184 (by decide +kernel) rfl
theorem dX3_castRosters_42 : decode cX3_castRosters 42 = .ok (.istore_n 2, 1) := qd_p qo_61 (by decide +kernel)
theorem dX3_castRosters_43 : decode cX3_castRosters 43 = .ok (.iload_n 2, 1) := qd_p qo_28 (by decide +kernel)
theorem dX3_castRosters_44 : decode cX3_castRosters 44 = .ok (.bipush 24, 2) := qz_s1 .bipush 24 qo_16 (by decide +kernel) rfl
theorem dX3_castRosters_46 : decode cX3_castRosters 46 = .ok (.invokestatic 324, 3) := qz_2 .invokestatic 1 68 qo_184 (by decide +kernel) rfl
theorem dX3_castRosters_49 : decode cX3_castRosters 49 = .ok (.istore 5, 2) := qz_1 .istore 5 qo_54 (by decide +kernel)
theorem dX3_castRosters_51 : decode cX3_castRosters 51 = .ok (.iload_n 2, 1) := qd_p qo_28 (by decide +kernel)
theorem dX3_castRosters_52 : decode cX3_castRosters 52 = .ok (.invokestatic 321, 3) := qz_2 .invokestatic 1 65 qo_184 (by decide +kernel) rfl
theorem dX3_castRosters_55 : decode cX3_castRosters 55 = .ok (.istore_n 2, 1) := qd_p qo_61 (by decide +kernel)
theorem dX3_castRosters_56 : decode cX3_castRosters 56 = .ok (.iload 5, 2) := qz_1 .iload 5 qo_21 (by decide +kernel)
theorem dX3_castRosters_58 : decode cX3_castRosters 58 = .ok (.iconst 4, 1) := qd_p qo_7 (by decide +kernel)
theorem dX3_castRosters_59 : decode cX3_castRosters 59 = .ok (.iadd, 1) := qd_p qo_96 (by decide +kernel)
theorem dX3_castRosters_60 : decode cX3_castRosters 60 = .ok (.iconst 1, 1) := qd_p qo_4 (by decide +kernel)
theorem dX3_castRosters_61 : decode cX3_castRosters 61 = .ok (.isub, 1) := qd_p qo_100 (by decide +kernel)
theorem dX3_castRosters_62 : decode cX3_castRosters 62 = .ok (.bipush 23, 2) := qz_s1 .bipush 23 qo_16 (by decide +kernel) rfl
theorem dX3_castRosters_64 : decode cX3_castRosters 64 = .ok (.invokestatic 327, 3) := qz_2 .invokestatic 1 71 qo_184 (by decide +kernel) rfl
theorem dX3_castRosters_67 : decode cX3_castRosters 67 = .ok (.istore 6, 2) := qz_1 .istore 6 qo_54 (by decide +kernel)
theorem dX3_castRosters_69 : decode cX3_castRosters 69 = .ok (.aload_n 0, 1) := qd_p qo_42 (by decide +kernel)
theorem dX3_castRosters_70 : decode cX3_castRosters 70 = .ok (.getfield 16, 3) := qz_2 .getfield 0 16 qo_180 (by decide +kernel) rfl
theorem dX3_castRosters_73 : decode cX3_castRosters 73 = .ok (.iload_n 3, 1) := qd_p qo_29 (by decide +kernel)
theorem dX3_castRosters_74 : decode cX3_castRosters 74 = .ok (.iload 5, 2) := qz_1 .iload 5 qo_21 (by decide +kernel)
theorem dX3_castRosters_76 : decode cX3_castRosters 76 = .ok (.iload 6, 2) := qz_1 .iload 6 qo_21 (by decide +kernel)
theorem dX3_castRosters_78 : decode cX3_castRosters 78 = .ok (.iload_n 2, 1) := qd_p qo_28 (by decide +kernel)
theorem dX3_castRosters_79 : decode cX3_castRosters 79 = .ok (.aload_n 0, 1) := qd_p qo_42 (by decide +kernel)
theorem dX3_castRosters_80 : decode cX3_castRosters 80 = .ok (.getfield 16, 3) := qz_2 .getfield 0 16 qo_180 (by decide +kernel) rfl
theorem dX3_castRosters_83 : decode cX3_castRosters 83 = .ok (.getfield 147, 3) := qz_2 .getfield 0 147 qo_180 (by decide +kernel) rfl
theorem dX3_castRosters_86 : decode cX3_castRosters 86 = .ok (.invokestatic 324, 3) := qz_2 .invokestatic 1 68 qo_184 (by decide +kernel) rfl
theorem dX3_castRosters_89 : decode cX3_castRosters 89 = .ok (.invokevirtual 170, 3) := qz_2 .invokevirtual 0 170 qo_182 (by decide +kernel) rfl
theorem dX3_castRosters_92 : decode cX3_castRosters 92 = .ok (.pop, 1) := qd_p qo_87 (by decide +kernel)
theorem dX3_castRosters_93 : decode cX3_castRosters 93 = .ok (.iinc 4 1, 3) := qd_i (x := 4) (y := 1) qo_132 (by decide +kernel) rfl
theorem dX3_castRosters_96 : decode cX3_castRosters 96 = .ok (.goto (-64), 3) := qz_s2 .goto 255 192 qo_167 (by decide +kernel) rfl
theorem dX3_castRosters_99 : decode cX3_castRosters 99 = .ok (.iinc 3 1, 3) := qd_i (x := 3) (y := 1) qo_132 (by decide +kernel) rfl
theorem dX3_castRosters_102 : decode cX3_castRosters 102 = .ok (.goto (-98), 3) := qz_s2 .goto 255 158 qo_167 (by decide +kernel) rfl
theorem dX3_castRosters_105 : decode cX3_castRosters 105 = .ok (.iload_n 2, 1) := qd_p qo_28 (by decide +kernel)
theorem dX3_castRosters_106 : decode cX3_castRosters 106 = .ok (.ireturn, 1) := qd_p qo_172 (by decide +kernel)
theorem dX3_lots_0 : decode cX3_lots 0 = .ok (.iload_n 1, 1) := qd_p qo_27 (by decide +kernel)
theorem dX3_lots_1 : decode cX3_lots 1 = .ok (.iconst 1, 1) := qd_p qo_4 (by decide +kernel)
theorem dX3_lots_2 : decode cX3_lots 2 = .ok (.bipush 20, 2) := qz_s1 .bipush 20 qo_16 (by decide +kernel) rfl
theorem dX3_lots_4 : decode cX3_lots 4 = .ok (.invokestatic 81, 3) := qz_2 .invokestatic 0 81 qo_184 (by decide +kernel) rfl
theorem dX3_lots_7 : decode cX3_lots 7 = .ok (.iload_n 3, 1) := qd_p qo_29 (by decide +kernel)
theorem dX3_lots_8 : decode cX3_lots 8 = .ok (.iconst 2, 1) := qd_p qo_5 (by decide +kernel)
theorem dX3_lots_9 : decode cX3_lots 9 = .ok (.invokestatic 123, 3) := qz_2 .invokestatic 0 123 qo_184 (by decide +kernel) rfl
theorem dX3_lots_12 : decode cX3_lots 12 = .ok (.invokestatic 85, 3) := qz_2 .invokestatic 0 85 qo_184 (by decide +kernel) rfl
theorem dX3_lots_15 : decode cX3_lots 15 = .ok (.istore 4, 2) := qz_1 .istore 4 qo_54 (by decide +kernel)
theorem dX3_lots_17 : decode cX3_lots 17 = .ok (.iload 4, 2) := qz_1 .iload 4 qo_21 (by decide +kernel)
theorem dX3_lots_19 : decode cX3_lots 19 = .ok (.ifCond .eq 10, 3) := qz_s2 (.ifCond .eq) 0 10 qo_153 (by decide +kernel) rfl
theorem dX3_lots_22 : decode cX3_lots 22 = .ok (.aload_n 0, 1) := qd_p qo_42 (by decide +kernel)
theorem dX3_lots_23 : decode cX3_lots 23 = .ok (.iload 4, 2) := qz_1 .iload 4 qo_21 (by decide +kernel)
theorem dX3_lots_25 : decode cX3_lots 25 = .ok (.invokevirtual 61, 3) := qz_2 .invokevirtual 0 61 qo_182 (by decide +kernel) rfl
theorem dX3_lots_28 : decode cX3_lots 28 = .ok (.ireturn, 1) := qd_p qo_172 (by decide +kernel)
theorem dX3_lots_29 : decode cX3_lots 29 = .ok (.aload_n 0, 1) := qd_p qo_42 (by decide +kernel)
theorem dX3_lots_30 : decode cX3_lots 30 = .ok (.getfield 10, 3) := qz_2 .getfield 0 10 qo_180 (by decide +kernel) rfl
theorem dX3_lots_33 : decode cX3_lots 33 = .ok (.getfield 147, 3) := qz_2 .getfield 0 147 qo_180 (by decide +kernel) rfl
theorem dX3_lots_36 : decode cX3_lots 36 = .ok (.ifCond .ne 5, 3) := qz_s2 (.ifCond .ne) 0 5 qo_154 (by decide +kernel) rfl
theorem dX3_lots_39 : decode cX3_lots 39 = .ok (.iconst 0, 1) := qd_p qo_3 (by decide +kernel)
theorem dX3_lots_40 : decode cX3_lots 40 = .ok (.ireturn, 1) := qd_p qo_172 (by decide +kernel)
theorem dX3_lots_41 : decode cX3_lots 41 = .ok (.aload_n 0, 1) := qd_p qo_42 (by decide +kernel)
theorem dX3_lots_42 : decode cX3_lots 42 = .ok (.getfield 16, 3) := qz_2 .getfield 0 16 qo_180 (by decide +kernel) rfl
theorem dX3_lots_45 : decode cX3_lots 45 = .ok (.aload_n 0, 1) := qd_p qo_42 (by decide +kernel)
theorem dX3_lots_46 : decode cX3_lots 46 = .ok (.getfield 10, 3) := qz_2 .getfield 0 10 qo_180 (by decide +kernel) rfl
theorem dX3_lots_49 : decode cX3_lots 49 = .ok (.invokevirtual 106, 3) := qz_2 .invokevirtual 0 106 qo_182 (by decide +kernel) rfl
theorem dX3_lots_52 : decode cX3_lots 52 = .ok (.iload_n 2, 1) := qd_p qo_28 (by decide +kernel)
theorem dX3_lots_53 : decode cX3_lots 53 = .ok (.istore 5, 2) := qz_1 .istore 5 qo_54 (by decide +kernel)
theorem dX3_lots_55 : decode cX3_lots 55 = .ok (.iconst 0, 1) := qd_p qo_3 (by decide +kernel)
theorem dX3_lots_56 : decode cX3_lots 56 = .ok (.istore 6, 2) := qz_1 .istore 6 qo_54 (by decide +kernel)
theorem dX3_lots_58 : decode cX3_lots 58 = .ok (.iconst 0, 1) := qd_p qo_3 (by decide +kernel)
theorem dX3_lots_59 : decode cX3_lots 59 = .ok (.istore 7, 2) := qz_1 .istore 7 qo_54 (by decide +kernel)
theorem dX3_lots_61 : decode cX3_lots 61 = .ok (.iload 7, 2) := qz_1 .iload 7 qo_21 (by decide +kernel)
theorem dX3_lots_63 : decode cX3_lots 63 = .ok (.iload_n 1, 1) := qd_p qo_27 (by decide +kernel)
theorem dX3_lots_64 : decode cX3_lots 64 = .ok (.if_icmp .ge 82, 3) := qz_s2 (.if_icmp .ge) 0 82 qo_162 (by decide +kernel) rfl
theorem dX3_lots_67 : decode cX3_lots 67 = .ok (.aload_n 0, 1) := qd_p qo_42 (by decide +kernel)
theorem dX3_lots_68 : decode cX3_lots 68 = .ok (.iload 5, 2) := qz_1 .iload 5 qo_21 (by decide +kernel)
theorem dX3_lots_70 : decode cX3_lots 70 = .ok (.invokevirtual 318, 3) := qz_2 .invokevirtual 1 62 qo_182 (by decide +kernel) rfl
theorem dX3_lots_73 : decode cX3_lots 73 = .ok (.istore 5, 2) := qz_1 .istore 5 qo_54 (by decide +kernel)
theorem dX3_lots_75 : decode cX3_lots 75 = .ok (.aload_n 0, 1) := qd_p qo_42 (by decide +kernel)
theorem dX3_lots_76 : decode cX3_lots 76 = .ok (.getfield 16, 3) := qz_2 .getfield 0 16 qo_180 (by decide +kernel) rfl
theorem dX3_lots_79 : decode cX3_lots 79 = .ok (.invokevirtual 141, 3) := qz_2 .invokevirtual 0 141 qo_182 (by decide +kernel) rfl
theorem dX3_lots_82 : decode cX3_lots 82 = .ok (.aload_n 0, 1) := qd_p qo_42 (by decide +kernel)
theorem dX3_lots_83 : decode cX3_lots 83 = .ok (.getfield 16, 3) := qz_2 .getfield 0 16 qo_180 (by decide +kernel) rfl
theorem dX3_lots_86 : decode cX3_lots 86 = .ok (.bipush 99, 2) := qz_s1 .bipush 99 qo_16 (by decide +kernel) rfl
theorem dX3_lots_88 : decode cX3_lots 88 = .ok (.invokevirtual 232, 3) := qz_2 .invokevirtual 0 232 qo_182 (by decide +kernel) rfl
theorem dX3_lots_91 : decode cX3_lots 91 = .ok (.istore 8, 2) := qz_1 .istore 8 qo_54 (by decide +kernel)
theorem dX3_lots_93 : decode cX3_lots 93 = .ok (.iload_n 3, 1) := qd_p qo_29 (by decide +kernel)
theorem dX3_lots_94 : decode cX3_lots 94 = .ok (.ifCond .ne 23, 3) := qz_s2 (.ifCond .ne) 0 23 qo_154 (by decide +kernel) rfl
theorem dX3_lots_97 : decode cX3_lots 97 = .ok (.iload 6, 2) := qz_1 .iload 6 qo_21 (by decide +kernel)
theorem dX3_lots_99 : decode cX3_lots 99 = .ok (.aload_n 0, 1) := qd_p qo_42 (by decide +kernel)
theorem dX3_lots_100 : decode cX3_lots 100 = .ok (.getfield 16, 3) := qz_2 .getfield 0 16 qo_180 (by decide +kernel) rfl
theorem dX3_lots_103 : decode cX3_lots 103 = .ok (.bipush 99, 2) := qz_s1 .bipush 99 qo_16 (by decide +kernel) rfl
theorem dX3_lots_105 : decode cX3_lots 105 = .ok (.invokevirtual 205, 3) := qz_2 .invokevirtual 0 205 qo_182 (by decide +kernel) rfl
theorem dX3_lots_108 : decode cX3_lots 108 = .ok (.invokestatic 208, 3) := qz_2 .invokestatic 0 208 qo_184 (by decide +kernel) rfl
theorem dX3_lots_111 : decode cX3_lots 111 = .ok (.iadd, 1) := qd_p qo_96 (by decide +kernel)
theorem dX3_lots_112 : decode cX3_lots 112 = .ok (.istore 6, 2) := qz_1 .istore 6 qo_54 (by decide +kernel)
theorem dX3_lots_114 : decode cX3_lots 114 = .ok (.goto 26, 3) := qz_s2 .goto 0 26 qo_167 (by decide +kernel) rfl
theorem dX3_lots_117 : decode cX3_lots 117 = .ok (.iload 8, 2) := qz_1 .iload 8 qo_21 (by decide +kernel)
theorem dX3_lots_119 : decode cX3_lots 119 = .ok (.bipush (-9), 2) := qz_s1 .bipush 247 qo_16 (by decide +kernel) rfl
theorem dX3_lots_121 : decode cX3_lots 121 = .ok (.if_icmp .eq 19, 3) := qz_s2 (.if_icmp .eq) 0 19 qo_159 (by decide +kernel) rfl
theorem dX3_lots_124 : decode cX3_lots 124 = .ok (.iload 6, 2) := qz_1 .iload 6 qo_21 (by decide +kernel)
theorem dX3_lots_126 : decode cX3_lots 126 = .ok (.aload_n 0, 1) := qd_p qo_42 (by decide +kernel)
theorem dX3_lots_127 : decode cX3_lots 127 = .ok (.getfield 16, 3) := qz_2 .getfield 0 16 qo_180 (by decide +kernel) rfl
theorem dX3_lots_130 : decode cX3_lots 130 = .ok (.iload 8, 2) := qz_1 .iload 8 qo_21 (by decide +kernel)
theorem dX3_lots_132 : decode cX3_lots 132 = .ok (.bipush 99, 2) := qz_s1 .bipush 99 qo_16 (by decide +kernel) rfl
theorem dX3_lots_134 : decode cX3_lots 134 = .ok (.invokevirtual 229, 3) := qz_2 .invokevirtual 0 229 qo_182 (by decide +kernel) rfl
theorem dX3_lots_137 : decode cX3_lots 137 = .ok (.iadd, 1) := qd_p qo_96 (by decide +kernel)
theorem dX3_lots_138 : decode cX3_lots 138 = .ok (.istore 6, 2) := qz_1 .istore 6 qo_54 (by decide +kernel)
theorem dX3_lots_140 : decode cX3_lots 140 = .ok (.iinc 7 1, 3) := qd_i (x := 7) (y := 1) qo_132 (by decide +kernel) rfl
theorem dX3_lots_143 : decode cX3_lots 143 = .ok (.goto (-82), 3) := qz_s2 .goto 255 174 qo_167 (by decide +kernel) rfl
theorem dX3_lots_146 : decode cX3_lots 146 = .ok (.iload 6, 2) := qz_1 .iload 6 qo_21 (by decide +kernel)
theorem dX3_lots_148 : decode cX3_lots 148 = .ok (.ireturn, 1) := qd_p qo_172 (by decide +kernel)
theorem dX3_image_0 : decode cX3_image 0 = .ok (.aload_n 0, 1) := qd_p qo_42 (by decide +kernel)
theorem dX3_image_1 : decode cX3_image 1 = .ok (.getfield 19, 3) := qz_2 .getfield 0 19 qo_180 (by decide +kernel) rfl
theorem dX3_image_4 : decode cX3_image 4 = .ok (.aload_n 0, 1) := qd_p qo_42 (by decide +kernel)
theorem dX3_image_5 : decode cX3_image 5 = .ok (.getfield 10, 3) := qz_2 .getfield 0 10 qo_180 (by decide +kernel) rfl
theorem dX3_image_8 : decode cX3_image 8 = .ok (.invokevirtual 106, 3) := qz_2 .invokevirtual 0 106 qo_182 (by decide +kernel) rfl
theorem dX3_image_11 : decode cX3_image 11 = .ok (.aload_n 0, 1) := qd_p qo_42 (by decide +kernel)
theorem dX3_image_12 : decode cX3_image 12 = .ok (.iconst 1, 1) := qd_p qo_4 (by decide +kernel)
theorem dX3_image_13 : decode cX3_image 13 = .ok (.putfield 22, 3) := qz_2 .putfield 0 22 qo_181 (by decide +kernel) rfl
theorem dX3_image_16 : decode cX3_image 16 = .ok (.aload_n 0, 1) := qd_p qo_42 (by decide +kernel)
theorem dX3_image_17 : decode cX3_image 17 = .ok (.getfield 10, 3) := qz_2 .getfield 0 10 qo_180 (by decide +kernel) rfl
theorem dX3_image_20 : decode cX3_image 20 = .ok (.getfield 199, 3) := qz_2 .getfield 0 199 qo_180 (by decide +kernel) rfl
theorem dX3_image_23 : decode cX3_image 23 = .ok (.ireturn, 1) := qd_p qo_172 (by decide +kernel)
theorem dX3_restore_0 : decode cX3_restore 0 = .ok (.aload_n 0, 1) := qd_p qo_42 (by decide +kernel)
theorem dX3_restore_1 : decode cX3_restore 1 = .ok (.getfield 22, 3) := qz_2 .getfield 0 22 qo_180 (by decide +kernel) rfl
theorem dX3_restore_4 : decode cX3_restore 4 = .ok (.ifCond .ne 10, 3) := qz_s2 (.ifCond .ne) 0 10 qo_154 (by decide +kernel) rfl
theorem dX3_restore_7 : decode cX3_restore 7 = .ok (.aload_n 0, 1) := qd_p qo_42 (by decide +kernel)
theorem dX3_restore_8 : decode cX3_restore 8 = .ok (.bipush (-3), 2) := qz_s1 .bipush 253 qo_16 (by decide +kernel) rfl
theorem dX3_restore_10 : decode cX3_restore 10 = .ok (.invokevirtual 61, 3) := qz_2 .invokevirtual 0 61 qo_182 (by decide +kernel) rfl
theorem dX3_restore_13 : decode cX3_restore 13 = .ok (.ireturn, 1) := qd_p qo_172 (by decide +kernel)
theorem dX3_restore_14 : decode cX3_restore 14 = .ok (.aload_n 0, 1) := qd_p qo_42 (by decide +kernel)
theorem dX3_restore_15 : decode cX3_restore 15 = .ok (.getfield 10, 3) := qz_2 .getfield 0 10 qo_180 (by decide +kernel) rfl
theorem dX3_restore_18 : decode cX3_restore 18 = .ok (.aload_n 0, 1) := qd_p qo_42 (by decide +kernel)
theorem dX3_restore_19 : decode cX3_restore 19 = .ok (.getfield 19, 3) := qz_2 .getfield 0 19 qo_180 (by decide +kernel) rfl
theorem dX3_restore_22 : decode cX3_restore 22 = .ok (.invokevirtual 106, 3) := qz_2 .invokevirtual 0 106 qo_182 (by decide +kernel) rfl
theorem dX3_restore_25 : decode cX3_restore 25 = .ok (.aload_n 0, 1) := qd_p qo_42 (by decide +kernel)
theorem dX3_restore_26 : decode cX3_restore 26 = .ok (.getfield 29, 3) := qz_2 .getfield 0 29 qo_180 (by decide +kernel) rfl
theorem dX3_restore_29 : decode cX3_restore 29 = .ok (.invokevirtual 117, 3) := qz_2 .invokevirtual 0 117 qo_182 (by decide +kernel) rfl
theorem dX3_restore_32 : decode cX3_restore 32 = .ok (.aload_n 0, 1) := qd_p qo_42 (by decide +kernel)
theorem dX3_restore_33 : decode cX3_restore 33 = .ok (.getfield 10, 3) := qz_2 .getfield 0 10 qo_180 (by decide +kernel) rfl
theorem dX3_restore_36 : decode cX3_restore 36 = .ok (.getfield 199, 3) := qz_2 .getfield 0 199 qo_180 (by decide +kernel) rfl
theorem dX3_restore_39 : decode cX3_restore 39 = .ok (.ireturn, 1) := qd_p qo_172 (by decide +kernel)
theorem dX3_count_0 : decode cX3_count 0 = .ok (.iload_n 1, 1) := qd_p qo_27 (by decide +kernel)
theorem dX3_count_1 : decode cX3_count 1 = .ok (.bipush 11, 2) := qz_s1 .bipush 11 qo_16 (by decide +kernel) rfl
theorem dX3_count_3 : decode cX3_count 3 = .ok (.if_icmp .lt 19, 3) := qz_s2 (.if_icmp .lt) 0 19 qo_161 (by decide +kernel) rfl
theorem dX3_count_6 : decode cX3_count 6 = .ok (.iload_n 1, 1) := qd_p qo_27 (by decide +kernel)
theorem dX3_count_7 : decode cX3_count 7 = .ok (.bipush 16, 2) := qz_s1 .bipush 16 qo_16 (by decide +kernel) rfl
theorem dX3_count_9 : decode cX3_count 9 = .ok (.if_icmp .gt 13, 3) := qz_s2 (.if_icmp .gt) 0 13 qo_163 (by decide +kernel) rfl
theorem dX3_count_12 : decode cX3_count 12 = .ok (.aload_n 0, 1) := qd_p qo_42 (by decide +kernel)
theorem dX3_count_13 : decode cX3_count 13 = .ok (.getfield 48, 3) := qz_2 .getfield 0 48 qo_180 (by decide +kernel) rfl
theorem dX3_count_16 : decode cX3_count 16 = .ok (.iload_n 1, 1) := qd_p qo_27 (by decide +kernel)
theorem dX3_count_17 : decode cX3_count 17 = .ok (.bipush 10, 2) := qz_s1 .bipush 10 qo_16 (by decide +kernel) rfl
theorem dX3_count_19 : decode cX3_count 19 = .ok (.isub, 1) := qd_p qo_100 (by decide +kernel)
theorem dX3_count_20 : decode cX3_count 20 = .ok (.iaload, 1) := qd_p qo_46 (by decide +kernel)
theorem dX3_count_21 : decode cX3_count 21 = .ok (.ireturn, 1) := qd_p qo_172 (by decide +kernel)
theorem dX3_count_22 : decode cX3_count 22 = .ok (.iload_n 1, 1) := qd_p qo_27 (by decide +kernel)
theorem dX3_count_23 : decode cX3_count 23 = .ok (.tableswitch 144 0 9 #[53, 61, 69, 77, 85, 104, 115, 123, 131, 136], 53) := by decide +kernel
theorem dX3_count_76 : decode cX3_count 76 = .ok (.aload_n 0, 1) := qd_p qo_42 (by decide +kernel)
theorem dX3_count_77 : decode cX3_count 77 = .ok (.getfield 10, 3) := qz_2 .getfield 0 10 qo_180 (by decide +kernel) rfl
theorem dX3_count_80 : decode cX3_count 80 = .ok (.getfield 147, 3) := qz_2 .getfield 0 147 qo_180 (by decide +kernel) rfl
theorem dX3_count_83 : decode cX3_count 83 = .ok (.ireturn, 1) := qd_p qo_172 (by decide +kernel)
theorem dX3_count_84 : decode cX3_count 84 = .ok (.aload_n 0, 1) := qd_p qo_42 (by decide +kernel)
theorem dX3_count_85 : decode cX3_count 85 = .ok (.getfield 10, 3) := qz_2 .getfield 0 10 qo_180 (by decide +kernel) rfl
theorem dX3_count_88 : decode cX3_count 88 = .ok (.getfield 153, 3) := qz_2 .getfield 0 153 qo_180 (by decide +kernel) rfl
theorem dX3_count_91 : decode cX3_count 91 = .ok (.ireturn, 1) := qd_p qo_172 (by decide +kernel)
theorem dX3_count_92 : decode cX3_count 92 = .ok (.aload_n 0, 1) := qd_p qo_42 (by decide +kernel)
theorem dX3_count_93 : decode cX3_count 93 = .ok (.getfield 10, 3) := qz_2 .getfield 0 10 qo_180 (by decide +kernel) rfl
theorem dX3_count_96 : decode cX3_count 96 = .ok (.getfield 199, 3) := qz_2 .getfield 0 199 qo_180 (by decide +kernel) rfl
theorem dX3_count_99 : decode cX3_count 99 = .ok (.ireturn, 1) := qd_p qo_172 (by decide +kernel)
theorem dX3_count_100 : decode cX3_count 100 = .ok (.aload_n 0, 1) := qd_p qo_42 (by decide +kernel)
theorem dX3_count_101 : decode cX3_count 101 = .ok (.getfield 10, 3) := qz_2 .getfield 0 10 qo_180 (by decide +kernel) rfl
theorem dX3_count_104 : decode cX3_count 104 = .ok (.getfield 193, 3) := qz_2 .getfield 0 193 qo_180 (by decide +kernel) rfl
theorem dX3_count_107 : decode cX3_count 107 = .ok (.ireturn, 1) := qd_p qo_172 (by decide +kernel)
theorem dX3_count_108 : decode cX3_count 108 = .ok (.aload_n 0, 1) := qd_p qo_42 (by decide +kernel)
theorem dX3_count_109 : decode cX3_count 109 = .ok (.getfield 10, 3) := qz_2 .getfield 0 10 qo_180 (by decide +kernel) rfl
theorem dX3_count_112 : decode cX3_count 112 = .ok (.invokevirtual 141, 3) := qz_2 .invokevirtual 0 141 qo_182 (by decide +kernel) rfl
theorem dX3_count_115 : decode cX3_count 115 = .ok (.aload_n 0, 1) := qd_p qo_42 (by decide +kernel)
theorem dX3_count_116 : decode cX3_count 116 = .ok (.getfield 10, 3) := qz_2 .getfield 0 10 qo_180 (by decide +kernel) rfl
theorem dX3_count_119 : decode cX3_count 119 = .ok (.iconst 0, 1) := qd_p qo_3 (by decide +kernel)
theorem dX3_count_120 : decode cX3_count 120 = .ok (.invokevirtual 205, 3) := qz_2 .invokevirtual 0 205 qo_182 (by decide +kernel) rfl
theorem dX3_count_123 : decode cX3_count 123 = .ok (.invokestatic 208, 3) := qz_2 .invokestatic 0 208 qo_184 (by decide +kernel) rfl
theorem dX3_count_126 : decode cX3_count 126 = .ok (.ireturn, 1) := qd_p qo_172 (by decide +kernel)
theorem dX3_count_127 : decode cX3_count 127 = .ok (.aload_n 0, 1) := qd_p qo_42 (by decide +kernel)
theorem dX3_count_128 : decode cX3_count 128 = .ok (.getfield 10, 3) := qz_2 .getfield 0 10 qo_180 (by decide +kernel) rfl
theorem dX3_count_131 : decode cX3_count 131 = .ok (.invokevirtual 251, 3) := qz_2 .invokevirtual 0 251 qo_182 (by decide +kernel) rfl
theorem dX3_count_134 : decode cX3_count 134 = .ok (.invokestatic 208, 3) := qz_2 .invokestatic 0 208 qo_184 (by decide +kernel) rfl
theorem dX3_count_137 : decode cX3_count 137 = .ok (.ireturn, 1) := qd_p qo_172 (by decide +kernel)
theorem dX3_count_138 : decode cX3_count 138 = .ok (.aload_n 0, 1) := qd_p qo_42 (by decide +kernel)
theorem dX3_count_139 : decode cX3_count 139 = .ok (.getfield 10, 3) := qz_2 .getfield 0 10 qo_180 (by decide +kernel) rfl
theorem dX3_count_142 : decode cX3_count 142 = .ok (.invokevirtual 335, 3) := qz_2 .invokevirtual 1 79 qo_182 (by decide +kernel) rfl
theorem dX3_count_145 : decode cX3_count 145 = .ok (.ireturn, 1) := qd_p qo_172 (by decide +kernel)
theorem dX3_count_146 : decode cX3_count 146 = .ok (.aload_n 0, 1) := qd_p qo_42 (by decide +kernel)
theorem dX3_count_147 : decode cX3_count 147 = .ok (.getfield 36, 3) := qz_2 .getfield 0 36 qo_180 (by decide +kernel) rfl
theorem dX3_count_150 : decode cX3_count 150 = .ok (.getfield 92, 3) := qz_2 .getfield 0 92 qo_180 (by decide +kernel) rfl
theorem dX3_count_153 : decode cX3_count 153 = .ok (.ireturn, 1) := qd_p qo_172 (by decide +kernel)
theorem dX3_count_154 : decode cX3_count 154 = .ok (.aload_n 0, 1) := qd_p qo_42 (by decide +kernel)
theorem dX3_count_155 : decode cX3_count 155 = .ok (.getfield 44, 3) := qz_2 .getfield 0 44 qo_180 (by decide +kernel) rfl
theorem dX3_count_158 : decode cX3_count 158 = .ok (.ireturn, 1) := qd_p qo_172 (by decide +kernel)
theorem dX3_count_159 : decode cX3_count 159 = .ok (.aload_n 0, 1) := qd_p qo_42 (by decide +kernel)
theorem dX3_count_160 : decode cX3_count 160 = .ok (.getfield 29, 3) := qz_2 .getfield 0 29 qo_180 (by decide +kernel) rfl
theorem dX3_count_163 : decode cX3_count 163 = .ok (.getfield 213, 3) := qz_2 .getfield 0 213 qo_180 (by decide +kernel) rfl
theorem dX3_count_166 : decode cX3_count 166 = .ok (.ireturn, 1) := qd_p qo_172 (by decide +kernel)
theorem dX3_count_167 : decode cX3_count 167 = .ok (.bipush (-9), 2) := qz_s1 .bipush 247 qo_16 (by decide +kernel) rfl
theorem dX3_count_169 : decode cX3_count 169 = .ok (.ireturn, 1) := qd_p qo_172 (by decide +kernel)
theorem dX4_in_0 : decode cX4_in 0 = .ok (.lload_n 0, 1) := qd_p qo_30 (by decide +kernel)
theorem dX4_in_1 : decode cX4_in 1 = .ok (.lload_n 2, 1) := qd_p qo_32 (by decide +kernel)
theorem dX4_in_2 : decode cX4_in 2 = .ok (.lcmp, 1) := qd_p qo_148 (by decide +kernel)
theorem dX4_in_3 : decode cX4_in 3 = .ok (.ifCond .lt 14, 3) := qz_s2 (.ifCond .lt) 0 14 qo_155 (by decide +kernel) rfl
theorem dX4_in_6 : decode cX4_in 6 = .ok (.lload_n 0, 1) := qd_p qo_30 (by decide +kernel)
theorem dX4_in_7 : decode cX4_in 7 = .ok (.lload 4, 2) := qz_1 .lload 4 qo_22 (by decide +kernel)
theorem dX4_in_9 : decode cX4_in 9 = .ok (.lcmp, 1) := qd_p qo_148 (by decide +kernel)
theorem dX4_in_10 : decode cX4_in 10 = .ok (.ifCond .gt 7, 3) := qz_s2 (.ifCond .gt) 0 7 qo_157 (by decide +kernel) rfl
theorem dX4_in_13 : decode cX4_in 13 = .ok (.iconst 1, 1) := qd_p qo_4 (by decide +kernel)
theorem dX4_in_14 : decode cX4_in 14 = .ok (.goto 4, 3) := qz_s2 .goto 0 4 qo_167 (by decide +kernel) rfl
theorem dX4_in_17 : decode cX4_in 17 = .ok (.iconst 0, 1) := qd_p qo_3 (by decide +kernel)
theorem dX4_in_18 : decode cX4_in 18 = .ok (.ireturn, 1) := qd_p qo_172 (by decide +kernel)
theorem dX4_refuse_0 : decode cX4_refuse 0 = .ok (.aload_n 0, 1) := qd_p qo_42 (by decide +kernel)
theorem dX4_refuse_1 : decode cX4_refuse 1 = .ok (.getfield 28, 3) := qz_2 .getfield 0 28 qo_180 (by decide +kernel) rfl
theorem dX4_refuse_4 : decode cX4_refuse 4 = .ok (.iload_n 1, 1) := qd_p qo_27 (by decide +kernel)
theorem dX4_refuse_5 : decode cX4_refuse 5 = .ok (.ineg, 1) := qd_p qo_116 (by decide +kernel)
theorem dX4_refuse_6 : decode cX4_refuse 6 = .ok (.dup2, 1) := qd_p qo_92 (by decide +kernel)
theorem dX4_refuse_7 : decode cX4_refuse 7 = .ok (.iaload, 1) := qd_p qo_46 (by decide +kernel)
theorem dX4_refuse_8 : decode cX4_refuse 8 = .ok (.iconst 1, 1) := qd_p qo_4 (by decide +kernel)
theorem dX4_refuse_9 : decode cX4_refuse 9 = .ok (.iadd, 1) := qd_p qo_96 (by decide +kernel)
theorem dX4_refuse_10 : decode cX4_refuse 10 = .ok (.iastore, 1) := qd_p qo_79 (by decide +kernel)
theorem dX4_refuse_11 : decode cX4_refuse 11 = .ok (.iload_n 1, 1) := qd_p qo_27 (by decide +kernel)
theorem dX4_refuse_12 : decode cX4_refuse 12 = .ok (.ireturn, 1) := qd_p qo_172 (by decide +kernel)
theorem dX4_isLooker_0 : decode cX4_isLooker 0 = .ok (.iload_n 1, 1) := qd_p qo_27 (by decide +kernel)
theorem dX4_isLooker_1 : decode cX4_isLooker 1 = .ok (.i2l, 1) := qd_p qo_133 (by decide +kernel)
theorem dX4_isLooker_2 : decode cX4_isLooker 2 = .ok (.lconst 0, 1) := qd_p qo_9 (by decide +kernel)
theorem dX4_isLooker_3 : decode cX4_isLooker 3 = .ok (.aload_n 0, 1) := qd_p qo_42 (by decide +kernel)
theorem dX4_isLooker_4 : decode cX4_isLooker 4 = .ok (.getfield 74, 3) := qz_2 .getfield 0 74 qo_180 (by decide +kernel) rfl
theorem dX4_isLooker_7 : decode cX4_isLooker 7 = .ok (.iconst 1, 1) := qd_p qo_4 (by decide +kernel)
theorem dX4_isLooker_8 : decode cX4_isLooker 8 = .ok (.isub, 1) := qd_p qo_100 (by decide +kernel)
theorem dX4_isLooker_9 : decode cX4_isLooker 9 = .ok (.i2l, 1) := qd_p qo_133 (by decide +kernel)
theorem dX4_isLooker_10 : decode cX4_isLooker 10 = .ok (.invokestatic 77, 3) := qz_2 .invokestatic 0 77 qo_184 (by decide +kernel) rfl
theorem dX4_isLooker_13 : decode cX4_isLooker 13 = .ok (.ireturn, 1) := qd_p qo_172 (by decide +kernel)
theorem dX4_isPane_0 : decode cX4_isPane 0 = .ok (.iload_n 1, 1) := qd_p qo_27 (by decide +kernel)
theorem dX4_isPane_1 : decode cX4_isPane 1 = .ok (.i2l, 1) := qd_p qo_133 (by decide +kernel)
theorem dX4_isPane_2 : decode cX4_isPane 2 = .ok (.lconst 0, 1) := qd_p qo_9 (by decide +kernel)
theorem dX4_isPane_3 : decode cX4_isPane 3 = .ok (.aload_n 0, 1) := qd_p qo_42 (by decide +kernel)
theorem dX4_isPane_4 : decode cX4_isPane 4 = .ok (.getfield 81, 3) := qz_2 .getfield 0 81 qo_180 (by decide +kernel) rfl
theorem dX4_isPane_7 : decode cX4_isPane 7 = .ok (.iconst 1, 1) := qd_p qo_4 (by decide +kernel)
theorem dX4_isPane_8 : decode cX4_isPane 8 = .ok (.isub, 1) := qd_p qo_100 (by decide +kernel)
theorem dX4_isPane_9 : decode cX4_isPane 9 = .ok (.i2l, 1) := qd_p qo_133 (by decide +kernel)
theorem dX4_isPane_10 : decode cX4_isPane 10 = .ok (.invokestatic 77, 3) := qz_2 .invokestatic 0 77 qo_184 (by decide +kernel) rfl
theorem dX4_isPane_13 : decode cX4_isPane 13 = .ok (.ireturn, 1) := qd_p qo_172 (by decide +kernel)
theorem dX4_isView_0 : decode cX4_isView 0 = .ok (.iload_n 0, 1) := qd_p qo_26 (by decide +kernel)
theorem dX4_isView_1 : decode cX4_isView 1 = .ok (.i2l, 1) := qd_p qo_133 (by decide +kernel)
theorem dX4_isView_2 : decode cX4_isView 2 = .ok (.lconst 0, 1) := qd_p qo_9 (by decide +kernel)
theorem dX4_isView_3 : decode cX4_isView 3 = .ok (.ldc2_w 84, 3) := qz_2 .ldc2_w 0 84 qo_20 (by decide +kernel) rfl
theorem dX4_isView_6 : decode cX4_isView 6 = .ok (.invokestatic 77, 3) := qz_2 .invokestatic 0 77 qo_184 (by decide +kernel) rfl
theorem dX4_isView_9 : decode cX4_isView 9 = .ok (.ireturn, 1) := qd_p qo_172 (by decide +kernel)
theorem dX4_isHour_0 : decode cX4_isHour 0 = .ok (.iload_n 0, 1) := qd_p qo_26 (by decide +kernel)
theorem dX4_isHour_1 : decode cX4_isHour 1 = .ok (.i2l, 1) := qd_p qo_133 (by decide +kernel)
theorem dX4_isHour_2 : decode cX4_isHour 2 = .ok (.lconst 0, 1) := qd_p qo_9 (by decide +kernel)
theorem dX4_isHour_3 : decode cX4_isHour 3 = .ok (.ldc2_w 86, 3) := qz_2 .ldc2_w 0 86 qo_20 (by decide +kernel) rfl
theorem dX4_isHour_6 : decode cX4_isHour 6 = .ok (.invokestatic 77, 3) := qz_2 .invokestatic 0 77 qo_184 (by decide +kernel) rfl
theorem dX4_isHour_9 : decode cX4_isHour 9 = .ok (.ireturn, 1) := qd_p qo_172 (by decide +kernel)
theorem dX4_areTwo_0 : decode cX4_areTwo 0 = .ok (.aload_n 0, 1) := qd_p qo_42 (by decide +kernel)
theorem dX4_areTwo_1 : decode cX4_areTwo 1 = .ok (.iload_n 1, 1) := qd_p qo_27 (by decide +kernel)
theorem dX4_areTwo_2 : decode cX4_areTwo 2 = .ok (.invokevirtual 88, 3) := qz_2 .invokevirtual 0 88 qo_182 (by decide +kernel) rfl
theorem dX4_areTwo_5 : decode cX4_areTwo 5 = .ok (.ifCond .eq 20, 3) := qz_s2 (.ifCond .eq) 0 20 qo_153 (by decide +kernel) rfl
theorem dX4_areTwo_8 : decode cX4_areTwo 8 = .ok (.aload_n 0, 1) := qd_p qo_42 (by decide +kernel)
theorem dX4_areTwo_9 : decode cX4_areTwo 9 = .ok (.iload_n 2, 1) := qd_p qo_28 (by decide +kernel)
theorem dX4_areTwo_10 : decode cX4_areTwo 10 = .ok (.invokevirtual 88, 3) := qz_2 .invokevirtual 0 88 qo_182 (by decide +kernel) rfl
theorem dX4_areTwo_13 : decode cX4_areTwo 13 = .ok (.ifCond .eq 12, 3) := qz_s2 (.ifCond .eq) 0 12 qo_153 (by decide +kernel) rfl
theorem dX4_areTwo_16 : decode cX4_areTwo 16 = .ok (.iload_n 1, 1) := qd_p qo_27 (by decide +kernel)
theorem dX4_areTwo_17 : decode cX4_areTwo 17 = .ok (.iload_n 2, 1) := qd_p qo_28 (by decide +kernel)
theorem dX4_areTwo_18 : decode cX4_areTwo 18 = .ok (.if_icmp .eq 7, 3) := qz_s2 (.if_icmp .eq) 0 7 qo_159 (by decide +kernel) rfl
theorem dX4_areTwo_21 : decode cX4_areTwo 21 = .ok (.iconst 1, 1) := qd_p qo_4 (by decide +kernel)
theorem dX4_areTwo_22 : decode cX4_areTwo 22 = .ok (.goto 4, 3) := qz_s2 .goto 0 4 qo_167 (by decide +kernel) rfl
theorem dX4_areTwo_25 : decode cX4_areTwo 25 = .ok (.iconst 0, 1) := qd_p qo_3 (by decide +kernel)
theorem dX4_areTwo_26 : decode cX4_areTwo 26 = .ok (.ireturn, 1) := qd_p qo_172 (by decide +kernel)
theorem dX4_wrongNumber_0 : decode cX4_wrongNumber 0 = .ok (.iload_n 0, 1) := qd_p qo_26 (by decide +kernel)
theorem dX4_wrongNumber_1 : decode cX4_wrongNumber 1 = .ok (.iload_n 1, 1) := qd_p qo_27 (by decide +kernel)
theorem dX4_wrongNumber_2 : decode cX4_wrongNumber 2 = .ok (.if_icmp .ge 8, 3) := qz_s2 (.if_icmp .ge) 0 8 qo_162 (by decide +kernel) rfl
theorem dX4_wrongNumber_5 : decode cX4_wrongNumber 5 = .ok (.bipush (-4), 2) := qz_s1 .bipush 252 qo_16 (by decide +kernel) rfl
theorem dX4_wrongNumber_7 : decode cX4_wrongNumber 7 = .ok (.goto 14, 3) := qz_s2 .goto 0 14 qo_167 (by decide +kernel) rfl
theorem dX4_wrongNumber_10 : decode cX4_wrongNumber 10 = .ok (.iload_n 0, 1) := qd_p qo_26 (by decide +kernel)
theorem dX4_wrongNumber_11 : decode cX4_wrongNumber 11 = .ok (.iload_n 2, 1) := qd_p qo_28 (by decide +kernel)
theorem dX4_wrongNumber_12 : decode cX4_wrongNumber 12 = .ok (.if_icmp .le 8, 3) := qz_s2 (.if_icmp .le) 0 8 qo_164 (by decide +kernel) rfl
theorem dX4_wrongNumber_15 : decode cX4_wrongNumber 15 = .ok (.bipush (-6), 2) := qz_s1 .bipush 250 qo_16 (by decide +kernel) rfl
theorem dX4_wrongNumber_17 : decode cX4_wrongNumber 17 = .ok (.goto 4, 3) := qz_s2 .goto 0 4 qo_167 (by decide +kernel) rfl
theorem dX4_wrongNumber_20 : decode cX4_wrongNumber 20 = .ok (.iconst 0, 1) := qd_p qo_3 (by decide +kernel)
theorem dX4_wrongNumber_21 : decode cX4_wrongNumber 21 = .ok (.ireturn, 1) := qd_p qo_172 (by decide +kernel)
theorem dX4_wrongBit_0 : decode cX4_wrongBit 0 = .ok (.iload_n 0, 1) := qd_p qo_26 (by decide +kernel)
theorem dX4_wrongBit_1 : decode cX4_wrongBit 1 = .ok (.ifCond .ne 19, 3) := qz_s2 (.ifCond .ne) 0 19 qo_154 (by decide +kernel) rfl
theorem dX4_wrongBit_4 : decode cX4_wrongBit 4 = .ok (.iload_n 1, 1) := qd_p qo_27 (by decide +kernel)
theorem dX4_wrongBit_5 : decode cX4_wrongBit 5 = .ok (.i2l, 1) := qd_p qo_133 (by decide +kernel)
theorem dX4_wrongBit_6 : decode cX4_wrongBit 6 = .ok (.lconst 0, 1) := qd_p qo_9 (by decide +kernel)
theorem dX4_wrongBit_7 : decode cX4_wrongBit 7 = .ok (.iload_n 2, 1) := qd_p qo_28 (by decide +kernel)
theorem dX4_wrongBit_8 : decode cX4_wrongBit 8 = .ok (.i2l, 1) := qd_p qo_133 (by decide +kernel)
theorem dX4_wrongBit_9 : decode cX4_wrongBit 9 = .ok (.invokestatic 77, 3) := qz_2 .invokestatic 0 77 qo_184 (by decide +kernel) rfl
theorem dX4_wrongBit_12 : decode cX4_wrongBit 12 = .ok (.ifCond .ne 8, 3) := qz_s2 (.ifCond .ne) 0 8 qo_154 (by decide +kernel) rfl
theorem dX4_wrongBit_15 : decode cX4_wrongBit 15 = .ok (.bipush (-2), 2) := qz_s1 .bipush 254 qo_16 (by decide +kernel) rfl
theorem dX4_wrongBit_17 : decode cX4_wrongBit 17 = .ok (.goto 4, 3) := qz_s2 .goto 0 4 qo_167 (by decide +kernel) rfl
theorem dX4_wrongBit_20 : decode cX4_wrongBit 20 = .ok (.iload_n 0, 1) := qd_p qo_26 (by decide +kernel)
theorem dX4_wrongBit_21 : decode cX4_wrongBit 21 = .ok (.ireturn, 1) := qd_p qo_172 (by decide +kernel)
theorem dX4_hasBit_0 : decode cX4_hasBit 0 = .ok (.iload_n 0, 1) := qd_p qo_26 (by decide +kernel)
theorem dX4_hasBit_1 : decode cX4_hasBit 1 = .ok (.iload_n 1, 1) := qd_p qo_27 (by decide +kernel)
theorem dX4_hasBit_2 : decode cX4_hasBit 2 = .ok (.ishr, 1) := qd_p qo_122 (by decide +kernel)
theorem dX4_hasBit_3 : decode cX4_hasBit 3 = .ok (.iconst 1, 1) := qd_p qo_4 (by decide +kernel)
theorem dX4_hasBit_4 : decode cX4_hasBit 4 = .ok (.iand, 1) := qd_p qo_126 (by decide +kernel)
theorem dX4_hasBit_5 : decode cX4_hasBit 5 = .ok (.iconst 1, 1) := qd_p qo_4 (by decide +kernel)
theorem dX4_hasBit_6 : decode cX4_hasBit 6 = .ok (.if_icmp .ne 7, 3) := qz_s2 (.if_icmp .ne) 0 7 qo_160 (by decide +kernel) rfl
theorem dX4_hasBit_9 : decode cX4_hasBit 9 = .ok (.iconst 1, 1) := qd_p qo_4 (by decide +kernel)
theorem dX4_hasBit_10 : decode cX4_hasBit 10 = .ok (.goto 4, 3) := qz_s2 .goto 0 4 qo_167 (by decide +kernel) rfl
theorem dX4_hasBit_13 : decode cX4_hasBit 13 = .ok (.iconst 0, 1) := qd_p qo_3 (by decide +kernel)
theorem dX4_hasBit_14 : decode cX4_hasBit 14 = .ok (.ireturn, 1) := qd_p qo_172 (by decide +kernel)
theorem dX4_onesOf_0 : decode cX4_onesOf 0 = .ok (.iconst 0, 1) := qd_p qo_3 (by decide +kernel)
theorem dX4_onesOf_1 : decode cX4_onesOf 1 = .ok (.istore_n 1, 1) := qd_p qo_60 (by decide +kernel)
theorem dX4_onesOf_2 : decode cX4_onesOf 2 = .ok (.iload_n 0, 1) := qd_p qo_26 (by decide +kernel)
theorem dX4_onesOf_3 : decode cX4_onesOf 3 = .ok (.istore_n 2, 1) := qd_p qo_61 (by decide +kernel)
theorem dX4_onesOf_4 : decode cX4_onesOf 4 = .ok (.iload_n 2, 1) := qd_p qo_28 (by decide +kernel)
theorem dX4_onesOf_5 : decode cX4_onesOf 5 = .ok (.ifCond .eq 15, 3) := qz_s2 (.ifCond .eq) 0 15 qo_153 (by decide +kernel) rfl
theorem dX4_onesOf_8 : decode cX4_onesOf 8 = .ok (.iinc 1 1, 3) := qd_i (x := 1) (y := 1) qo_132 (by decide +kernel) rfl
theorem dX4_onesOf_11 : decode cX4_onesOf 11 = .ok (.iload_n 2, 1) := qd_p qo_28 (by decide +kernel)
theorem dX4_onesOf_12 : decode cX4_onesOf 12 = .ok (.iload_n 2, 1) := qd_p qo_28 (by decide +kernel)
theorem dX4_onesOf_13 : decode cX4_onesOf 13 = .ok (.iconst 1, 1) := qd_p qo_4 (by decide +kernel)
theorem dX4_onesOf_14 : decode cX4_onesOf 14 = .ok (.isub, 1) := qd_p qo_100 (by decide +kernel)
theorem dX4_onesOf_15 : decode cX4_onesOf 15 = .ok (.iand, 1) := qd_p qo_126 (by decide +kernel)
theorem dX4_onesOf_16 : decode cX4_onesOf 16 = .ok (.istore_n 2, 1) := qd_p qo_61 (by decide +kernel)
theorem dX4_onesOf_17 : decode cX4_onesOf 17 = .ok (.goto (-13), 3) := qz_s2 .goto 255 243 qo_167 (by decide +kernel) rfl
theorem dX4_onesOf_20 : decode cX4_onesOf 20 = .ok (.iload_n 1, 1) := qd_p qo_27 (by decide +kernel)
theorem dX4_onesOf_21 : decode cX4_onesOf 21 = .ok (.ireturn, 1) := qd_p qo_172 (by decide +kernel)
theorem dX4_pullOf_0 : decode cX4_pullOf 0 = .ok (.iload_n 2, 1) := qd_p qo_28 (by decide +kernel)
theorem dX4_pullOf_1 : decode cX4_pullOf 1 = .ok (.i2l, 1) := qd_p qo_133 (by decide +kernel)
theorem dX4_pullOf_2 : decode cX4_pullOf 2 = .ok (.ldc2_w 92, 3) := qz_2 .ldc2_w 0 92 qo_20 (by decide +kernel) rfl
theorem dX4_pullOf_5 : decode cX4_pullOf 5 = .ok (.ldc2_w 94, 3) := qz_2 .ldc2_w 0 94 qo_20 (by decide +kernel) rfl
theorem dX4_pullOf_8 : decode cX4_pullOf 8 = .ok (.invokestatic 77, 3) := qz_2 .invokestatic 0 77 qo_184 (by decide +kernel) rfl
theorem dX4_pullOf_11 : decode cX4_pullOf 11 = .ok (.ifCond .eq 7, 3) := qz_s2 (.ifCond .eq) 0 7 qo_153 (by decide +kernel) rfl
theorem dX4_pullOf_14 : decode cX4_pullOf 14 = .ok (.iconst 2, 1) := qd_p qo_5 (by decide +kernel)
theorem dX4_pullOf_15 : decode cX4_pullOf 15 = .ok (.goto 4, 3) := qz_s2 .goto 0 4 qo_167 (by decide +kernel) rfl
theorem dX4_pullOf_18 : decode cX4_pullOf 18 = .ok (.iconst 1, 1) := qd_p qo_4 (by decide +kernel)
theorem dX4_pullOf_19 : decode cX4_pullOf 19 = .ok (.istore_n 3, 1) := qd_p qo_62 (by decide +kernel)
theorem dX4_pullOf_20 : decode cX4_pullOf 20 = .ok (.iload_n 3, 1) := qd_p qo_29 (by decide +kernel)
theorem dX4_pullOf_21 : decode cX4_pullOf 21 = .ok (.aload_n 0, 1) := qd_p qo_42 (by decide +kernel)
theorem dX4_pullOf_22 : decode cX4_pullOf 22 = .ok (.getfield 19, 3) := qz_2 .getfield 0 19 qo_180 (by decide +kernel) rfl
theorem dX4_pullOf_25 : decode cX4_pullOf 25 = .ok (.iload_n 1, 1) := qd_p qo_27 (by decide +kernel)
theorem dX4_pullOf_26 : decode cX4_pullOf 26 = .ok (.iaload, 1) := qd_p qo_46 (by decide +kernel)
theorem dX4_pullOf_27 : decode cX4_pullOf 27 = .ok (.iconst 3, 1) := qd_p qo_6 (by decide +kernel)
theorem dX4_pullOf_28 : decode cX4_pullOf 28 = .ok (.idiv, 1) := qd_p qo_108 (by decide +kernel)
theorem dX4_pullOf_29 : decode cX4_pullOf 29 = .ok (.iadd, 1) := qd_p qo_96 (by decide +kernel)
theorem dX4_pullOf_30 : decode cX4_pullOf 30 = .ok (.istore 4, 2) := qz_1 .istore 4 qo_54 (by decide +kernel)
theorem dX4_pullOf_32 : decode cX4_pullOf 32 = .ok (.aload_n 0, 1) := qd_p qo_42 (by decide +kernel)
theorem dX4_pullOf_33 : decode cX4_pullOf 33 = .ok (.getfield 16, 3) := qz_2 .getfield 0 16 qo_180 (by decide +kernel) rfl
theorem dX4_pullOf_36 : decode cX4_pullOf 36 = .ok (.iload_n 1, 1) := qd_p qo_27 (by decide +kernel)
theorem dX4_pullOf_37 : decode cX4_pullOf 37 = .ok (.iaload, 1) := qd_p qo_46 (by decide +kernel)
theorem dX4_pullOf_38 : decode cX4_pullOf 38 = .ok (.tableswitch 86 1 5 #[34, 36, 55, 67, 70], 34) := by decide +kernel
theorem dX4_pullOf_72 : decode cX4_pullOf 72 = .ok (.iload_n 3, 1) := qd_p qo_29 (by decide +kernel)
theorem dX4_pullOf_73 : decode cX4_pullOf 73 = .ok (.ireturn, 1) := qd_p qo_172 (by decide +kernel)
theorem dX4_pullOf_74 : decode cX4_pullOf 74 = .ok (.iload_n 2, 1) := qd_p qo_28 (by decide +kernel)
theorem dX4_pullOf_75 : decode cX4_pullOf 75 = .ok (.aload_n 0, 1) := qd_p qo_42 (by decide +kernel)
theorem dX4_pullOf_76 : decode cX4_pullOf 76 = .ok (.getfield 19, 3) := qz_2 .getfield 0 19 qo_180 (by decide +kernel) rfl
theorem dX4_pullOf_79 : decode cX4_pullOf 79 = .ok (.iload_n 1, 1) := qd_p qo_27 (by decide +kernel)
theorem dX4_pullOf_80 : decode cX4_pullOf 80 = .ok (.iaload, 1) := qd_p qo_46 (by decide +kernel)
theorem dX4_pullOf_81 : decode cX4_pullOf 81 = .ok (.bipush 8, 2) := qz_s1 .bipush 8 qo_16 (by decide +kernel) rfl
theorem dX4_pullOf_83 : decode cX4_pullOf 83 = .ok (.iadd, 1) := qd_p qo_96 (by decide +kernel)
theorem dX4_pullOf_84 : decode cX4_pullOf 84 = .ok (.if_icmp .ne 7, 3) := qz_s2 (.if_icmp .ne) 0 7 qo_160 (by decide +kernel) rfl
theorem dX4_pullOf_87 : decode cX4_pullOf 87 = .ok (.iconst 5, 1) := qd_p qo_8 (by decide +kernel)
theorem dX4_pullOf_88 : decode cX4_pullOf 88 = .ok (.goto 4, 3) := qz_s2 .goto 0 4 qo_167 (by decide +kernel) rfl
theorem dX4_pullOf_91 : decode cX4_pullOf 91 = .ok (.iconst 0, 1) := qd_p qo_3 (by decide +kernel)
theorem dX4_pullOf_92 : decode cX4_pullOf 92 = .ok (.ireturn, 1) := qd_p qo_172 (by decide +kernel)
theorem dX4_pullOf_93 : decode cX4_pullOf 93 = .ok (.iload_n 2, 1) := qd_p qo_28 (by decide +kernel)
theorem dX4_pullOf_94 : decode cX4_pullOf 94 = .ok (.iconst 2, 1) := qd_p qo_5 (by decide +kernel)
theorem dX4_pullOf_95 : decode cX4_pullOf 95 = .ok (.irem, 1) := qd_p qo_112 (by decide +kernel)
theorem dX4_pullOf_96 : decode cX4_pullOf 96 = .ok (.ifCond .ne 7, 3) := qz_s2 (.ifCond .ne) 0 7 qo_154 (by decide +kernel) rfl
theorem dX4_pullOf_99 : decode cX4_pullOf 99 = .ok (.iconst 1, 1) := qd_p qo_4 (by decide +kernel)
theorem dX4_pullOf_100 : decode cX4_pullOf 100 = .ok (.goto 4, 3) := qz_s2 .goto 0 4 qo_167 (by decide +kernel) rfl
theorem dX4_pullOf_103 : decode cX4_pullOf 103 = .ok (.iconst 0, 1) := qd_p qo_3 (by decide +kernel)
theorem dX4_pullOf_104 : decode cX4_pullOf 104 = .ok (.ireturn, 1) := qd_p qo_172 (by decide +kernel)
theorem dX4_pullOf_105 : decode cX4_pullOf 105 = .ok (.iload 4, 2) := qz_1 .iload 4 qo_21 (by decide +kernel)
theorem dX4_pullOf_107 : decode cX4_pullOf 107 = .ok (.ireturn, 1) := qd_p qo_172 (by decide +kernel)
theorem dX4_pullOf_108 : decode cX4_pullOf 108 = .ok (.iload_n 2, 1) := qd_p qo_28 (by decide +kernel)
theorem dX4_pullOf_109 : decode cX4_pullOf 109 = .ok (.bipush 20, 2) := qz_s1 .bipush 20 qo_16 (by decide +kernel) rfl
theorem dX4_pullOf_111 : decode cX4_pullOf 111 = .ok (.if_icmp .lt 10, 3) := qz_s2 (.if_icmp .lt) 0 10 qo_161 (by decide +kernel) rfl
theorem dX4_pullOf_114 : decode cX4_pullOf 114 = .ok (.iconst 2, 1) := qd_p qo_5 (by decide +kernel)
theorem dX4_pullOf_115 : decode cX4_pullOf 115 = .ok (.iload 4, 2) := qz_1 .iload 4 qo_21 (by decide +kernel)
theorem dX4_pullOf_117 : decode cX4_pullOf 117 = .ok (.imul, 1) := qd_p qo_104 (by decide +kernel)
theorem dX4_pullOf_118 : decode cX4_pullOf 118 = .ok (.goto 5, 3) := qz_s2 .goto 0 5 qo_167 (by decide +kernel) rfl
theorem dX4_pullOf_121 : decode cX4_pullOf 121 = .ok (.iload 4, 2) := qz_1 .iload 4 qo_21 (by decide +kernel)
theorem dX4_pullOf_123 : decode cX4_pullOf 123 = .ok (.ireturn, 1) := qd_p qo_172 (by decide +kernel)
theorem dX4_pullOf_124 : decode cX4_pullOf 124 = .ok (.iconst 1, 1) := qd_p qo_4 (by decide +kernel)
theorem dX4_pullOf_125 : decode cX4_pullOf 125 = .ok (.ireturn, 1) := qd_p qo_172 (by decide +kernel)
theorem dX4_allShown_0 : decode cX4_allShown 0 = .ok (.iconst 0, 1) := qd_p qo_3 (by decide +kernel)
theorem dX4_allShown_1 : decode cX4_allShown 1 = .ok (.istore_n 1, 1) := qd_p qo_60 (by decide +kernel)
theorem dX4_allShown_2 : decode cX4_allShown 2 = .ok (.iconst 0, 1) := qd_p qo_3 (by decide +kernel)
theorem dX4_allShown_3 : decode cX4_allShown 3 = .ok (.istore_n 2, 1) := qd_p qo_61 (by decide +kernel)
theorem dX4_allShown_4 : decode cX4_allShown 4 = .ok (.iload_n 2, 1) := qd_p qo_28 (by decide +kernel)
theorem dX4_allShown_5 : decode cX4_allShown 5 = .ok (.aload_n 0, 1) := qd_p qo_42 (by decide +kernel)
theorem dX4_allShown_6 : decode cX4_allShown 6 = .ok (.getfield 81, 3) := qz_2 .getfield 0 81 qo_180 (by decide +kernel) rfl
theorem dX4_allShown_9 : decode cX4_allShown 9 = .ok (.if_icmp .ge 18, 3) := qz_s2 (.if_icmp .ge) 0 18 qo_162 (by decide +kernel) rfl
theorem dX4_allShown_12 : decode cX4_allShown 12 = .ok (.iload_n 1, 1) := qd_p qo_27 (by decide +kernel)
theorem dX4_allShown_13 : decode cX4_allShown 13 = .ok (.aload_n 0, 1) := qd_p qo_42 (by decide +kernel)
theorem dX4_allShown_14 : decode cX4_allShown 14 = .ok (.getfield 13, 3) := qz_2 .getfield 0 13 qo_180 (by decide +kernel) rfl
theorem dX4_allShown_17 : decode cX4_allShown 17 = .ok (.iload_n 2, 1) := qd_p qo_28 (by decide +kernel)
theorem dX4_allShown_18 : decode cX4_allShown 18 = .ok (.iaload, 1) := qd_p qo_46 (by decide +kernel)
theorem dX4_allShown_19 : decode cX4_allShown 19 = .ok (.ior, 1) := qd_p qo_128 (by decide +kernel)
theorem dX4_allShown_20 : decode cX4_allShown 20 = .ok (.istore_n 1, 1) := qd_p qo_60 (by decide +kernel)
theorem dX4_allShown_21 : decode cX4_allShown 21 = .ok (.iinc 2 1, 3) := qd_i (x := 2) (y := 1) qo_132 (by decide +kernel) rfl
theorem dX4_allShown_24 : decode cX4_allShown 24 = .ok (.goto (-20), 3) := qz_s2 .goto 255 236 qo_167 (by decide +kernel) rfl
theorem dX4_allShown_27 : decode cX4_allShown 27 = .ok (.iload_n 1, 1) := qd_p qo_27 (by decide +kernel)
theorem dX4_allShown_28 : decode cX4_allShown 28 = .ok (.ireturn, 1) := qd_p qo_172 (by decide +kernel)
theorem dX4_seesIn_0 : decode cX4_seesIn 0 = .ok (.aload_n 0, 1) := qd_p qo_42 (by decide +kernel)
theorem dX4_seesIn_1 : decode cX4_seesIn 1 = .ok (.getfield 22, 3) := qz_2 .getfield 0 22 qo_180 (by decide +kernel) rfl
theorem dX4_seesIn_4 : decode cX4_seesIn 4 = .ok (.bipush 24, 2) := qz_s1 .bipush 24 qo_16 (by decide +kernel) rfl
theorem dX4_seesIn_6 : decode cX4_seesIn 6 = .ok (.iload_n 1, 1) := qd_p qo_27 (by decide +kernel)
theorem dX4_seesIn_7 : decode cX4_seesIn 7 = .ok (.imul, 1) := qd_p qo_104 (by decide +kernel)
theorem dX4_seesIn_8 : decode cX4_seesIn 8 = .ok (.iload_n 2, 1) := qd_p qo_28 (by decide +kernel)
theorem dX4_seesIn_9 : decode cX4_seesIn 9 = .ok (.iadd, 1) := qd_p qo_96 (by decide +kernel)
theorem dX4_seesIn_10 : decode cX4_seesIn 10 = .ok (.iaload, 1) := qd_p qo_46 (by decide +kernel)
theorem dX4_seesIn_11 : decode cX4_seesIn 11 = .ok (.istore_n 3, 1) := qd_p qo_62 (by decide +kernel)
theorem dX4_seesIn_12 : decode cX4_seesIn 12 = .ok (.aload_n 0, 1) := qd_p qo_42 (by decide +kernel)
theorem dX4_seesIn_13 : decode cX4_seesIn 13 = .ok (.getfield 16, 3) := qz_2 .getfield 0 16 qo_180 (by decide +kernel) rfl
theorem dX4_seesIn_16 : decode cX4_seesIn 16 = .ok (.iload_n 1, 1) := qd_p qo_27 (by decide +kernel)
theorem dX4_seesIn_17 : decode cX4_seesIn 17 = .ok (.iaload, 1) := qd_p qo_46 (by decide +kernel)
theorem dX4_seesIn_18 : decode cX4_seesIn 18 = .ok (.iconst 2, 1) := qd_p qo_5 (by decide +kernel)
theorem dX4_seesIn_19 : decode cX4_seesIn 19 = .ok (.if_icmp .ne 10, 3) := qz_s2 (.if_icmp .ne) 0 10 qo_160 (by decide +kernel) rfl
theorem dX4_seesIn_22 : decode cX4_seesIn 22 = .ok (.aload_n 0, 1) := qd_p qo_42 (by decide +kernel)
theorem dX4_seesIn_23 : decode cX4_seesIn 23 = .ok (.invokevirtual 96, 3) := qz_2 .invokevirtual 0 96 qo_182 (by decide +kernel) rfl
theorem dX4_seesIn_26 : decode cX4_seesIn 26 = .ok (.goto 17, 3) := qz_s2 .goto 0 17 qo_167 (by decide +kernel) rfl
theorem dX4_seesIn_29 : decode cX4_seesIn 29 = .ok (.iload_n 3, 1) := qd_p qo_29 (by decide +kernel)
theorem dX4_seesIn_30 : decode cX4_seesIn 30 = .ok (.ifCond .ge 7, 3) := qz_s2 (.ifCond .ge) 0 7 qo_156 (by decide +kernel) rfl
theorem dX4_seesIn_33 : decode cX4_seesIn 33 = .ok (.iconst 0, 1) := qd_p qo_3 (by decide +kernel)
theorem dX4_seesIn_34 : decode cX4_seesIn 34 = .ok (.goto 9, 3) := qz_s2 .goto 0 9 qo_167 (by decide +kernel) rfl
theorem dX4_seesIn_37 : decode cX4_seesIn 37 = .ok (.aload_n 0, 1) := qd_p qo_42 (by decide +kernel)
theorem dX4_seesIn_38 : decode cX4_seesIn 38 = .ok (.getfield 13, 3) := qz_2 .getfield 0 13 qo_180 (by decide +kernel) rfl
theorem dX4_seesIn_41 : decode cX4_seesIn 41 = .ok (.iload_n 3, 1) := qd_p qo_29 (by decide +kernel)
theorem dX4_seesIn_42 : decode cX4_seesIn 42 = .ok (.iaload, 1) := qd_p qo_46 (by decide +kernel)
theorem dX4_seesIn_43 : decode cX4_seesIn 43 = .ok (.ireturn, 1) := qd_p qo_172 (by decide +kernel)
theorem dX4_bringsOf_0 : decode cX4_bringsOf 0 = .ok (.iconst 0, 1) := qd_p qo_3 (by decide +kernel)
theorem dX4_bringsOf_1 : decode cX4_bringsOf 1 = .ok (.istore_n 3, 1) := qd_p qo_62 (by decide +kernel)
theorem dX4_bringsOf_2 : decode cX4_bringsOf 2 = .ok (.iconst 0, 1) := qd_p qo_3 (by decide +kernel)
theorem dX4_bringsOf_3 : decode cX4_bringsOf 3 = .ok (.istore 4, 2) := qz_1 .istore 4 qo_54 (by decide +kernel)
theorem dX4_bringsOf_5 : decode cX4_bringsOf 5 = .ok (.iload 4, 2) := qz_1 .iload 4 qo_21 (by decide +kernel)
theorem dX4_bringsOf_7 : decode cX4_bringsOf 7 = .ok (.bipush 24, 2) := qz_s1 .bipush 24 qo_16 (by decide +kernel) rfl
theorem dX4_bringsOf_9 : decode cX4_bringsOf 9 = .ok (.if_icmp .ge 37, 3) := qz_s2 (.if_icmp .ge) 0 37 qo_162 (by decide +kernel) rfl
theorem dX4_bringsOf_12 : decode cX4_bringsOf 12 = .ok (.iload_n 3, 1) := qd_p qo_29 (by decide +kernel)
theorem dX4_bringsOf_13 : decode cX4_bringsOf 13 = .ok (.aload_n 0, 1) := qd_p qo_42 (by decide +kernel)
theorem dX4_bringsOf_14 : decode cX4_bringsOf 14 = .ok (.iload_n 1, 1) := qd_p qo_27 (by decide +kernel)
theorem dX4_bringsOf_15 : decode cX4_bringsOf 15 = .ok (.iload 4, 2) := qz_1 .iload 4 qo_21 (by decide +kernel)
theorem dX4_bringsOf_17 : decode cX4_bringsOf 17 = .ok (.invokevirtual 100, 3) := qz_2 .invokevirtual 0 100 qo_182 (by decide +kernel) rfl
theorem dX4_bringsOf_20 : decode cX4_bringsOf 20 = .ok (.iload_n 2, 1) := qd_p qo_28 (by decide +kernel)
theorem dX4_bringsOf_21 : decode cX4_bringsOf 21 = .ok (.invokestatic 104, 3) := qz_2 .invokestatic 0 104 qo_184 (by decide +kernel) rfl
theorem dX4_bringsOf_24 : decode cX4_bringsOf 24 = .ok (.ifCond .eq 13, 3) := qz_s2 (.ifCond .eq) 0 13 qo_153 (by decide +kernel) rfl
theorem dX4_bringsOf_27 : decode cX4_bringsOf 27 = .ok (.aload_n 0, 1) := qd_p qo_42 (by decide +kernel)
theorem dX4_bringsOf_28 : decode cX4_bringsOf 28 = .ok (.iload_n 1, 1) := qd_p qo_27 (by decide +kernel)
theorem dX4_bringsOf_29 : decode cX4_bringsOf 29 = .ok (.iload 4, 2) := qz_1 .iload 4 qo_21 (by decide +kernel)
theorem dX4_bringsOf_31 : decode cX4_bringsOf 31 = .ok (.invokevirtual 108, 3) := qz_2 .invokevirtual 0 108 qo_182 (by decide +kernel) rfl
theorem dX4_bringsOf_34 : decode cX4_bringsOf 34 = .ok (.goto 4, 3) := qz_s2 .goto 0 4 qo_167 (by decide +kernel) rfl
theorem dX4_bringsOf_37 : decode cX4_bringsOf 37 = .ok (.iconst 0, 1) := qd_p qo_3 (by decide +kernel)
theorem dX4_bringsOf_38 : decode cX4_bringsOf 38 = .ok (.iadd, 1) := qd_p qo_96 (by decide +kernel)
theorem dX4_bringsOf_39 : decode cX4_bringsOf 39 = .ok (.istore_n 3, 1) := qd_p qo_62 (by decide +kernel)
theorem dX4_bringsOf_40 : decode cX4_bringsOf 40 = .ok (.iinc 4 1, 3) := qd_i (x := 4) (y := 1) qo_132 (by decide +kernel) rfl
theorem dX4_bringsOf_43 : decode cX4_bringsOf 43 = .ok (.goto (-38), 3) := qz_s2 .goto 255 218 qo_167 (by decide +kernel) rfl
theorem dX4_bringsOf_46 : decode cX4_bringsOf 46 = .ok (.iload_n 3, 1) := qd_p qo_29 (by decide +kernel)
theorem dX4_bringsOf_47 : decode cX4_bringsOf 47 = .ok (.ireturn, 1) := qd_p qo_172 (by decide +kernel)
theorem dX4_layBrings_0 : decode cX4_layBrings 0 = .ok (.iconst 0, 1) := qd_p qo_3 (by decide +kernel)
theorem dX4_layBrings_1 : decode cX4_layBrings 1 = .ok (.istore_n 1, 1) := qd_p qo_60 (by decide +kernel)
theorem dX4_layBrings_2 : decode cX4_layBrings 2 = .ok (.iload_n 1, 1) := qd_p qo_27 (by decide +kernel)
theorem dX4_layBrings_3 : decode cX4_layBrings 3 = .ok (.aload_n 0, 1) := qd_p qo_42 (by decide +kernel)
theorem dX4_layBrings_4 : decode cX4_layBrings 4 = .ok (.getfield 74, 3) := qz_2 .getfield 0 74 qo_180 (by decide +kernel) rfl
theorem dX4_layBrings_7 : decode cX4_layBrings 7 = .ok (.if_icmp .ge 40, 3) := qz_s2 (.if_icmp .ge) 0 40 qo_162 (by decide +kernel) rfl
theorem dX4_layBrings_10 : decode cX4_layBrings 10 = .ok (.iconst 0, 1) := qd_p qo_3 (by decide +kernel)
theorem dX4_layBrings_11 : decode cX4_layBrings 11 = .ok (.istore_n 2, 1) := qd_p qo_61 (by decide +kernel)
theorem dX4_layBrings_12 : decode cX4_layBrings 12 = .ok (.iload_n 2, 1) := qd_p qo_28 (by decide +kernel)
theorem dX4_layBrings_13 : decode cX4_layBrings 13 = .ok (.bipush 8, 2) := qz_s1 .bipush 8 qo_16 (by decide +kernel) rfl
theorem dX4_layBrings_15 : decode cX4_layBrings 15 = .ok (.if_icmp .ge 26, 3) := qz_s2 (.if_icmp .ge) 0 26 qo_162 (by decide +kernel) rfl
theorem dX4_layBrings_18 : decode cX4_layBrings 18 = .ok (.aload_n 0, 1) := qd_p qo_42 (by decide +kernel)
theorem dX4_layBrings_19 : decode cX4_layBrings 19 = .ok (.getfield 31, 3) := qz_2 .getfield 0 31 qo_180 (by decide +kernel) rfl
theorem dX4_layBrings_22 : decode cX4_layBrings 22 = .ok (.bipush 8, 2) := qz_s1 .bipush 8 qo_16 (by decide +kernel) rfl
theorem dX4_layBrings_24 : decode cX4_layBrings 24 = .ok (.iload_n 1, 1) := qd_p qo_27 (by decide +kernel)
theorem dX4_layBrings_25 : decode cX4_layBrings 25 = .ok (.imul, 1) := qd_p qo_104 (by decide +kernel)
theorem dX4_layBrings_26 : decode cX4_layBrings 26 = .ok (.iload_n 2, 1) := qd_p qo_28 (by decide +kernel)
theorem dX4_layBrings_27 : decode cX4_layBrings 27 = .ok (.iadd, 1) := qd_p qo_96 (by decide +kernel)
theorem dX4_layBrings_28 : decode cX4_layBrings 28 = .ok (.aload_n 0, 1) := qd_p qo_42 (by decide +kernel)
theorem dX4_layBrings_29 : decode cX4_layBrings 29 = .ok (.iload_n 1, 1) := qd_p qo_27 (by decide +kernel)
theorem dX4_layBrings_30 : decode cX4_layBrings 30 = .ok (.iload_n 2, 1) := qd_p qo_28 (by decide +kernel)
theorem dX4_layBrings_31 : decode cX4_layBrings 31 = .ok (.invokevirtual 111, 3) := qz_2 .invokevirtual 0 111 qo_182 (by decide +kernel) rfl
theorem dX4_layBrings_34 : decode cX4_layBrings 34 = .ok (.iastore, 1) := qd_p qo_79 (by decide +kernel)
theorem dX4_layBrings_35 : decode cX4_layBrings 35 = .ok (.iinc 2 1, 3) := qd_i (x := 2) (y := 1) qo_132 (by decide +kernel) rfl
theorem dX4_layBrings_38 : decode cX4_layBrings 38 = .ok (.goto (-26), 3) := qz_s2 .goto 255 230 qo_167 (by decide +kernel) rfl
theorem dX4_layBrings_41 : decode cX4_layBrings 41 = .ok (.iinc 1 1, 3) := qd_i (x := 1) (y := 1) qo_132 (by decide +kernel) rfl
theorem dX4_layBrings_44 : decode cX4_layBrings 44 = .ok (.goto (-42), 3) := qz_s2 .goto 255 214 qo_167 (by decide +kernel) rfl
theorem dX4_layBrings_47 : decode cX4_layBrings 47 = .ok (.return_, 1) := qd_p qo_177 (by decide +kernel)
theorem dX4_held_0 : decode cX4_held 0 = .ok (.iload_n 0, 1) := qd_p qo_26 (by decide +kernel)
theorem dX4_held_1 : decode cX4_held 1 = .ok (.ldc 114, 2) := qz_1 .ldc 114 qo_18 (by decide +kernel)
theorem dX4_held_3 : decode cX4_held 3 = .ok (.if_icmp .le 8, 3) := qz_s2 (.if_icmp .le) 0 8 qo_164 (by decide +kernel) rfl
theorem dX4_held_6 : decode cX4_held 6 = .ok (.ldc 114, 2) := qz_1 .ldc 114 qo_18 (by decide +kernel)
theorem dX4_held_8 : decode cX4_held 8 = .ok (.goto 4, 3) := qz_s2 .goto 0 4 qo_167 (by decide +kernel) rfl
theorem dX4_held_11 : decode cX4_held 11 = .ok (.iload_n 0, 1) := qd_p qo_26 (by decide +kernel)
theorem dX4_held_12 : decode cX4_held 12 = .ok (.ireturn, 1) := qd_p qo_172 (by decide +kernel)
section
variable {p : Program} {l : Launch} {e : Env} {s : State} {m : MethodId} {args : Array Value} {below : List Frame} {meth : Method} {c : Code} {D : va_G} {tI tII : ClassId} {B : Nat}
set_option maxHeartbeats 4000000 in
set_option maxRecDepth 100000 in
theorem w_X3_duels_70 (C : wt_C p s m args meth c RX3 cX3_duels 6 (some .int) D tI tII) {F : Nat} {k30 : Int32 → Int32 → Mem → Option (Int32 × Mem)} {x1 : Int32} {x2 : Int32} {x4 : Int32} {x5 : Int32} {σ : Mem} {r : Int32} {σ' : Mem} {H : Heap} {locs : List Loc} {ls : Array Slot} (hk30 : ∀ (x4 : Int32) (x5 : Int32) (σ : Mem) (H : Heap) (locs : List Loc) (ls : Array Slot), k30 x4 x5 σ = some (r, σ') → wt_St D tI tII B σ s H locs → lv_has ls 6 [(0, .ref (B + 0)), (1, .int x1), (2, .int x2), (4, .int x4), (5, .int x5)] → W p l e rm_X3_duels s m args below meth c H locs 0 0 (MQ below (wt_Qi D tI tII B r σ') args s 0 0 (fun q => B ≤ q)) (F0 m 30 ls [])) (hf : j_X3_duels_70 F k30 x1 x2 x4 x5 σ = some (r, σ')) (hM : wt_St D tI tII B σ s H locs) (hl : lv_has ls 6 [(0, .ref (B + 0)), (1, .int x1), (2, .int x2), (4, .int x4), (5, .int x5)]) : W p l e rm_X3_duels s m args below meth c H locs 0 0 (MQ below (wt_Qi D tI tII B r σ') args s 0 0 (fun q => B ≤ q)) (F0 m 70 ls []) := by
  obtain ⟨hx, hb, hts, hown, hml, hr, hlk, hK⟩ := id C
  replace hf := Eq.trans j_X3_duels_70_e.symm hf
  refine lv_iinc (v := (x5 + (1 : Int32))) (lv' := [(5, .int (x5 + (1 : Int32))), (0, .ref (B + 0)), (1, .int x1), (2, .int x2), (4, .int x4)]) hx hb dX3_duels_70 hl (k := 4) rfl rfl (by decide) rfl (fun ls hl => ?_)
  refine lv_goto (tgt := 30) hx hb dX3_duels_73 (by decide) ?_
  exact hk30 _ _ _ _ _ _ hf hM (lv_sub hl [1, 2, 3, 4, 0] rfl)
set_option maxHeartbeats 4000000 in
set_option maxRecDepth 100000 in
theorem w_X3_duels_30 (C : wt_C p s m args meth c RX3 cX3_duels 6 (some .int) D tI tII) {F : Nat} {x1 : Int32} {x2 : Int32} {r : Int32} {σ' : Mem} : ∀ (N : Nat) (x4 : Int32) (x5 : Int32) (σ : Mem) (H : Heap) (locs : List Loc) (ls : Array Slot), lp_X3_duels_30 F x1 x2 N x4 x5 σ = some (r, σ') → wt_St D tI tII B σ s H locs → lv_has ls 6 [(0, .ref (B + 0)), (1, .int x1), (2, .int x2), (4, .int x4), (5, .int x5)] → W p l e rm_X3_duels s m args below meth c H locs 0 0 (MQ below (wt_Qi D tI tII B r σ') args s 0 0 (fun q => B ≤ q)) (F0 m 30 ls []) := by
  obtain ⟨hx, hb, hts, hown, hml, hr, hlk, hK⟩ := id C
  intro N
  induction N with
  | zero => intro x4 x5 σ H locs ls hf; exact wt_none (show (none : Option (Int32 × Mem)) = some (r, σ') from hf)
  | succ N ih =>
    intro x4 x5 σ H locs ls hf hM hl
    replace hf := Eq.trans lp_X3_duels_30_s.symm hf
    refine lv_iload hx hb dX3_duels_30 (lv_at hl 4 rfl) ?_
    refine lv_bipush (v := 8) hx hb dX3_duels_32 (by decide) ?_
    refine wq_icmp_ge (tgt := 76) hx hb dX3_duels_34 (by decide) hf (fun hf => ?_) (fun hf => ?_)
    · refine lv_iload hx hb dX3_duels_76 (lv_at hl 3 rfl) ?_
      exact wt_iret hx hb hr hlk hK hM hf dX3_duels_78
    refine lv_aload_n hx hb dX3_duels_37 rfl (lv_at hl 0 rfl) ?_
    refine gf_X3_house  hx hb hts hown hK hM tw_114 dX3_duels_38 ?_
    refine gf_X0_gains wt_h1 hx hb hts hown hK hM tw_47 dX3_duels_41 ?_
    refine lv_iload_n hx hb dX3_duels_44 rfl (lv_at hl 1 rfl) ?_
    obtain ⟨i1, hf⟩ := wt_chk_of hf
    refine wt_ald hx hb hK hM (wt_aaH_17 wt_h1) i1 dX3_duels_45 ?_
    refine lv_iload hx hb dX3_duels_46 (lv_at hl 4 rfl) ?_
    obtain ⟨i2, hf⟩ := wt_chk_of hf
    refine wt_ild hx hb hK hM (wt_rH_17 wt_h1 i1) i2 dX3_duels_48 ?_
    refine wq_if_le (tgt := 70) hx hb dX3_duels_49 (by decide) hf (fun hf => ?_) (fun hf => ?_)
    · exact w_X3_duels_70 C ih hf hM hl
    refine lv_aload_n hx hb dX3_duels_52 rfl (lv_at hl 0 rfl) ?_
    refine gf_X3_house  hx hb hts hown hK hM tw_114 dX3_duels_53 ?_
    refine gf_X0_gains wt_h1 hx hb hts hown hK hM tw_47 dX3_duels_56 ?_
    refine lv_iload_n hx hb dX3_duels_59 rfl (lv_at hl 2 rfl) ?_
    obtain ⟨i3, hf⟩ := wt_chk_of hf
    refine wt_ald hx hb hK hM (wt_aaH_17 wt_h1) i3 dX3_duels_60 ?_
    refine lv_iload hx hb dX3_duels_61 (lv_at hl 4 rfl) ?_
    refine wt_ild hx hb hK hM (wt_rH_17 wt_h1 i3) i2 dX3_duels_63 ?_
    refine wq_if_le (tgt := 70) hx hb dX3_duels_64 (by decide) hf (fun hf => ?_) (fun hf => ?_)
    · exact w_X3_duels_70 C ih hf hM hl
    refine lv_iinc (v := (x4 + (1 : Int32))) (lv' := [(4, .int (x4 + (1 : Int32))), (0, .ref (B + 0)), (1, .int x1), (2, .int x2), (5, .int x5)]) hx hb dX3_duels_67 hl (k := 3) rfl rfl (by decide) rfl (fun ls hl => ?_)
    exact w_X3_duels_70 C ih hf hM (lv_sub hl [1, 2, 3, 0, 4] rfl)
set_option maxHeartbeats 4000000 in
set_option maxRecDepth 100000 in
theorem w_X3_duels_0 (C : wt_C p s m args meth c RX3 cX3_duels 6 (some .int) D tI tII) {F : Nat} {x1 : Int32} {x2 : Int32} {σ : Mem} {r : Int32} {σ' : Mem} {H : Heap} {locs : List Loc} {ls : Array Slot} (hf : f_X3_duels F x1 x2 σ = some (r, σ')) (hM : wt_St D tI tII B σ s H locs) (hl : lv_has ls 6 [(0, .ref (B + 0)), (1, .int x1), (2, .int x2)]) : W p l e rm_X3_duels s m args below meth c H locs 0 0 (MQ below (wt_Qi D tI tII B r σ') args s 0 0 (fun q => B ≤ q)) (F0 m 0 ls []) := by
  obtain ⟨hx, hb, hts, hown, hml, hr, hlk, hK⟩ := id C
  replace hf := Eq.trans f_X3_duels_e.symm hf
  refine lv_aload_n hx hb dX3_duels_0 rfl (lv_at hl 0 rfl) ?_
  refine lv_iload_n hx hb dX3_duels_1 rfl (lv_at hl 1 rfl) ?_
  refine lv_iload_n hx hb dX3_duels_2 rfl (lv_at hl 2 rfl) ?_
  refine wt_callVi (As := [.int x1, .int x2]) (rest := []) hx hb hml hts hown hK hM wt_rc_X3 cw_X3_89 hd_X3_noPair rfl ⟨qz_b rfl, qz_b rfl⟩ ⟨rfl, rfl⟩ hl.1 rfl (qz_b rfl) dX3_duels_3 hf (fun _ _ h9 => c_X3_noPair h9) (fun r4 s5 H locs hf hM => ?_)
  refine lv_istore_n (lv' := [(3, .int r4), (0, .ref (B + 0)), (1, .int x1), (2, .int x2)]) hx hb dX3_duels_6 rfl hl (by decide) rfl (fun ls hl => ?_)
  refine lv_iload_n hx hb dX3_duels_7 rfl (lv_at hl 0 rfl) ?_
  refine wq_if_eq (tgt := 17) hx hb dX3_duels_8 (by decide) hf (fun hf => ?_) (fun hf => ?_)
  · refine lv_aload_n hx hb dX3_duels_17 rfl (lv_at hl 1 rfl) ?_
    refine gf_X3_house  hx hb hts hown hK hM tw_114 dX3_duels_18 ?_
    refine wt_callVv (As := []) (rest := []) hx hb hml hts hown hK hM (wt_rc_X0 wt_h1) cw_X3_141 hd_X0_reckon rfl ⟨qz_b rfl, qz_b rfl⟩ ⟨rfl, rfl⟩ hl.1 rfl (qz_b rfl) dX3_duels_21 hf (fun _ _ h9 => c_X0_reckon wt_h1 h9) (fun r6 s7 H locs hf hM => ?_)
    refine lv_iconst (v := 0) hx hb dX3_duels_24 (by decide) ?_
    refine lv_istore (lv' := [(4, .int (0 : Int32)), (3, .int r4), (0, .ref (B + 0)), (1, .int x1), (2, .int x2)]) hx hb dX3_duels_25 hl (by decide) rfl (fun ls hl => ?_)
    refine lv_iconst (v := 0) hx hb dX3_duels_27 (by decide) ?_
    refine lv_istore (lv' := [(5, .int (0 : Int32)), (4, .int (0 : Int32)), (3, .int r4), (0, .ref (B + 0)), (1, .int x1), (2, .int x2)]) hx hb dX3_duels_28 hl (by decide) rfl (fun ls hl => ?_)
    exact w_X3_duels_30 C _ _ _ _ _ _ _ hf hM (lv_sub hl [3, 4, 5, 1, 0] rfl)
  refine lv_aload_n hx hb dX3_duels_11 rfl (lv_at hl 1 rfl) ?_
  refine lv_iload_n hx hb dX3_duels_12 rfl (lv_at hl 0 rfl) ?_
  refine wt_callVi (As := [.int r4]) (rest := []) hx hb hml hts hown hK hM wt_rc_X3 cw_X3_61 hd_X3_refuse rfl ⟨qz_b rfl, qz_b rfl⟩ ⟨rfl, rfl⟩ hl.1 rfl (qz_b rfl) dX3_duels_13 hf (fun _ _ h9 => c_X3_refuse h9) (fun r8 s9 H locs hf hM => ?_)
  exact wt_iret hx hb hr hlk hK hM hf dX3_duels_16
end
set_option maxHeartbeats 4000000 in
set_option maxRecDepth 100000 in
theorem c_X3_duels {l : Launch} {D : va_G} {tI tII : ClassId} {B F : Nat} {x1 : Int32} {x2 : Int32} {σ σ' : Mem} {r : Int32} (hf : f_X3_duels F x1 x2 σ = some (r, σ')) : wt_Mi l yX3_duels cX3_duels 6 (some .int) rm_X3_duels [.ref (B + 0), .int x1, .int x2] D tI tII B σ r σ' := by
  refine Met.ofW (cc := cX3_duels) (maxL := 6) (ret := (some .int)) (by decide) rfl ?_
  intro p e s m args below meth c s₁ B9 hml hv
  obtain ⟨rfl, hP, hK⟩ := hv
  have hl := lv_entry ([.ref (B + 0), .int x1, .int x2]) (n := 6) (qz_b rfl)
  rw [lg_entry_eq]
  generalize (lg_sl ([.ref (B + 0), .int x1, .int x2]) ++ List.replicate (6 - (lg_sl ([.ref (B + 0), .int x1, .int x2])).length) Slot.unset).toArray = ls at hl ⊢
  exact w_X3_duels_0 (wt_C_of B9 hml hK) hf ⟨hP, va_S.rf⟩ hl
section
variable {p : Program} {l : Launch} {e : Env} {s : State} {m : MethodId} {args : Array Value} {below : List Frame} {meth : Method} {c : Code} {D : va_G} {tI tII : ClassId} {B : Nat}
set_option maxHeartbeats 4000000 in
set_option maxRecDepth 100000 in
theorem w_X3_row_24 (C : wt_C p s m args meth c RX3 cX3_row 3 (some .int) D tI tII) {F : Nat} {x1 : Int32} {x2 : Int32} {σ : Mem} {r : Int32} {σ' : Mem} {H : Heap} {locs : List Loc} {ls : Array Slot} (hf : j_X3_row_24 F x1 x2 σ = some (r, σ')) (hM : wt_St D tI tII B σ s H locs) (hl : lv_has ls 3 [(0, .ref (B + 0)), (1, .int x1), (2, .int x2)]) : W p l e rm_X3_row s m args below meth c H locs 0 0 (MQ below (wt_Qi D tI tII B r σ') args s 0 0 (fun q => B ≤ q)) (F0 m 24 ls []) := by
  obtain ⟨hx, hb, hts, hown, hml, hr, hlk, hK⟩ := id C
  replace hf := Eq.trans j_X3_row_24_e.symm hf
  refine lv_iload_n hx hb dX3_row_24 rfl (lv_at hl 2 rfl) ?_
  refine wq_if_eq (tgt := 34) hx hb dX3_row_25 (by decide) hf (fun hf => ?_) (fun hf => ?_)
  · refine lv_aload_n hx hb dX3_row_34 rfl (lv_at hl 0 rfl) ?_
    refine gf_X3_rowNumbers  hx hb hts hown hK hM tw_120 dX3_row_35 ?_
    refine lv_aload_n hx hb dX3_row_38 rfl (lv_at hl 0 rfl) ?_
    refine gf_X3_rowSize  hx hb hts hown hK hM tw_121 dX3_row_39 ?_
    refine lv_iload_n hx hb dX3_row_42 rfl (lv_at hl 1 rfl) ?_
    obtain ⟨i1, hf⟩ := wt_chk_of hf
    refine wt_ist hx hb hK hM wt_a85 i1 dX3_row_43 hf (fun s2 H locs hf hM => ?_)
    refine lv_aload_n hx hb dX3_row_44 rfl (lv_at hl 0 rfl) ?_
    refine lv_dup hx hb dX3_row_45 rfl ?_
    refine gf_X3_rowSize  hx hb hts hown hK hM tw_121 dX3_row_46 ?_
    refine lv_iconst (v := 1) hx hb dX3_row_49 (by decide) ?_
    refine lv_iadd hx hb dX3_row_50 ?_
    refine pf_X3_rowSize  hx hb hts hown hK hM tw_121 dX3_row_51 hf (fun s3 H locs hf hM => ?_)
    refine lv_aload_n hx hb dX3_row_54 rfl (lv_at hl 0 rfl) ?_
    refine gf_X3_rowSize  hx hb hts hown hK hM tw_121 dX3_row_55 ?_
    exact wt_iret hx hb hr hlk hK hM hf dX3_row_58
  refine lv_aload_n hx hb dX3_row_28 rfl (lv_at hl 0 rfl) ?_
  refine lv_iload_n hx hb dX3_row_29 rfl (lv_at hl 2 rfl) ?_
  refine wt_callVi (As := [.int x2]) (rest := []) hx hb hml hts hown hK hM wt_rc_X3 cw_X3_61 hd_X3_refuse rfl ⟨qz_b rfl, qz_b rfl⟩ ⟨rfl, rfl⟩ hl.1 rfl (qz_b rfl) dX3_row_30 hf (fun _ _ h9 => c_X3_refuse h9) (fun r4 s5 H locs hf hM => ?_)
  exact wt_iret hx hb hr hlk hK hM hf dX3_row_33
set_option maxHeartbeats 4000000 in
set_option maxRecDepth 100000 in
theorem w_X3_row_0 (C : wt_C p s m args meth c RX3 cX3_row 3 (some .int) D tI tII) {F : Nat} {x1 : Int32} {σ : Mem} {r : Int32} {σ' : Mem} {H : Heap} {locs : List Loc} {ls : Array Slot} (hf : f_X3_row F x1 σ = some (r, σ')) (hM : wt_St D tI tII B σ s H locs) (hl : lv_has ls 3 [(0, .ref (B + 0)), (1, .int x1)]) : W p l e rm_X3_row s m args below meth c H locs 0 0 (MQ below (wt_Qi D tI tII B r σ') args s 0 0 (fun q => B ≤ q)) (F0 m 0 ls []) := by
  obtain ⟨hx, hb, hts, hown, hml, hr, hlk, hK⟩ := id C
  replace hf := Eq.trans f_X3_row_e.symm hf
  refine lv_iload_n hx hb dX3_row_0 rfl (lv_at hl 1 rfl) ?_
  refine lv_iconst (v := 0) hx hb dX3_row_1 (by decide) ?_
  refine lv_bipush (v := 99) hx hb dX3_row_2 (by decide) ?_
  refine wt_callSi (As := [.int x1, .int (0 : Int32), .int (99 : Int32)]) (rest := []) hx hb hml hts hown hK hM cw_X3_81 hd_X3_outside rfl ⟨qz_b rfl, qz_b rfl⟩ ⟨rfl, rfl⟩ hl.1 rfl (qz_b rfl) dX3_row_4 hf (fun _ _ h9 => c_X3_outside h9) (fun r6 s7 H locs hf hM => ?_)
  refine lv_istore_n (lv' := [(2, .int r6), (0, .ref (B + 0)), (1, .int x1)]) hx hb dX3_row_7 rfl hl (by decide) rfl (fun ls hl => ?_)
  refine lv_iload_n hx hb dX3_row_8 rfl (lv_at hl 0 rfl) ?_
  refine wq_if_ne (tgt := 24) hx hb dX3_row_9 (by decide) hf (fun hf => ?_) (fun hf => ?_)
  · exact w_X3_row_24 C hf hM (lv_sub hl [1, 2, 0] rfl)
  refine lv_aload_n hx hb dX3_row_12 rfl (lv_at hl 1 rfl) ?_
  refine gf_X3_rowSize  hx hb hts hown hK hM tw_121 dX3_row_13 ?_
  refine lv_bipush (v := 12) hx hb dX3_row_16 (by decide) ?_
  refine wq_icmp_lt (tgt := 24) hx hb dX3_row_18 (by decide) hf (fun hf => ?_) (fun hf => ?_)
  · exact w_X3_row_24 C hf hM (lv_sub hl [1, 2, 0] rfl)
  refine lv_bipush (v := -6) hx hb dX3_row_21 (by decide) ?_
  refine lv_istore_n (lv' := [(2, .int (-6 : Int32)), (0, .ref (B + 0)), (1, .int x1)]) hx hb dX3_row_23 rfl hl (by decide) rfl (fun ls hl => ?_)
  exact w_X3_row_24 C hf hM (lv_sub hl [1, 2, 0] rfl)
end
set_option maxHeartbeats 4000000 in
set_option maxRecDepth 100000 in
theorem c_X3_row {l : Launch} {D : va_G} {tI tII : ClassId} {B F : Nat} {x1 : Int32} {σ σ' : Mem} {r : Int32} (hf : f_X3_row F x1 σ = some (r, σ')) : wt_Mi l yX3_row cX3_row 3 (some .int) rm_X3_row [.ref (B + 0), .int x1] D tI tII B σ r σ' := by
  refine Met.ofW (cc := cX3_row) (maxL := 3) (ret := (some .int)) (by decide) rfl ?_
  intro p e s m args below meth c s₁ B9 hml hv
  obtain ⟨rfl, hP, hK⟩ := hv
  have hl := lv_entry ([.ref (B + 0), .int x1]) (n := 3) (qz_b rfl)
  rw [lg_entry_eq]
  generalize (lg_sl ([.ref (B + 0), .int x1]) ++ List.replicate (3 - (lg_sl ([.ref (B + 0), .int x1])).length) Slot.unset).toArray = ls at hl ⊢
  exact w_X3_row_0 (wt_C_of B9 hml hK) hf ⟨hP, va_S.rf⟩ hl
section
variable {p : Program} {l : Launch} {e : Env} {s : State} {m : MethodId} {args : Array Value} {below : List Frame} {meth : Method} {c : Code} {D : va_G} {tI tII : ClassId} {B : Nat}
set_option maxHeartbeats 4000000 in
set_option maxRecDepth 100000 in
theorem w_X3_judge_62 (C : wt_C p s m args meth c RX3 cX3_judge 4 (some .int) D tI tII) {F : Nat} {k25 : Int32 → Int32 → Mem → Option (Int32 × Mem)} {x1 : Int32} {x2 : Int32} {x3 : Int32} {σ : Mem} {r : Int32} {σ' : Mem} {H : Heap} {locs : List Loc} {ls : Array Slot} (hk25 : ∀ (x2 : Int32) (x3 : Int32) (σ : Mem) (H : Heap) (locs : List Loc) (ls : Array Slot), k25 x2 x3 σ = some (r, σ') → wt_St D tI tII B σ s H locs → lv_has ls 4 [(0, .ref (B + 0)), (1, .int x1), (2, .int x2), (3, .int x3)] → W p l e rm_X3_judge s m args below meth c H locs 0 0 (MQ below (wt_Qi D tI tII B r σ') args s 0 0 (fun q => B ≤ q)) (F0 m 25 ls [])) (hf : j_X3_judge_62 F k25 x1 x2 x3 σ = some (r, σ')) (hM : wt_St D tI tII B σ s H locs) (hl : lv_has ls 4 [(0, .ref (B + 0)), (1, .int x1), (2, .int x2), (3, .int x3)]) : W p l e rm_X3_judge s m args below meth c H locs 0 0 (MQ below (wt_Qi D tI tII B r σ') args s 0 0 (fun q => B ≤ q)) (F0 m 62 ls []) := by
  obtain ⟨hx, hb, hts, hown, hml, hr, hlk, hK⟩ := id C
  replace hf := Eq.trans j_X3_judge_62_e.symm hf
  refine lv_iinc (v := (x3 + (1 : Int32))) (lv' := [(3, .int (x3 + (1 : Int32))), (0, .ref (B + 0)), (1, .int x1), (2, .int x2)]) hx hb dX3_judge_62 hl (k := 3) rfl rfl (by decide) rfl (fun ls hl => ?_)
  refine lv_goto (tgt := 25) hx hb dX3_judge_65 (by decide) ?_
  exact hk25 _ _ _ _ _ _ hf hM (lv_sub hl [1, 2, 3, 0] rfl)
set_option maxHeartbeats 4000000 in
set_option maxRecDepth 100000 in
theorem w_X3_judge_68 (C : wt_C p s m args meth c RX3 cX3_judge 4 (some .int) D tI tII) {F : Nat} {x2 : Int32} {σ : Mem} {r : Int32} {σ' : Mem} {H : Heap} {locs : List Loc} {ls : Array Slot} (hf : j_X3_judge_68 F x2 σ = some (r, σ')) (hM : wt_St D tI tII B σ s H locs) (hl : lv_has ls 4 [(0, .ref (B + 0)), (2, .int x2)]) : W p l e rm_X3_judge s m args below meth c H locs 0 0 (MQ below (wt_Qi D tI tII B r σ') args s 0 0 (fun q => B ≤ q)) (F0 m 68 ls []) := by
  obtain ⟨hx, hb, hts, hown, hml, hr, hlk, hK⟩ := id C
  replace hf := Eq.trans j_X3_judge_68_e.symm hf
  refine lv_aload_n hx hb dX3_judge_68 rfl (lv_at hl 0 rfl) ?_
  refine lv_iconst (v := 0) hx hb dX3_judge_69 (by decide) ?_
  refine pf_X3_rowSize  hx hb hts hown hK hM tw_121 dX3_judge_70 hf (fun s1 H locs hf hM => ?_)
  refine lv_iload_n hx hb dX3_judge_73 rfl (lv_at hl 1 rfl) ?_
  exact wt_iret hx hb hr hlk hK hM hf dX3_judge_74
set_option maxHeartbeats 4000000 in
set_option maxRecDepth 100000 in
theorem w_X3_judge_25 (C : wt_C p s m args meth c RX3 cX3_judge 4 (some .int) D tI tII) {F : Nat} {x1 : Int32} {r : Int32} {σ' : Mem} : ∀ (N : Nat) (x2 : Int32) (x3 : Int32) (σ : Mem) (H : Heap) (locs : List Loc) (ls : Array Slot), lp_X3_judge_25 F x1 N x2 x3 σ = some (r, σ') → wt_St D tI tII B σ s H locs → lv_has ls 4 [(0, .ref (B + 0)), (1, .int x1), (2, .int x2), (3, .int x3)] → W p l e rm_X3_judge s m args below meth c H locs 0 0 (MQ below (wt_Qi D tI tII B r σ') args s 0 0 (fun q => B ≤ q)) (F0 m 25 ls []) := by
  obtain ⟨hx, hb, hts, hown, hml, hr, hlk, hK⟩ := id C
  intro N
  induction N with
  | zero => intro x2 x3 σ H locs ls hf; exact wt_none (show (none : Option (Int32 × Mem)) = some (r, σ') from hf)
  | succ N ih =>
    intro x2 x3 σ H locs ls hf hM hl
    replace hf := Eq.trans lp_X3_judge_25_s.symm hf
    refine lv_iload_n hx hb dX3_judge_25 rfl (lv_at hl 3 rfl) ?_
    refine lv_aload_n hx hb dX3_judge_26 rfl (lv_at hl 0 rfl) ?_
    refine gf_X3_rowSize  hx hb hts hown hK hM tw_121 dX3_judge_27 ?_
    refine wq_icmp_ge (tgt := 68) hx hb dX3_judge_30 (by decide) hf (fun hf => ?_) (fun hf => ?_)
    · exact w_X3_judge_68 C hf hM (lv_sub hl [0, 2] rfl)
    refine lv_iload_n hx hb dX3_judge_33 rfl (lv_at hl 2 rfl) ?_
    refine lv_bipush (v := -9) hx hb dX3_judge_34 (by decide) ?_
    refine wq_icmp_ne (tgt := 68) hx hb dX3_judge_36 (by decide) hf (fun hf => ?_) (fun hf => ?_)
    · exact w_X3_judge_68 C hf hM (lv_sub hl [0, 2] rfl)
    refine lv_aload_n hx hb dX3_judge_39 rfl (lv_at hl 0 rfl) ?_
    refine gf_X3_rowNumbers  hx hb hts hown hK hM tw_120 dX3_judge_40 ?_
    refine lv_iload_n hx hb dX3_judge_43 rfl (lv_at hl 3 rfl) ?_
    obtain ⟨i2, hf⟩ := wt_chk_of hf
    refine wt_ild hx hb hK hM wt_a85 i2 dX3_judge_44 ?_
    refine lv_aload_n hx hb dX3_judge_45 rfl (lv_at hl 0 rfl) ?_
    refine gf_X3_house  hx hb hts hown hK hM tw_114 dX3_judge_46 ?_
    refine lv_iload_n hx hb dX3_judge_49 rfl (lv_at hl 1 rfl) ?_
    refine lv_iload_n hx hb dX3_judge_50 rfl (lv_at hl 3 rfl) ?_
    refine wt_callVi (As := [.int x1, .int x3]) (rest := [.int (σ 85 (Int32.toNatClampNeg x3))]) hx hb hml hts hown hK hM (wt_rc_X0 wt_h1) cw_X3_223 hd_X0_holder rfl ⟨qz_b rfl, qz_b rfl⟩ ⟨rfl, rfl⟩ hl.1 rfl (qz_b rfl) dX3_judge_51 hf (fun _ _ h9 => c_X0_holder wt_h1 h9) (fun r3 s4 H locs hf hM => ?_)
    refine wt_callSi (As := [.int r3]) (rest := [.int (σ 85 (Int32.toNatClampNeg x3))]) hx hb hml hts hown hK hM cw_X3_281 hd_X3_inRow rfl ⟨qz_b rfl, qz_b rfl⟩ ⟨rfl, rfl⟩ hl.1 rfl (qz_b rfl) dX3_judge_54 hf (fun _ _ h9 => c_X3_inRow h9) (fun r5 s6 H locs hf hM => ?_)
    refine wq_icmp_eq (tgt := 62) hx hb dX3_judge_57 (by decide) hf (fun hf => ?_) (fun hf => ?_)
    · exact w_X3_judge_62 C ih hf hM hl
    refine lv_iload_n hx hb dX3_judge_60 rfl (lv_at hl 3 rfl) ?_
    refine lv_istore_n (lv' := [(2, .int x3), (0, .ref (B + 0)), (1, .int x1), (3, .int x3)]) hx hb dX3_judge_61 rfl hl (by decide) rfl (fun ls hl => ?_)
    exact w_X3_judge_62 C ih hf hM (lv_sub hl [1, 2, 0, 3] rfl)
set_option maxHeartbeats 4000000 in
set_option maxRecDepth 100000 in
theorem w_X3_judge_0 (C : wt_C p s m args meth c RX3 cX3_judge 4 (some .int) D tI tII) {F : Nat} {x1 : Int32} {σ : Mem} {r : Int32} {σ' : Mem} {H : Heap} {locs : List Loc} {ls : Array Slot} (hf : f_X3_judge F x1 σ = some (r, σ')) (hM : wt_St D tI tII B σ s H locs) (hl : lv_has ls 4 [(0, .ref (B + 0)), (1, .int x1)]) : W p l e rm_X3_judge s m args below meth c H locs 0 0 (MQ below (wt_Qi D tI tII B r σ') args s 0 0 (fun q => B ≤ q)) (F0 m 0 ls []) := by
  obtain ⟨hx, hb, hts, hown, hml, hr, hlk, hK⟩ := id C
  replace hf := Eq.trans f_X3_judge_e.symm hf
  refine lv_iload_n hx hb dX3_judge_0 rfl (lv_at hl 1 rfl) ?_
  refine wt_callSi (As := [.int x1]) (rest := []) hx hb hml hts hown hK hM cw_X3_65 hd_X0_isView rfl ⟨qz_b rfl, qz_b rfl⟩ ⟨rfl, rfl⟩ hl.1 rfl (qz_b rfl) dX3_judge_1 hf (fun _ _ h9 => c_X0_isView h9) (fun r7 s8 H locs hf hM => ?_)
  refine wq_if_ne (tgt := 13) hx hb dX3_judge_4 (by decide) hf (fun hf => ?_) (fun hf => ?_)
  · refine lv_aload_n hx hb dX3_judge_13 rfl (lv_at hl 0 rfl) ?_
    refine gf_X3_house  hx hb hts hown hK hM tw_114 dX3_judge_14 ?_
    refine wt_callVv (As := []) (rest := []) hx hb hml hts hown hK hM (wt_rc_X0 wt_h1) cw_X3_141 hd_X0_reckon rfl ⟨qz_b rfl, qz_b rfl⟩ ⟨rfl, rfl⟩ hl.1 rfl (qz_b rfl) dX3_judge_17 hf (fun _ _ h9 => c_X0_reckon wt_h1 h9) (fun r9 s10 H locs hf hM => ?_)
    refine lv_bipush (v := -9) hx hb dX3_judge_20 (by decide) ?_
    refine lv_istore_n (lv' := [(2, .int (-9 : Int32)), (0, .ref (B + 0)), (1, .int x1)]) hx hb dX3_judge_22 rfl hl (by decide) rfl (fun ls hl => ?_)
    refine lv_iconst (v := 0) hx hb dX3_judge_23 (by decide) ?_
    refine lv_istore_n (lv' := [(3, .int (0 : Int32)), (2, .int (-9 : Int32)), (0, .ref (B + 0)), (1, .int x1)]) hx hb dX3_judge_24 rfl hl (by decide) rfl (fun ls hl => ?_)
    exact w_X3_judge_25 C _ _ _ _ _ _ _ hf hM (lv_sub hl [2, 3, 1, 0] rfl)
  refine lv_aload_n hx hb dX3_judge_7 rfl (lv_at hl 0 rfl) ?_
  refine lv_iconst (v := -1) hx hb dX3_judge_8 (by decide) ?_
  refine wt_callVi (As := [.int (-1 : Int32)]) (rest := []) hx hb hml hts hown hK hM wt_rc_X3 cw_X3_61 hd_X3_refuse rfl ⟨qz_b rfl, qz_b rfl⟩ ⟨rfl, rfl⟩ hl.1 rfl (qz_b rfl) dX3_judge_9 hf (fun _ _ h9 => c_X3_refuse h9) (fun r11 s12 H locs hf hM => ?_)
  exact wt_iret hx hb hr hlk hK hM hf dX3_judge_12
end
set_option maxHeartbeats 4000000 in
set_option maxRecDepth 100000 in
theorem c_X3_judge {l : Launch} {D : va_G} {tI tII : ClassId} {B F : Nat} {x1 : Int32} {σ σ' : Mem} {r : Int32} (hf : f_X3_judge F x1 σ = some (r, σ')) : wt_Mi l yX3_judge cX3_judge 4 (some .int) rm_X3_judge [.ref (B + 0), .int x1] D tI tII B σ r σ' := by
  refine Met.ofW (cc := cX3_judge) (maxL := 4) (ret := (some .int)) (by decide) rfl ?_
  intro p e s m args below meth c s₁ B9 hml hv
  obtain ⟨rfl, hP, hK⟩ := hv
  have hl := lv_entry ([.ref (B + 0), .int x1]) (n := 4) (qz_b rfl)
  rw [lg_entry_eq]
  generalize (lg_sl ([.ref (B + 0), .int x1]) ++ List.replicate (4 - (lg_sl ([.ref (B + 0), .int x1])).length) Slot.unset).toArray = ls at hl ⊢
  exact w_X3_judge_0 (wt_C_of B9 hml hK) hf ⟨hP, va_S.rf⟩ hl
section
variable {p : Program} {l : Launch} {e : Env} {s : State} {m : MethodId} {args : Array Value} {below : List Frame} {meth : Method} {c : Code} {D : va_G} {tI tII : ClassId} {B : Nat}
set_option maxHeartbeats 4000000 in
set_option maxRecDepth 100000 in
theorem w_X3_clear_0 (C : wt_C p s m args meth c RX3 cX3_clear 2 (some .int) D tI tII) {F : Nat} {σ : Mem} {r : Int32} {σ' : Mem} {H : Heap} {locs : List Loc} {ls : Array Slot} (hf : f_X3_clear F σ = some (r, σ')) (hM : wt_St D tI tII B σ s H locs) (hl : lv_has ls 2 [(0, .ref (B + 0))]) : W p l e rm_X3_clear s m args below meth c H locs 0 0 (MQ below (wt_Qi D tI tII B r σ') args s 0 0 (fun q => B ≤ q)) (F0 m 0 ls []) := by
  obtain ⟨hx, hb, hts, hown, hml, hr, hlk, hK⟩ := id C
  replace hf := Eq.trans f_X3_clear_e.symm hf
  refine lv_aload_n hx hb dX3_clear_0 rfl (lv_at hl 0 rfl) ?_
  refine gf_X3_rowSize  hx hb hts hown hK hM tw_121 dX3_clear_1 ?_
  refine lv_istore_n (lv' := [(1, .int (σ 0 7)), (0, .ref (B + 0))]) hx hb dX3_clear_4 rfl hl (by decide) rfl (fun ls hl => ?_)
  refine lv_aload_n hx hb dX3_clear_5 rfl (lv_at hl 1 rfl) ?_
  refine lv_iconst (v := 0) hx hb dX3_clear_6 (by decide) ?_
  refine pf_X3_rowSize  hx hb hts hown hK hM tw_121 dX3_clear_7 hf (fun s1 H locs hf hM => ?_)
  refine lv_iload_n hx hb dX3_clear_10 rfl (lv_at hl 0 rfl) ?_
  exact wt_iret hx hb hr hlk hK hM hf dX3_clear_11
end
set_option maxHeartbeats 4000000 in
set_option maxRecDepth 100000 in
theorem c_X3_clear {l : Launch} {D : va_G} {tI tII : ClassId} {B F : Nat} {σ σ' : Mem} {r : Int32} (hf : f_X3_clear F σ = some (r, σ')) : wt_Mi l yX3_clear cX3_clear 2 (some .int) rm_X3_clear [.ref (B + 0)] D tI tII B σ r σ' := by
  refine Met.ofW (cc := cX3_clear) (maxL := 2) (ret := (some .int)) (by decide) rfl ?_
  intro p e s m args below meth c s₁ B9 hml hv
  obtain ⟨rfl, hP, hK⟩ := hv
  have hl := lv_entry ([.ref (B + 0)]) (n := 2) (qz_b rfl)
  rw [lg_entry_eq]
  generalize (lg_sl ([.ref (B + 0)]) ++ List.replicate (2 - (lg_sl ([.ref (B + 0)])).length) Slot.unset).toArray = ls at hl ⊢
  exact w_X3_clear_0 (wt_C_of B9 hml hK) hf ⟨hP, va_S.rf⟩ hl
section
variable {p : Program} {l : Launch} {e : Env} {s : State} {m : MethodId} {args : Array Value} {below : List Frame} {meth : Method} {c : Code} {D : va_G} {tI tII : ClassId} {B : Nat}
set_option maxHeartbeats 4000000 in
set_option maxRecDepth 100000 in
theorem w_X3_nextSeed_0 (C : wt_C p s m args meth c RX3 cX3_nextSeed 1 (some .int) D tI tII) {F : Nat} {x0 : Int32} {σ : Mem} {r : Int32} {σ' : Mem} {H : Heap} {locs : List Loc} {ls : Array Slot} (hf : f_X3_nextSeed F x0 σ = some (r, σ')) (hM : wt_St D tI tII B σ s H locs) (hl : lv_has ls 1 [(0, .int x0)]) : W p l e rm_X3_nextSeed s m args below meth c H locs 0 0 (MQ below (wt_Qi D tI tII B r σ') args s 0 0 (fun q => B ≤ q)) (F0 m 0 ls []) := by
  obtain ⟨hx, hb, hts, hown, hml, hr, hlk, hK⟩ := id C
  replace hf := Eq.trans f_X3_nextSeed_e.symm hf
  refine lv_iload_n hx hb dX3_nextSeed_0 rfl (lv_at hl 0 rfl) ?_
  refine lv_ldcw (v := 1103515245) hx hb hown (hts _ tw_680) dX3_nextSeed_1 ?_
  refine lv_imul hx hb dX3_nextSeed_4 ?_
  refine lv_sipush (v := 12345) hx hb dX3_nextSeed_5 (by decide) ?_
  refine lv_iadd hx hb dX3_nextSeed_8 ?_
  exact wt_iret hx hb hr hlk hK hM hf dX3_nextSeed_9
end
set_option maxHeartbeats 4000000 in
set_option maxRecDepth 100000 in
theorem c_X3_nextSeed {l : Launch} {D : va_G} {tI tII : ClassId} {B F : Nat} {x0 : Int32} {σ σ' : Mem} {r : Int32} (hf : f_X3_nextSeed F x0 σ = some (r, σ')) : wt_Mi l yX3_nextSeed cX3_nextSeed 1 (some .int) rm_X3_nextSeed [.int x0] D tI tII B σ r σ' := by
  refine Met.ofW (cc := cX3_nextSeed) (maxL := 1) (ret := (some .int)) (by decide) rfl ?_
  intro p e s m args below meth c s₁ B9 hml hv
  obtain ⟨rfl, hP, hK⟩ := hv
  have hl := lv_entry ([.int x0]) (n := 1) (qz_b rfl)
  rw [lg_entry_eq]
  generalize (lg_sl ([.int x0]) ++ List.replicate (1 - (lg_sl ([.int x0])).length) Slot.unset).toArray = ls at hl ⊢
  exact w_X3_nextSeed_0 (wt_C_of B9 hml hK) hf ⟨hP, va_S.rf⟩ hl
section
variable {p : Program} {l : Launch} {e : Env} {s : State} {m : MethodId} {args : Array Value} {below : List Frame} {meth : Method} {c : Code} {D : va_G} {tI tII : ClassId} {B : Nat}
set_option maxHeartbeats 4000000 in
set_option maxRecDepth 100000 in
theorem w_X3_drawBelow_0 (C : wt_C p s m args meth c RX3 cX3_drawBelow 2 (some .int) D tI tII) {F : Nat} {x0 : Int32} {x1 : Int32} {σ : Mem} {r : Int32} {σ' : Mem} {H : Heap} {locs : List Loc} {ls : Array Slot} (hf : f_X3_drawBelow F x0 x1 σ = some (r, σ')) (hM : wt_St D tI tII B σ s H locs) (hl : lv_has ls 2 [(0, .int x0), (1, .int x1)]) : W p l e rm_X3_drawBelow s m args below meth c H locs 0 0 (MQ below (wt_Qi D tI tII B r σ') args s 0 0 (fun q => B ≤ q)) (F0 m 0 ls []) := by
  obtain ⟨hx, hb, hts, hown, hml, hr, hlk, hK⟩ := id C
  replace hf := Eq.trans f_X3_drawBelow_e.symm hf
  refine lv_iload_n hx hb dX3_drawBelow_0 rfl (lv_at hl 1 rfl) ?_
  refine wq_if_gt (tgt := 8) hx hb dX3_drawBelow_1 (by decide) hf (fun hf => ?_) (fun hf => ?_)
  · refine lv_iload_n hx hb dX3_drawBelow_8 rfl (lv_at hl 0 rfl) ?_
    refine lv_ldcw (v := 2147483647) hx hb hown (hts _ tw_684) dX3_drawBelow_9 ?_
    refine lv_iand hx hb dX3_drawBelow_12 ?_
    refine lv_ldcw (v := 65536) hx hb hown (hts _ tw_685) dX3_drawBelow_13 ?_
    refine lv_idiv hx hb dX3_drawBelow_16 (by decide) ?_
    refine lv_iload_n hx hb dX3_drawBelow_17 rfl (lv_at hl 1 rfl) ?_
    obtain ⟨nz18, hf⟩ := wt_nz_of hf
    refine lv_irem hx hb dX3_drawBelow_18 nz18 ?_
    exact wt_iret hx hb hr hlk hK hM hf dX3_drawBelow_19
  refine lv_iconst (v := 0) hx hb dX3_drawBelow_4 (by decide) ?_
  refine lv_goto (tgt := 19) hx hb dX3_drawBelow_5 (by decide) ?_
  exact wt_iret hx hb hr hlk hK hM hf dX3_drawBelow_19
end
set_option maxHeartbeats 4000000 in
set_option maxRecDepth 100000 in
theorem c_X3_drawBelow {l : Launch} {D : va_G} {tI tII : ClassId} {B F : Nat} {x0 : Int32} {x1 : Int32} {σ σ' : Mem} {r : Int32} (hf : f_X3_drawBelow F x0 x1 σ = some (r, σ')) : wt_Mi l yX3_drawBelow cX3_drawBelow 2 (some .int) rm_X3_drawBelow [.int x0, .int x1] D tI tII B σ r σ' := by
  refine Met.ofW (cc := cX3_drawBelow) (maxL := 2) (ret := (some .int)) (by decide) rfl ?_
  intro p e s m args below meth c s₁ B9 hml hv
  obtain ⟨rfl, hP, hK⟩ := hv
  have hl := lv_entry ([.int x0, .int x1]) (n := 2) (qz_b rfl)
  rw [lg_entry_eq]
  generalize (lg_sl ([.int x0, .int x1]) ++ List.replicate (2 - (lg_sl ([.int x0, .int x1])).length) Slot.unset).toArray = ls at hl ⊢
  exact w_X3_drawBelow_0 (wt_C_of B9 hml hK) hf ⟨hP, va_S.rf⟩ hl
section
variable {p : Program} {l : Launch} {e : Env} {s : State} {m : MethodId} {args : Array Value} {below : List Frame} {meth : Method} {c : Code} {D : va_G} {tI tII : ClassId} {B : Nat}
set_option maxHeartbeats 4000000 in
set_option maxRecDepth 100000 in
theorem w_X3_castRosters_32 (C : wt_C p s m args meth c RX3 cX3_castRosters 7 (some .int) D tI tII) {F : Nat} {k4 : Int32 → Int32 → Mem → Option (Int32 × Mem)} {x3 : Int32} {r : Int32} {σ' : Mem} (hk4 : ∀ (x2 : Int32) (x3 : Int32) (σ : Mem) (H : Heap) (locs : List Loc) (ls : Array Slot), k4 x2 x3 σ = some (r, σ') → wt_St D tI tII B σ s H locs → lv_has ls 7 [(0, .ref (B + 0)), (2, .int x2), (3, .int x3)] → W p l e rm_X3_castRosters s m args below meth c H locs 0 0 (MQ below (wt_Qi D tI tII B r σ') args s 0 0 (fun q => B ≤ q)) (F0 m 4 ls [])) : ∀ (N : Nat) (x2 : Int32) (x4 : Int32) (σ : Mem) (H : Heap) (locs : List Loc) (ls : Array Slot), lp_X3_castRosters_32 F k4 x3 N x2 x4 σ = some (r, σ') → wt_St D tI tII B σ s H locs → lv_has ls 7 [(0, .ref (B + 0)), (2, .int x2), (3, .int x3), (4, .int x4)] → W p l e rm_X3_castRosters s m args below meth c H locs 0 0 (MQ below (wt_Qi D tI tII B r σ') args s 0 0 (fun q => B ≤ q)) (F0 m 32 ls []) := by
  obtain ⟨hx, hb, hts, hown, hml, hr, hlk, hK⟩ := id C
  intro N
  induction N with
  | zero => intro x2 x4 σ H locs ls hf; exact wt_none (show (none : Option (Int32 × Mem)) = some (r, σ') from hf)
  | succ N ih =>
    intro x2 x4 σ H locs ls hf hM hl
    replace hf := Eq.trans lp_X3_castRosters_32_s.symm hf
    refine lv_iload hx hb dX3_castRosters_32 (lv_at hl 3 rfl) ?_
    refine lv_iconst (v := 4) hx hb dX3_castRosters_34 (by decide) ?_
    refine wq_icmp_ge (tgt := 99) hx hb dX3_castRosters_35 (by decide) hf (fun hf => ?_) (fun hf => ?_)
    · refine lv_iinc (v := (x3 + (1 : Int32))) (lv' := [(3, .int (x3 + (1 : Int32))), (0, .ref (B + 0)), (2, .int x2), (4, .int x4)]) hx hb dX3_castRosters_99 hl (k := 2) rfl rfl (by decide) rfl (fun ls hl => ?_)
      refine lv_goto (tgt := 4) hx hb dX3_castRosters_102 (by decide) ?_
      exact hk4 _ _ _ _ _ _ hf hM (lv_sub hl [1, 2, 0] rfl)
    refine lv_iload_n hx hb dX3_castRosters_38 rfl (lv_at hl 1 rfl) ?_
    refine wt_callSi (As := [.int x2]) (rest := []) hx hb hml hts hown hK hM cw_X3_321 hd_X3_nextSeed rfl ⟨qz_b rfl, qz_b rfl⟩ ⟨rfl, rfl⟩ hl.1 rfl (qz_b rfl) dX3_castRosters_39 hf (fun _ _ h9 => c_X3_nextSeed h9) (fun r1 s2 H locs hf hM => ?_)
    refine lv_istore_n (lv' := [(2, .int r1), (0, .ref (B + 0)), (3, .int x3), (4, .int x4)]) hx hb dX3_castRosters_42 rfl hl (by decide) rfl (fun ls hl => ?_)
    refine lv_iload_n hx hb dX3_castRosters_43 rfl (lv_at hl 0 rfl) ?_
    refine lv_bipush (v := 24) hx hb dX3_castRosters_44 (by decide) ?_
    refine wt_callSi (As := [.int r1, .int (24 : Int32)]) (rest := []) hx hb hml hts hown hK hM cw_X3_324 hd_X3_drawBelow rfl ⟨qz_b rfl, qz_b rfl⟩ ⟨rfl, rfl⟩ hl.1 rfl (qz_b rfl) dX3_castRosters_46 hf (fun _ _ h9 => c_X3_drawBelow h9) (fun r3 s4 H locs hf hM => ?_)
    refine lv_istore (lv' := [(5, .int r3), (2, .int r1), (0, .ref (B + 0)), (3, .int x3), (4, .int x4)]) hx hb dX3_castRosters_49 hl (by decide) rfl (fun ls hl => ?_)
    refine lv_iload_n hx hb dX3_castRosters_51 rfl (lv_at hl 1 rfl) ?_
    refine wt_callSi (As := [.int r1]) (rest := []) hx hb hml hts hown hK hM cw_X3_321 hd_X3_nextSeed rfl ⟨qz_b rfl, qz_b rfl⟩ ⟨rfl, rfl⟩ hl.1 rfl (qz_b rfl) dX3_castRosters_52 hf (fun _ _ h9 => c_X3_nextSeed h9) (fun r5 s6 H locs hf hM => ?_)
    refine lv_istore_n (lv' := [(2, .int r5), (5, .int r3), (0, .ref (B + 0)), (3, .int x3), (4, .int x4)]) hx hb dX3_castRosters_55 rfl hl (by decide) rfl (fun ls hl => ?_)
    refine lv_iload hx hb dX3_castRosters_56 (lv_at hl 1 rfl) ?_
    refine lv_iconst (v := 4) hx hb dX3_castRosters_58 (by decide) ?_
    refine lv_iadd hx hb dX3_castRosters_59 ?_
    refine lv_iconst (v := 1) hx hb dX3_castRosters_60 (by decide) ?_
    refine lv_isub hx hb dX3_castRosters_61 ?_
    refine lv_bipush (v := 23) hx hb dX3_castRosters_62 (by decide) ?_
    refine wt_mmin hx hb hml hts hown hl.1 tw_686 tw_272 tw_7 tw_273 (qz_b rfl) (qz_b rfl) dX3_castRosters_64 ?_
    refine wt_leti hf (fun z7 hf => ?_)
    refine lv_istore (lv' := [(6, .int z7), (2, .int r5), (5, .int r3), (0, .ref (B + 0)), (3, .int x3), (4, .int x4)]) hx hb dX3_castRosters_67 hl (by decide) rfl (fun ls hl => ?_)
    refine lv_aload_n hx hb dX3_castRosters_69 rfl (lv_at hl 3 rfl) ?_
    refine gf_X3_mind  hx hb hts hown hK hM tw_115 dX3_castRosters_70 ?_
    refine lv_iload_n hx hb dX3_castRosters_73 rfl (lv_at hl 4 rfl) ?_
    refine lv_iload hx hb dX3_castRosters_74 (lv_at hl 2 rfl) ?_
    refine lv_iload hx hb dX3_castRosters_76 (lv_at hl 0 rfl) ?_
    refine lv_iload_n hx hb dX3_castRosters_78 rfl (lv_at hl 1 rfl) ?_
    refine lv_aload_n hx hb dX3_castRosters_79 rfl (lv_at hl 3 rfl) ?_
    refine gf_X3_mind  hx hb hts hown hK hM tw_115 dX3_castRosters_80 ?_
    refine gf_X0_paneCount wt_h24 hx hb hts hown hK hM tw_26 dX3_castRosters_83 ?_
    refine wt_callSi (As := [.int r5, .int (s6 24 0)]) (rest := [.int z7, .int r3, .int x3, .ref (B + 24)]) hx hb hml hts hown hK hM cw_X3_324 hd_X3_drawBelow rfl ⟨qz_b rfl, qz_b rfl⟩ ⟨rfl, rfl⟩ hl.1 rfl (qz_b rfl) dX3_castRosters_86 hf (fun _ _ h9 => c_X3_drawBelow h9) (fun r8 s9 H locs hf hM => ?_)
    refine wt_callVi (As := [.int x3, .int r3, .int z7, .int r8]) (rest := []) hx hb hml hts hown hK hM (wt_rc_X0 wt_h24) cw_X3_170 hd_X0_post rfl ⟨qz_b rfl, qz_b rfl⟩ ⟨rfl, rfl⟩ hl.1 rfl (qz_b rfl) dX3_castRosters_89 hf (fun _ _ h9 => c_X0_post wt_h24 h9) (fun r10 s11 H locs hf hM => ?_)
    refine lv_pop hx hb dX3_castRosters_92 rfl ?_
    refine lv_iinc (v := (x4 + (1 : Int32))) (lv' := [(4, .int (x4 + (1 : Int32))), (6, .int z7), (2, .int r5), (5, .int r3), (0, .ref (B + 0)), (3, .int x3)]) hx hb dX3_castRosters_93 hl (k := 5) rfl rfl (by decide) rfl (fun ls hl => ?_)
    refine lv_goto (tgt := 32) hx hb dX3_castRosters_96 (by decide) ?_
    exact ih _ _ _ _ _ _ hf hM (lv_sub hl [4, 2, 5, 0] rfl)
set_option maxHeartbeats 4000000 in
set_option maxRecDepth 100000 in
theorem w_X3_castRosters_4 (C : wt_C p s m args meth c RX3 cX3_castRosters 7 (some .int) D tI tII) {F : Nat} {r : Int32} {σ' : Mem} : ∀ (N : Nat) (x2 : Int32) (x3 : Int32) (σ : Mem) (H : Heap) (locs : List Loc) (ls : Array Slot), lp_X3_castRosters_4 F N x2 x3 σ = some (r, σ') → wt_St D tI tII B σ s H locs → lv_has ls 7 [(0, .ref (B + 0)), (2, .int x2), (3, .int x3)] → W p l e rm_X3_castRosters s m args below meth c H locs 0 0 (MQ below (wt_Qi D tI tII B r σ') args s 0 0 (fun q => B ≤ q)) (F0 m 4 ls []) := by
  obtain ⟨hx, hb, hts, hown, hml, hr, hlk, hK⟩ := id C
  intro N
  induction N with
  | zero => intro x2 x3 σ H locs ls hf; exact wt_none (show (none : Option (Int32 × Mem)) = some (r, σ') from hf)
  | succ N ih =>
    intro x2 x3 σ H locs ls hf hM hl
    replace hf := Eq.trans lp_X3_castRosters_4_s.symm hf
    refine lv_iload_n hx hb dX3_castRosters_4 rfl (lv_at hl 2 rfl) ?_
    refine lv_aload_n hx hb dX3_castRosters_5 rfl (lv_at hl 0 rfl) ?_
    refine gf_X3_mind  hx hb hts hown hK hM tw_115 dX3_castRosters_6 ?_
    refine gf_X0_lookerCount wt_h24 hx hb hts hown hK hM tw_31 dX3_castRosters_9 ?_
    refine wq_icmp_ge (tgt := 105) hx hb dX3_castRosters_12 (by decide) hf (fun hf => ?_) (fun hf => ?_)
    · refine lv_iload_n hx hb dX3_castRosters_105 rfl (lv_at hl 1 rfl) ?_
      exact wt_iret hx hb hr hlk hK hM hf dX3_castRosters_106
    refine lv_aload_n hx hb dX3_castRosters_15 rfl (lv_at hl 0 rfl) ?_
    refine gf_X3_mind  hx hb hts hown hK hM tw_115 dX3_castRosters_16 ?_
    refine lv_iload_n hx hb dX3_castRosters_19 rfl (lv_at hl 2 rfl) ?_
    refine lv_iconst (v := 0) hx hb dX3_castRosters_20 (by decide) ?_
    refine lv_bipush (v := 23) hx hb dX3_castRosters_21 (by decide) ?_
    refine lv_bipush (v := 9) hx hb dX3_castRosters_23 (by decide) ?_
    refine wt_callVi (As := [.int x3, .int (0 : Int32), .int (23 : Int32), .int (9 : Int32)]) (rest := []) hx hb hml hts hown hK hM (wt_rc_X0 wt_h24) cw_X3_170 hd_X0_post rfl ⟨qz_b rfl, qz_b rfl⟩ ⟨rfl, rfl⟩ hl.1 rfl (qz_b rfl) dX3_castRosters_25 hf (fun _ _ h9 => c_X0_post wt_h24 h9) (fun r12 s13 H locs hf hM => ?_)
    refine lv_pop hx hb dX3_castRosters_28 rfl ?_
    refine lv_iconst (v := 0) hx hb dX3_castRosters_29 (by decide) ?_
    refine lv_istore (lv' := [(4, .int (0 : Int32)), (0, .ref (B + 0)), (2, .int x2), (3, .int x3)]) hx hb dX3_castRosters_30 hl (by decide) rfl (fun ls hl => ?_)
    exact w_X3_castRosters_32 C ih _ _ _ _ _ _ _ hf hM (lv_sub hl [1, 2, 3, 0] rfl)
set_option maxHeartbeats 4000000 in
set_option maxRecDepth 100000 in
theorem w_X3_castRosters_0 (C : wt_C p s m args meth c RX3 cX3_castRosters 7 (some .int) D tI tII) {F : Nat} {x1 : Int32} {σ : Mem} {r : Int32} {σ' : Mem} {H : Heap} {locs : List Loc} {ls : Array Slot} (hf : f_X3_castRosters F x1 σ = some (r, σ')) (hM : wt_St D tI tII B σ s H locs) (hl : lv_has ls 7 [(0, .ref (B + 0)), (1, .int x1)]) : W p l e rm_X3_castRosters s m args below meth c H locs 0 0 (MQ below (wt_Qi D tI tII B r σ') args s 0 0 (fun q => B ≤ q)) (F0 m 0 ls []) := by
  obtain ⟨hx, hb, hts, hown, hml, hr, hlk, hK⟩ := id C
  replace hf := Eq.trans f_X3_castRosters_e.symm hf
  refine lv_iload_n hx hb dX3_castRosters_0 rfl (lv_at hl 1 rfl) ?_
  refine lv_istore_n (lv' := [(2, .int x1), (0, .ref (B + 0)), (1, .int x1)]) hx hb dX3_castRosters_1 rfl hl (by decide) rfl (fun ls hl => ?_)
  refine lv_iconst (v := 0) hx hb dX3_castRosters_2 (by decide) ?_
  refine lv_istore_n (lv' := [(3, .int (0 : Int32)), (2, .int x1), (0, .ref (B + 0)), (1, .int x1)]) hx hb dX3_castRosters_3 rfl hl (by decide) rfl (fun ls hl => ?_)
  exact w_X3_castRosters_4 C _ _ _ _ _ _ _ hf hM (lv_sub hl [2, 1, 0] rfl)
end
set_option maxHeartbeats 4000000 in
set_option maxRecDepth 100000 in
theorem c_X3_castRosters {l : Launch} {D : va_G} {tI tII : ClassId} {B F : Nat} {x1 : Int32} {σ σ' : Mem} {r : Int32} (hf : f_X3_castRosters F x1 σ = some (r, σ')) : wt_Mi l yX3_castRosters cX3_castRosters 7 (some .int) rm_X3_castRosters [.ref (B + 0), .int x1] D tI tII B σ r σ' := by
  refine Met.ofW (cc := cX3_castRosters) (maxL := 7) (ret := (some .int)) (by decide) rfl ?_
  intro p e s m args below meth c s₁ B9 hml hv
  obtain ⟨rfl, hP, hK⟩ := hv
  have hl := lv_entry ([.ref (B + 0), .int x1]) (n := 7) (qz_b rfl)
  rw [lg_entry_eq]
  generalize (lg_sl ([.ref (B + 0), .int x1]) ++ List.replicate (7 - (lg_sl ([.ref (B + 0), .int x1])).length) Slot.unset).toArray = ls at hl ⊢
  exact w_X3_castRosters_0 (wt_C_of B9 hml hK) hf ⟨hP, va_S.rf⟩ hl
section
variable {p : Program} {l : Launch} {e : Env} {s : State} {m : MethodId} {args : Array Value} {below : List Frame} {meth : Method} {c : Code} {D : va_G} {tI tII : ClassId} {B : Nat}
set_option maxHeartbeats 4000000 in
set_option maxRecDepth 100000 in
theorem w_X3_lots_140 (C : wt_C p s m args meth c RX3 cX3_lots 9 (some .int) D tI tII) {F : Nat} {k61 : Int32 → Int32 → Int32 → Mem → Option (Int32 × Mem)} {x1 : Int32} {x3 : Int32} {x5 : Int32} {x6 : Int32} {x7 : Int32} {σ : Mem} {r : Int32} {σ' : Mem} {H : Heap} {locs : List Loc} {ls : Array Slot} (hk61 : ∀ (x5 : Int32) (x6 : Int32) (x7 : Int32) (σ : Mem) (H : Heap) (locs : List Loc) (ls : Array Slot), k61 x5 x6 x7 σ = some (r, σ') → wt_St D tI tII B σ s H locs → lv_has ls 9 [(0, .ref (B + 0)), (1, .int x1), (3, .int x3), (5, .int x5), (6, .int x6), (7, .int x7)] → W p l e rm_X3_lots s m args below meth c H locs 0 0 (MQ below (wt_Qi D tI tII B r σ') args s 0 0 (fun q => B ≤ q)) (F0 m 61 ls [])) (hf : j_X3_lots_140 F k61 x1 x3 x5 x6 x7 σ = some (r, σ')) (hM : wt_St D tI tII B σ s H locs) (hl : lv_has ls 9 [(0, .ref (B + 0)), (1, .int x1), (3, .int x3), (5, .int x5), (6, .int x6), (7, .int x7)]) : W p l e rm_X3_lots s m args below meth c H locs 0 0 (MQ below (wt_Qi D tI tII B r σ') args s 0 0 (fun q => B ≤ q)) (F0 m 140 ls []) := by
  obtain ⟨hx, hb, hts, hown, hml, hr, hlk, hK⟩ := id C
  replace hf := Eq.trans j_X3_lots_140_e.symm hf
  refine lv_iinc (v := (x7 + (1 : Int32))) (lv' := [(7, .int (x7 + (1 : Int32))), (0, .ref (B + 0)), (1, .int x1), (3, .int x3), (5, .int x5), (6, .int x6)]) hx hb dX3_lots_140 hl (k := 5) rfl rfl (by decide) rfl (fun ls hl => ?_)
  refine lv_goto (tgt := 61) hx hb dX3_lots_143 (by decide) ?_
  exact hk61 _ _ _ _ _ _ _ hf hM (lv_sub hl [1, 2, 3, 4, 5, 0] rfl)
set_option maxHeartbeats 4000000 in
set_option maxRecDepth 100000 in
theorem w_X3_lots_61 (C : wt_C p s m args meth c RX3 cX3_lots 9 (some .int) D tI tII) {F : Nat} {x1 : Int32} {x3 : Int32} {r : Int32} {σ' : Mem} : ∀ (N : Nat) (x5 : Int32) (x6 : Int32) (x7 : Int32) (σ : Mem) (H : Heap) (locs : List Loc) (ls : Array Slot), lp_X3_lots_61 F x1 x3 N x5 x6 x7 σ = some (r, σ') → wt_St D tI tII B σ s H locs → lv_has ls 9 [(0, .ref (B + 0)), (1, .int x1), (3, .int x3), (5, .int x5), (6, .int x6), (7, .int x7)] → W p l e rm_X3_lots s m args below meth c H locs 0 0 (MQ below (wt_Qi D tI tII B r σ') args s 0 0 (fun q => B ≤ q)) (F0 m 61 ls []) := by
  obtain ⟨hx, hb, hts, hown, hml, hr, hlk, hK⟩ := id C
  intro N
  induction N with
  | zero => intro x5 x6 x7 σ H locs ls hf; exact wt_none (show (none : Option (Int32 × Mem)) = some (r, σ') from hf)
  | succ N ih =>
    intro x5 x6 x7 σ H locs ls hf hM hl
    replace hf := Eq.trans lp_X3_lots_61_s.symm hf
    refine lv_iload hx hb dX3_lots_61 (lv_at hl 5 rfl) ?_
    refine lv_iload_n hx hb dX3_lots_63 rfl (lv_at hl 1 rfl) ?_
    refine wq_icmp_ge (tgt := 146) hx hb dX3_lots_64 (by decide) hf (fun hf => ?_) (fun hf => ?_)
    · refine lv_iload hx hb dX3_lots_146 (lv_at hl 4 rfl) ?_
      exact wt_iret hx hb hr hlk hK hM hf dX3_lots_148
    refine lv_aload_n hx hb dX3_lots_67 rfl (lv_at hl 0 rfl) ?_
    refine lv_iload hx hb dX3_lots_68 (lv_at hl 3 rfl) ?_
    refine wt_callVi (As := [.int x5]) (rest := []) hx hb hml hts hown hK hM wt_rc_X3 cw_X3_318 hd_X3_castRosters rfl ⟨qz_b rfl, qz_b rfl⟩ ⟨rfl, rfl⟩ hl.1 rfl (qz_b rfl) dX3_lots_70 hf (fun _ _ h9 => c_X3_castRosters h9) (fun r1 s2 H locs hf hM => ?_)
    refine lv_istore (lv' := [(5, .int r1), (0, .ref (B + 0)), (1, .int x1), (3, .int x3), (6, .int x6), (7, .int x7)]) hx hb dX3_lots_73 hl (by decide) rfl (fun ls hl => ?_)
    refine lv_aload_n hx hb dX3_lots_75 rfl (lv_at hl 1 rfl) ?_
    refine gf_X3_mind  hx hb hts hown hK hM tw_115 dX3_lots_76 ?_
    refine wt_callVv (As := []) (rest := []) hx hb hml hts hown hK hM (wt_rc_X0 wt_h24) cw_X3_141 hd_X0_reckon rfl ⟨qz_b rfl, qz_b rfl⟩ ⟨rfl, rfl⟩ hl.1 rfl (qz_b rfl) dX3_lots_79 hf (fun _ _ h9 => c_X0_reckon wt_h24 h9) (fun r3 s4 H locs hf hM => ?_)
    refine lv_aload_n hx hb dX3_lots_82 rfl (lv_at hl 1 rfl) ?_
    refine gf_X3_mind  hx hb hts hown hK hM tw_115 dX3_lots_83 ?_
    refine lv_bipush (v := 99) hx hb dX3_lots_86 (by decide) ?_
    refine wt_callVi (As := [.int (99 : Int32)]) (rest := []) hx hb hml hts hown hK hM (wt_rc_X0 wt_h24) cw_X3_232 hd_X0_wealthiest rfl ⟨qz_b rfl, qz_b rfl⟩ ⟨rfl, rfl⟩ hl.1 rfl (qz_b rfl) dX3_lots_88 hf (fun _ _ h9 => c_X0_wealthiest wt_h24 h9) (fun r5 s6 H locs hf hM => ?_)
    refine lv_istore (lv' := [(8, .int r5), (5, .int r1), (0, .ref (B + 0)), (1, .int x1), (3, .int x3), (6, .int x6), (7, .int x7)]) hx hb dX3_lots_91 hl (by decide) rfl (fun ls hl => ?_)
    refine lv_iload_n hx hb dX3_lots_93 rfl (lv_at hl 4 rfl) ?_
    refine wq_if_ne (tgt := 117) hx hb dX3_lots_94 (by decide) hf (fun hf => ?_) (fun hf => ?_)
    · refine lv_iload hx hb dX3_lots_117 (lv_at hl 0 rfl) ?_
      refine lv_bipush (v := -9) hx hb dX3_lots_119 (by decide) ?_
      refine wq_icmp_eq (tgt := 140) hx hb dX3_lots_121 (by decide) hf (fun hf => ?_) (fun hf => ?_)
      · exact w_X3_lots_140 C ih hf hM (lv_sub hl [2, 3, 4, 1, 5, 6] rfl)
      refine lv_iload hx hb dX3_lots_124 (lv_at hl 5 rfl) ?_
      refine lv_aload_n hx hb dX3_lots_126 rfl (lv_at hl 2 rfl) ?_
      refine gf_X3_mind  hx hb hts hown hK hM tw_115 dX3_lots_127 ?_
      refine lv_iload hx hb dX3_lots_130 (lv_at hl 0 rfl) ?_
      refine lv_bipush (v := 99) hx hb dX3_lots_132 (by decide) ?_
      refine wt_callVi (As := [.int r5, .int (99 : Int32)]) (rest := [.int x6]) hx hb hml hts hown hK hM (wt_rc_X0 wt_h24) cw_X3_229 hd_X0_wealth rfl ⟨qz_b rfl, qz_b rfl⟩ ⟨rfl, rfl⟩ hl.1 rfl (qz_b rfl) dX3_lots_134 hf (fun _ _ h9 => c_X0_wealth wt_h24 h9) (fun r7 s8 H locs hf hM => ?_)
      refine lv_iadd hx hb dX3_lots_137 ?_
      refine lv_istore (lv' := [(6, .int (x6 + r7)), (8, .int r5), (5, .int r1), (0, .ref (B + 0)), (1, .int x1), (3, .int x3), (7, .int x7)]) hx hb dX3_lots_138 hl (by decide) rfl (fun ls hl => ?_)
      exact w_X3_lots_140 C ih hf hM (lv_sub hl [3, 4, 5, 2, 0, 6] rfl)
    refine lv_iload hx hb dX3_lots_97 (lv_at hl 5 rfl) ?_
    refine lv_aload_n hx hb dX3_lots_99 rfl (lv_at hl 2 rfl) ?_
    refine gf_X3_mind  hx hb hts hown hK hM tw_115 dX3_lots_100 ?_
    refine lv_bipush (v := 99) hx hb dX3_lots_103 (by decide) ?_
    refine wt_callVi (As := [.int (99 : Int32)]) (rest := [.int x6]) hx hb hml hts hown hK hM (wt_rc_X0 wt_h24) cw_X3_205 hd_X0_held rfl ⟨qz_b rfl, qz_b rfl⟩ ⟨rfl, rfl⟩ hl.1 rfl (qz_b rfl) dX3_lots_105 hf (fun _ _ h9 => c_X0_held wt_h24 h9) (fun r9 s10 H locs hf hM => ?_)
    refine wt_callSi (As := [.int r9]) (rest := [.int x6]) hx hb hml hts hown hK hM cw_X3_208 hd_J6_bitCount_0f7a4 rfl ⟨qz_b rfl, qz_b rfl⟩ ⟨rfl, rfl⟩ hl.1 rfl (qz_b rfl) dX3_lots_108 hf (fun _ _ h9 => c_J6_bitCount_0f7a4 h9) (fun r11 s12 H locs hf hM => ?_)
    refine lv_iadd hx hb dX3_lots_111 ?_
    refine lv_istore (lv' := [(6, .int (x6 + r11)), (8, .int r5), (5, .int r1), (0, .ref (B + 0)), (1, .int x1), (3, .int x3), (7, .int x7)]) hx hb dX3_lots_112 hl (by decide) rfl (fun ls hl => ?_)
    refine lv_goto (tgt := 140) hx hb dX3_lots_114 (by decide) ?_
    exact w_X3_lots_140 C ih hf hM (lv_sub hl [3, 4, 5, 2, 0, 6] rfl)
set_option maxHeartbeats 4000000 in
set_option maxRecDepth 100000 in
theorem w_X3_lots_0 (C : wt_C p s m args meth c RX3 cX3_lots 9 (some .int) D tI tII) {F : Nat} {x1 : Int32} {x2 : Int32} {x3 : Int32} {σ : Mem} {r : Int32} {σ' : Mem} {H : Heap} {locs : List Loc} {ls : Array Slot} (hf : f_X3_lots F x1 x2 x3 σ = some (r, σ')) (hM : wt_St D tI tII B σ s H locs) (hl : lv_has ls 9 [(0, .ref (B + 0)), (1, .int x1), (2, .int x2), (3, .int x3)]) : W p l e rm_X3_lots s m args below meth c H locs 0 0 (MQ below (wt_Qi D tI tII B r σ') args s 0 0 (fun q => B ≤ q)) (F0 m 0 ls []) := by
  obtain ⟨hx, hb, hts, hown, hml, hr, hlk, hK⟩ := id C
  replace hf := Eq.trans f_X3_lots_e.symm hf
  refine lv_iload_n hx hb dX3_lots_0 rfl (lv_at hl 1 rfl) ?_
  refine lv_iconst (v := 1) hx hb dX3_lots_1 (by decide) ?_
  refine lv_bipush (v := 20) hx hb dX3_lots_2 (by decide) ?_
  refine wt_callSi (As := [.int x1, .int (1 : Int32), .int (20 : Int32)]) (rest := []) hx hb hml hts hown hK hM cw_X3_81 hd_X3_outside rfl ⟨qz_b rfl, qz_b rfl⟩ ⟨rfl, rfl⟩ hl.1 rfl (qz_b rfl) dX3_lots_4 hf (fun _ _ h9 => c_X3_outside h9) (fun r13 s14 H locs hf hM => ?_)
  refine lv_iload_n hx hb dX3_lots_7 rfl (lv_at hl 3 rfl) ?_
  refine lv_iconst (v := 2) hx hb dX3_lots_8 (by decide) ?_
  refine wt_callSi (As := [.int x3, .int (2 : Int32)]) (rest := [.int r13]) hx hb hml hts hown hK hM cw_X3_123 hd_X3_notBelow rfl ⟨qz_b rfl, qz_b rfl⟩ ⟨rfl, rfl⟩ hl.1 rfl (qz_b rfl) dX3_lots_9 hf (fun _ _ h9 => c_X3_notBelow h9) (fun r15 s16 H locs hf hM => ?_)
  refine wt_callSi (As := [.int r13, .int r15]) (rest := []) hx hb hml hts hown hK hM cw_X3_85 hd_X3_firstOf rfl ⟨qz_b rfl, qz_b rfl⟩ ⟨rfl, rfl⟩ hl.1 rfl (qz_b rfl) dX3_lots_12 hf (fun _ _ h9 => c_X3_firstOf h9) (fun r17 s18 H locs hf hM => ?_)
  refine lv_istore (lv' := [(4, .int r17), (0, .ref (B + 0)), (1, .int x1), (2, .int x2), (3, .int x3)]) hx hb dX3_lots_15 hl (by decide) rfl (fun ls hl => ?_)
  refine lv_iload hx hb dX3_lots_17 (lv_at hl 0 rfl) ?_
  refine wq_if_eq (tgt := 29) hx hb dX3_lots_19 (by decide) hf (fun hf => ?_) (fun hf => ?_)
  · refine lv_aload_n hx hb dX3_lots_29 rfl (lv_at hl 1 rfl) ?_
    refine gf_X3_house  hx hb hts hown hK hM tw_114 dX3_lots_30 ?_
    refine gf_X0_paneCount wt_h1 hx hb hts hown hK hM tw_26 dX3_lots_33 ?_
    refine wq_if_ne (tgt := 41) hx hb dX3_lots_36 (by decide) hf (fun hf => ?_) (fun hf => ?_)
    · refine lv_aload_n hx hb dX3_lots_41 rfl (lv_at hl 1 rfl) ?_
      refine gf_X3_mind  hx hb hts hown hK hM tw_115 dX3_lots_42 ?_
      refine lv_aload_n hx hb dX3_lots_45 rfl (lv_at hl 1 rfl) ?_
      refine gf_X3_house  hx hb hts hown hK hM tw_114 dX3_lots_46 ?_
      refine wt_callVv (As := [.ref (B + 1)]) (rest := []) hx hb hml hts hown hK hM (wt_rc_X0 wt_h24) cw_X3_106 hd_X0_takeFrom rfl ⟨qz_b rfl, qz_b rfl⟩ ⟨rfl, rfl⟩ hl.1 rfl (qz_b rfl) dX3_lots_49 hf (fun _ _ h9 => c_X0_takeFrom wt_h24 wt_h1 h9) (fun r19 s20 H locs hf hM => ?_)
      refine lv_iload_n hx hb dX3_lots_52 rfl (lv_at hl 3 rfl) ?_
      refine lv_istore (lv' := [(5, .int x2), (4, .int r17), (0, .ref (B + 0)), (1, .int x1), (2, .int x2), (3, .int x3)]) hx hb dX3_lots_53 hl (by decide) rfl (fun ls hl => ?_)
      refine lv_iconst (v := 0) hx hb dX3_lots_55 (by decide) ?_
      refine lv_istore (lv' := [(6, .int (0 : Int32)), (5, .int x2), (4, .int r17), (0, .ref (B + 0)), (1, .int x1), (2, .int x2), (3, .int x3)]) hx hb dX3_lots_56 hl (by decide) rfl (fun ls hl => ?_)
      refine lv_iconst (v := 0) hx hb dX3_lots_58 (by decide) ?_
      refine lv_istore (lv' := [(7, .int (0 : Int32)), (6, .int (0 : Int32)), (5, .int x2), (4, .int r17), (0, .ref (B + 0)), (1, .int x1), (2, .int x2), (3, .int x3)]) hx hb dX3_lots_59 hl (by decide) rfl (fun ls hl => ?_)
      exact w_X3_lots_61 C _ _ _ _ _ _ _ _ hf hM (lv_sub hl [4, 5, 7, 2, 1, 0] rfl)
    refine lv_iconst (v := 0) hx hb dX3_lots_39 (by decide) ?_
    exact wt_iret hx hb hr hlk hK hM hf dX3_lots_40
  refine lv_aload_n hx hb dX3_lots_22 rfl (lv_at hl 1 rfl) ?_
  refine lv_iload hx hb dX3_lots_23 (lv_at hl 0 rfl) ?_
  refine wt_callVi (As := [.int r17]) (rest := []) hx hb hml hts hown hK hM wt_rc_X3 cw_X3_61 hd_X3_refuse rfl ⟨qz_b rfl, qz_b rfl⟩ ⟨rfl, rfl⟩ hl.1 rfl (qz_b rfl) dX3_lots_25 hf (fun _ _ h9 => c_X3_refuse h9) (fun r21 s22 H locs hf hM => ?_)
  exact wt_iret hx hb hr hlk hK hM hf dX3_lots_28
end
set_option maxHeartbeats 4000000 in
set_option maxRecDepth 100000 in
theorem c_X3_lots {l : Launch} {D : va_G} {tI tII : ClassId} {B F : Nat} {x1 : Int32} {x2 : Int32} {x3 : Int32} {σ σ' : Mem} {r : Int32} (hf : f_X3_lots F x1 x2 x3 σ = some (r, σ')) : wt_Mi l yX3_lots cX3_lots 9 (some .int) rm_X3_lots [.ref (B + 0), .int x1, .int x2, .int x3] D tI tII B σ r σ' := by
  refine Met.ofW (cc := cX3_lots) (maxL := 9) (ret := (some .int)) (by decide) rfl ?_
  intro p e s m args below meth c s₁ B9 hml hv
  obtain ⟨rfl, hP, hK⟩ := hv
  have hl := lv_entry ([.ref (B + 0), .int x1, .int x2, .int x3]) (n := 9) (qz_b rfl)
  rw [lg_entry_eq]
  generalize (lg_sl ([.ref (B + 0), .int x1, .int x2, .int x3]) ++ List.replicate (9 - (lg_sl ([.ref (B + 0), .int x1, .int x2, .int x3])).length) Slot.unset).toArray = ls at hl ⊢
  exact w_X3_lots_0 (wt_C_of B9 hml hK) hf ⟨hP, va_S.rf⟩ hl
section
variable {p : Program} {l : Launch} {e : Env} {s : State} {m : MethodId} {args : Array Value} {below : List Frame} {meth : Method} {c : Code} {D : va_G} {tI tII : ClassId} {B : Nat}
set_option maxHeartbeats 4000000 in
set_option maxRecDepth 100000 in
theorem w_X3_image_0 (C : wt_C p s m args meth c RX3 cX3_image 1 (some .int) D tI tII) {F : Nat} {σ : Mem} {r : Int32} {σ' : Mem} {H : Heap} {locs : List Loc} {ls : Array Slot} (hf : f_X3_image F σ = some (r, σ')) (hM : wt_St D tI tII B σ s H locs) (hl : lv_has ls 1 [(0, .ref (B + 0))]) : W p l e rm_X3_image s m args below meth c H locs 0 0 (MQ below (wt_Qi D tI tII B r σ') args s 0 0 (fun q => B ≤ q)) (F0 m 0 ls []) := by
  obtain ⟨hx, hb, hts, hown, hml, hr, hlk, hK⟩ := id C
  replace hf := Eq.trans f_X3_image_e.symm hf
  refine lv_aload_n hx hb dX3_image_0 rfl (lv_at hl 0 rfl) ?_
  refine gf_X3_kept  hx hb hts hown hK hM tw_116 dX3_image_1 ?_
  refine lv_aload_n hx hb dX3_image_4 rfl (lv_at hl 0 rfl) ?_
  refine gf_X3_house  hx hb hts hown hK hM tw_114 dX3_image_5 ?_
  refine wt_callVv (As := [.ref (B + 1)]) (rest := []) hx hb hml hts hown hK hM (wt_rc_X0 wt_h47) cw_X3_106 hd_X0_takeFrom rfl ⟨qz_b rfl, qz_b rfl⟩ ⟨rfl, rfl⟩ hl.1 rfl (qz_b rfl) dX3_image_8 hf (fun _ _ h9 => c_X0_takeFrom wt_h47 wt_h1 h9) (fun r1 s2 H locs hf hM => ?_)
  refine lv_aload_n hx hb dX3_image_11 rfl (lv_at hl 0 rfl) ?_
  refine lv_iconst (v := 1) hx hb dX3_image_12 (by decide) ?_
  refine pf_X3_imageTaken  hx hb hts hown hK hM tw_117 (by decide) dX3_image_13 hf (fun s3 H locs hf hM => ?_)
  refine lv_aload_n hx hb dX3_image_16 rfl (lv_at hl 0 rfl) ?_
  refine gf_X3_house  hx hb hts hown hK hM tw_114 dX3_image_17 ?_
  refine gf_X0_day wt_h1 hx hb hts hown hK hM tw_45 dX3_image_20 ?_
  exact wt_iret hx hb hr hlk hK hM hf dX3_image_23
end
set_option maxHeartbeats 4000000 in
set_option maxRecDepth 100000 in
theorem c_X3_image {l : Launch} {D : va_G} {tI tII : ClassId} {B F : Nat} {σ σ' : Mem} {r : Int32} (hf : f_X3_image F σ = some (r, σ')) : wt_Mi l yX3_image cX3_image 1 (some .int) rm_X3_image [.ref (B + 0)] D tI tII B σ r σ' := by
  refine Met.ofW (cc := cX3_image) (maxL := 1) (ret := (some .int)) (by decide) rfl ?_
  intro p e s m args below meth c s₁ B9 hml hv
  obtain ⟨rfl, hP, hK⟩ := hv
  have hl := lv_entry ([.ref (B + 0)]) (n := 1) (qz_b rfl)
  rw [lg_entry_eq]
  generalize (lg_sl ([.ref (B + 0)]) ++ List.replicate (1 - (lg_sl ([.ref (B + 0)])).length) Slot.unset).toArray = ls at hl ⊢
  exact w_X3_image_0 (wt_C_of B9 hml hK) hf ⟨hP, va_S.rf⟩ hl
section
variable {p : Program} {l : Launch} {e : Env} {s : State} {m : MethodId} {args : Array Value} {below : List Frame} {meth : Method} {c : Code} {D : va_G} {tI tII : ClassId} {B : Nat}
set_option maxHeartbeats 4000000 in
set_option maxRecDepth 100000 in
theorem w_X3_restore_0 (C : wt_C p s m args meth c RX3 cX3_restore 1 (some .int) D tI tII) {F : Nat} {σ : Mem} {r : Int32} {σ' : Mem} {H : Heap} {locs : List Loc} {ls : Array Slot} (hf : f_X3_restore F σ = some (r, σ')) (hM : wt_St D tI tII B σ s H locs) (hl : lv_has ls 1 [(0, .ref (B + 0))]) : W p l e rm_X3_restore s m args below meth c H locs 0 0 (MQ below (wt_Qi D tI tII B r σ') args s 0 0 (fun q => B ≤ q)) (F0 m 0 ls []) := by
  obtain ⟨hx, hb, hts, hown, hml, hr, hlk, hK⟩ := id C
  replace hf := Eq.trans f_X3_restore_e.symm hf
  refine lv_aload_n hx hb dX3_restore_0 rfl (lv_at hl 0 rfl) ?_
  refine gf_X3_imageTaken  hx hb hts hown hK hM tw_117 dX3_restore_1 ?_
  refine wq_if_ne (tgt := 14) hx hb dX3_restore_4 (by decide) hf (fun hf => ?_) (fun hf => ?_)
  · refine lv_aload_n hx hb dX3_restore_14 rfl (lv_at hl 0 rfl) ?_
    refine gf_X3_house  hx hb hts hown hK hM tw_114 dX3_restore_15 ?_
    refine lv_aload_n hx hb dX3_restore_18 rfl (lv_at hl 0 rfl) ?_
    refine gf_X3_kept  hx hb hts hown hK hM tw_116 dX3_restore_19 ?_
    refine wt_callVv (As := [.ref (B + 47)]) (rest := []) hx hb hml hts hown hK hM (wt_rc_X0 wt_h1) cw_X3_106 hd_X0_takeFrom rfl ⟨qz_b rfl, qz_b rfl⟩ ⟨rfl, rfl⟩ hl.1 rfl (qz_b rfl) dX3_restore_22 hf (fun _ _ h9 => c_X0_takeFrom wt_h1 wt_h47 h9) (fun r1 s2 H locs hf hM => ?_)
    refine lv_aload_n hx hb dX3_restore_25 rfl (lv_at hl 0 rfl) ?_
    refine gf_X3_steps  hx hb hts hown hK hM tw_118 dX3_restore_26 ?_
    refine wt_callVv (As := []) (rest := []) hx hb hml hts hown hK hM wt_rc_X2 cw_X3_117 hd_X2_forget rfl ⟨qz_b rfl, qz_b rfl⟩ ⟨rfl, rfl⟩ hl.1 rfl (qz_b rfl) dX3_restore_29 hf (fun _ _ h9 => c_X2_forget h9) (fun r3 s4 H locs hf hM => ?_)
    refine lv_aload_n hx hb dX3_restore_32 rfl (lv_at hl 0 rfl) ?_
    refine gf_X3_house  hx hb hts hown hK hM tw_114 dX3_restore_33 ?_
    refine gf_X0_day wt_h1 hx hb hts hown hK hM tw_45 dX3_restore_36 ?_
    exact wt_iret hx hb hr hlk hK hM hf dX3_restore_39
  refine lv_aload_n hx hb dX3_restore_7 rfl (lv_at hl 0 rfl) ?_
  refine lv_bipush (v := -3) hx hb dX3_restore_8 (by decide) ?_
  refine wt_callVi (As := [.int (-3 : Int32)]) (rest := []) hx hb hml hts hown hK hM wt_rc_X3 cw_X3_61 hd_X3_refuse rfl ⟨qz_b rfl, qz_b rfl⟩ ⟨rfl, rfl⟩ hl.1 rfl (qz_b rfl) dX3_restore_10 hf (fun _ _ h9 => c_X3_refuse h9) (fun r5 s6 H locs hf hM => ?_)
  exact wt_iret hx hb hr hlk hK hM hf dX3_restore_13
end
set_option maxHeartbeats 4000000 in
set_option maxRecDepth 100000 in
theorem c_X3_restore {l : Launch} {D : va_G} {tI tII : ClassId} {B F : Nat} {σ σ' : Mem} {r : Int32} (hf : f_X3_restore F σ = some (r, σ')) : wt_Mi l yX3_restore cX3_restore 1 (some .int) rm_X3_restore [.ref (B + 0)] D tI tII B σ r σ' := by
  refine Met.ofW (cc := cX3_restore) (maxL := 1) (ret := (some .int)) (by decide) rfl ?_
  intro p e s m args below meth c s₁ B9 hml hv
  obtain ⟨rfl, hP, hK⟩ := hv
  have hl := lv_entry ([.ref (B + 0)]) (n := 1) (qz_b rfl)
  rw [lg_entry_eq]
  generalize (lg_sl ([.ref (B + 0)]) ++ List.replicate (1 - (lg_sl ([.ref (B + 0)])).length) Slot.unset).toArray = ls at hl ⊢
  exact w_X3_restore_0 (wt_C_of B9 hml hK) hf ⟨hP, va_S.rf⟩ hl
section
variable {p : Program} {l : Launch} {e : Env} {s : State} {m : MethodId} {args : Array Value} {below : List Frame} {meth : Method} {c : Code} {D : va_G} {tI tII : ClassId} {B : Nat}
set_option maxHeartbeats 4000000 in
set_option maxRecDepth 100000 in
theorem w_X3_count_22 (C : wt_C p s m args meth c RX3 cX3_count 2 (some .int) D tI tII) {F : Nat} {x1 : Int32} {σ : Mem} {r : Int32} {σ' : Mem} {H : Heap} {locs : List Loc} {ls : Array Slot} (hf : j_X3_count_22 F x1 σ = some (r, σ')) (hM : wt_St D tI tII B σ s H locs) (hl : lv_has ls 2 [(0, .ref (B + 0)), (1, .int x1)]) : W p l e rm_X3_count s m args below meth c H locs 0 0 (MQ below (wt_Qi D tI tII B r σ') args s 0 0 (fun q => B ≤ q)) (F0 m 22 ls []) := by
  obtain ⟨hx, hb, hts, hown, hml, hr, hlk, hK⟩ := id C
  replace hf := Eq.trans j_X3_count_22_e.symm hf
  refine lv_iload_n hx hb dX3_count_22 rfl (lv_at hl 1 rfl) ?_
  refine wq_key hf (fun e9 hf => ?_) (fun n1_0 hf => ?_)
  · refine lv_tableIn (off := 53) (tgt := 76) hx hb dX3_count_23 (by rw [e9]; decide) (by rw [e9]; decide) (by rw [e9]; rfl) (by decide) ?_
    refine lv_aload_n hx hb dX3_count_76 rfl (lv_at hl 0 rfl) ?_
    refine gf_X3_house  hx hb hts hown hK hM tw_114 dX3_count_77 ?_
    refine gf_X0_paneCount wt_h1 hx hb hts hown hK hM tw_26 dX3_count_80 ?_
    exact wt_iret hx hb hr hlk hK hM hf dX3_count_83
  refine wq_key hf (fun e9 hf => ?_) (fun n1_1 hf => ?_)
  · refine lv_tableIn (off := 61) (tgt := 84) hx hb dX3_count_23 (by rw [e9]; decide) (by rw [e9]; decide) (by rw [e9]; rfl) (by decide) ?_
    refine lv_aload_n hx hb dX3_count_84 rfl (lv_at hl 0 rfl) ?_
    refine gf_X3_house  hx hb hts hown hK hM tw_114 dX3_count_85 ?_
    refine gf_X0_lookerCount wt_h1 hx hb hts hown hK hM tw_31 dX3_count_88 ?_
    exact wt_iret hx hb hr hlk hK hM hf dX3_count_91
  refine wq_key hf (fun e9 hf => ?_) (fun n1_2 hf => ?_)
  · refine lv_tableIn (off := 69) (tgt := 92) hx hb dX3_count_23 (by rw [e9]; decide) (by rw [e9]; decide) (by rw [e9]; rfl) (by decide) ?_
    refine lv_aload_n hx hb dX3_count_92 rfl (lv_at hl 0 rfl) ?_
    refine gf_X3_house  hx hb hts hown hK hM tw_114 dX3_count_93 ?_
    refine gf_X0_day wt_h1 hx hb hts hown hK hM tw_45 dX3_count_96 ?_
    exact wt_iret hx hb hr hlk hK hM hf dX3_count_99
  refine wq_key hf (fun e9 hf => ?_) (fun n1_3 hf => ?_)
  · refine lv_tableIn (off := 77) (tgt := 100) hx hb dX3_count_23 (by rw [e9]; decide) (by rw [e9]; decide) (by rw [e9]; rfl) (by decide) ?_
    refine lv_aload_n hx hb dX3_count_100 rfl (lv_at hl 0 rfl) ?_
    refine gf_X3_house  hx hb hts hown hK hM tw_114 dX3_count_101 ?_
    refine gf_X0_law wt_h1 hx hb hts hown hK hM tw_43 dX3_count_104 ?_
    exact wt_iret hx hb hr hlk hK hM hf dX3_count_107
  refine wq_key hf (fun e9 hf => ?_) (fun n1_4 hf => ?_)
  · refine lv_tableIn (off := 85) (tgt := 108) hx hb dX3_count_23 (by rw [e9]; decide) (by rw [e9]; decide) (by rw [e9]; rfl) (by decide) ?_
    refine lv_aload_n hx hb dX3_count_108 rfl (lv_at hl 0 rfl) ?_
    refine gf_X3_house  hx hb hts hown hK hM tw_114 dX3_count_109 ?_
    refine wt_callVv (As := []) (rest := []) hx hb hml hts hown hK hM (wt_rc_X0 wt_h1) cw_X3_141 hd_X0_reckon rfl ⟨qz_b rfl, qz_b rfl⟩ ⟨rfl, rfl⟩ hl.1 rfl (qz_b rfl) dX3_count_112 hf (fun _ _ h9 => c_X0_reckon wt_h1 h9) (fun r2 s3 H locs hf hM => ?_)
    refine lv_aload_n hx hb dX3_count_115 rfl (lv_at hl 0 rfl) ?_
    refine gf_X3_house  hx hb hts hown hK hM tw_114 dX3_count_116 ?_
    refine lv_iconst (v := 0) hx hb dX3_count_119 (by decide) ?_
    refine wt_callVi (As := [.int (0 : Int32)]) (rest := []) hx hb hml hts hown hK hM (wt_rc_X0 wt_h1) cw_X3_205 hd_X0_held rfl ⟨qz_b rfl, qz_b rfl⟩ ⟨rfl, rfl⟩ hl.1 rfl (qz_b rfl) dX3_count_120 hf (fun _ _ h9 => c_X0_held wt_h1 h9) (fun r4 s5 H locs hf hM => ?_)
    refine wt_callSi (As := [.int r4]) (rest := []) hx hb hml hts hown hK hM cw_X3_208 hd_J6_bitCount_0f7a4 rfl ⟨qz_b rfl, qz_b rfl⟩ ⟨rfl, rfl⟩ hl.1 rfl (qz_b rfl) dX3_count_123 hf (fun _ _ h9 => c_J6_bitCount_0f7a4 h9) (fun r6 s7 H locs hf hM => ?_)
    exact wt_iret hx hb hr hlk hK hM hf dX3_count_126
  refine wq_key hf (fun e9 hf => ?_) (fun n1_5 hf => ?_)
  · refine lv_tableIn (off := 104) (tgt := 127) hx hb dX3_count_23 (by rw [e9]; decide) (by rw [e9]; decide) (by rw [e9]; rfl) (by decide) ?_
    refine lv_aload_n hx hb dX3_count_127 rfl (lv_at hl 0 rfl) ?_
    refine gf_X3_house  hx hb hts hown hK hM tw_114 dX3_count_128 ?_
    refine wt_callVi (As := []) (rest := []) hx hb hml hts hown hK hM (wt_rc_X0 wt_h1) cw_X3_251 hd_X0_allShown rfl ⟨qz_b rfl, qz_b rfl⟩ ⟨rfl, rfl⟩ hl.1 rfl (qz_b rfl) dX3_count_131 hf (fun _ _ h9 => c_X0_allShown wt_h1 h9) (fun r8 s9 H locs hf hM => ?_)
    refine wt_callSi (As := [.int r8]) (rest := []) hx hb hml hts hown hK hM cw_X3_208 hd_J6_bitCount_0f7a4 rfl ⟨qz_b rfl, qz_b rfl⟩ ⟨rfl, rfl⟩ hl.1 rfl (qz_b rfl) dX3_count_134 hf (fun _ _ h9 => c_J6_bitCount_0f7a4 h9) (fun r10 s11 H locs hf hM => ?_)
    exact wt_iret hx hb hr hlk hK hM hf dX3_count_137
  refine wq_key hf (fun e9 hf => ?_) (fun n1_6 hf => ?_)
  · refine lv_tableIn (off := 115) (tgt := 138) hx hb dX3_count_23 (by rw [e9]; decide) (by rw [e9]; decide) (by rw [e9]; rfl) (by decide) ?_
    refine lv_aload_n hx hb dX3_count_138 rfl (lv_at hl 0 rfl) ?_
    refine gf_X3_house  hx hb hts hown hK hM tw_114 dX3_count_139 ?_
    refine wt_callVi (As := []) (rest := []) hx hb hml hts hown hK hM (wt_rc_X0 wt_h1) cw_X3_335 hd_X0_hoursOfAll rfl ⟨qz_b rfl, qz_b rfl⟩ ⟨rfl, rfl⟩ hl.1 rfl (qz_b rfl) dX3_count_142 hf (fun _ _ h9 => c_X0_hoursOfAll wt_h1 h9) (fun r12 s13 H locs hf hM => ?_)
    exact wt_iret hx hb hr hlk hK hM hf dX3_count_145
  refine wq_key hf (fun e9 hf => ?_) (fun n1_7 hf => ?_)
  · refine lv_tableIn (off := 123) (tgt := 146) hx hb dX3_count_23 (by rw [e9]; decide) (by rw [e9]; decide) (by rw [e9]; rfl) (by decide) ?_
    refine lv_aload_n hx hb dX3_count_146 rfl (lv_at hl 0 rfl) ?_
    refine gf_X3_letters  hx hb hts hown hK hM tw_119 dX3_count_147 ?_
    refine gf_X1_size  hx hb hts hown hK hM tw_107 dX3_count_150 ?_
    exact wt_iret hx hb hr hlk hK hM hf dX3_count_153
  refine wq_key hf (fun e9 hf => ?_) (fun n1_8 hf => ?_)
  · refine lv_tableIn (off := 131) (tgt := 154) hx hb dX3_count_23 (by rw [e9]; decide) (by rw [e9]; decide) (by rw [e9]; rfl) (by decide) ?_
    refine lv_aload_n hx hb dX3_count_154 rfl (lv_at hl 0 rfl) ?_
    refine gf_X3_rowSize  hx hb hts hown hK hM tw_121 dX3_count_155 ?_
    exact wt_iret hx hb hr hlk hK hM hf dX3_count_158
  refine wq_key hf (fun e9 hf => ?_) (fun n1_9 hf => ?_)
  · refine lv_tableIn (off := 136) (tgt := 159) hx hb dX3_count_23 (by rw [e9]; decide) (by rw [e9]; decide) (by rw [e9]; rfl) (by decide) ?_
    refine lv_aload_n hx hb dX3_count_159 rfl (lv_at hl 0 rfl) ?_
    refine gf_X3_steps  hx hb hts hown hK hM tw_118 dX3_count_160 ?_
    refine gf_X2_size  hx hb hts hown hK hM tw_85 dX3_count_163 ?_
    exact wt_iret hx hb hr hlk hK hM hf dX3_count_166
  refine wq_tableD (ks := [(0 : Int32), (1 : Int32), (2 : Int32), (3 : Int32), (4 : Int32), (5 : Int32), (6 : Int32), (7 : Int32), (8 : Int32), (9 : Int32)]) (tgt := 167) hx hb dX3_count_23 (List.forall_mem_cons.mpr ⟨n1_0, List.forall_mem_cons.mpr ⟨n1_1, List.forall_mem_cons.mpr ⟨n1_2, List.forall_mem_cons.mpr ⟨n1_3, List.forall_mem_cons.mpr ⟨n1_4, List.forall_mem_cons.mpr ⟨n1_5, List.forall_mem_cons.mpr ⟨n1_6, List.forall_mem_cons.mpr ⟨n1_7, List.forall_mem_cons.mpr ⟨n1_8, List.forall_mem_cons.mpr ⟨n1_9, fun _ h9 => absurd h9 List.not_mem_nil⟩⟩⟩⟩⟩⟩⟩⟩⟩⟩) (by decide) (by decide) ?_
  refine lv_bipush (v := -9) hx hb dX3_count_167 (by decide) ?_
  exact wt_iret hx hb hr hlk hK hM hf dX3_count_169
set_option maxHeartbeats 4000000 in
set_option maxRecDepth 100000 in
theorem w_X3_count_0 (C : wt_C p s m args meth c RX3 cX3_count 2 (some .int) D tI tII) {F : Nat} {x1 : Int32} {σ : Mem} {r : Int32} {σ' : Mem} {H : Heap} {locs : List Loc} {ls : Array Slot} (hf : f_X3_count F x1 σ = some (r, σ')) (hM : wt_St D tI tII B σ s H locs) (hl : lv_has ls 2 [(0, .ref (B + 0)), (1, .int x1)]) : W p l e rm_X3_count s m args below meth c H locs 0 0 (MQ below (wt_Qi D tI tII B r σ') args s 0 0 (fun q => B ≤ q)) (F0 m 0 ls []) := by
  obtain ⟨hx, hb, hts, hown, hml, hr, hlk, hK⟩ := id C
  replace hf := Eq.trans f_X3_count_e.symm hf
  refine lv_iload_n hx hb dX3_count_0 rfl (lv_at hl 1 rfl) ?_
  refine lv_bipush (v := 11) hx hb dX3_count_1 (by decide) ?_
  refine wq_icmp_lt (tgt := 22) hx hb dX3_count_3 (by decide) hf (fun hf => ?_) (fun hf => ?_)
  · exact w_X3_count_22 C hf hM hl
  refine lv_iload_n hx hb dX3_count_6 rfl (lv_at hl 1 rfl) ?_
  refine lv_bipush (v := 16) hx hb dX3_count_7 (by decide) ?_
  refine wq_icmp_gt (tgt := 22) hx hb dX3_count_9 (by decide) hf (fun hf => ?_) (fun hf => ?_)
  · exact w_X3_count_22 C hf hM hl
  refine lv_aload_n hx hb dX3_count_12 rfl (lv_at hl 0 rfl) ?_
  refine gf_X3_refusals  hx hb hts hown hK hM tw_122 dX3_count_13 ?_
  refine lv_iload_n hx hb dX3_count_16 rfl (lv_at hl 1 rfl) ?_
  refine lv_bipush (v := 10) hx hb dX3_count_17 (by decide) ?_
  refine lv_isub hx hb dX3_count_19 ?_
  obtain ⟨i14, hf⟩ := wt_chk_of hf
  refine wt_ild hx hb hK hM wt_a86 i14 dX3_count_20 ?_
  exact wt_iret hx hb hr hlk hK hM hf dX3_count_21
end
set_option maxHeartbeats 4000000 in
set_option maxRecDepth 100000 in
theorem c_X3_count {l : Launch} {D : va_G} {tI tII : ClassId} {B F : Nat} {x1 : Int32} {σ σ' : Mem} {r : Int32} (hf : f_X3_count F x1 σ = some (r, σ')) : wt_Mi l yX3_count cX3_count 2 (some .int) rm_X3_count [.ref (B + 0), .int x1] D tI tII B σ r σ' := by
  refine Met.ofW (cc := cX3_count) (maxL := 2) (ret := (some .int)) (by decide) rfl ?_
  intro p e s m args below meth c s₁ B9 hml hv
  obtain ⟨rfl, hP, hK⟩ := hv
  have hl := lv_entry ([.ref (B + 0), .int x1]) (n := 2) (qz_b rfl)
  rw [lg_entry_eq]
  generalize (lg_sl ([.ref (B + 0), .int x1]) ++ List.replicate (2 - (lg_sl ([.ref (B + 0), .int x1])).length) Slot.unset).toArray = ls at hl ⊢
  exact w_X3_count_0 (wt_C_of B9 hml hK) hf ⟨hP, va_S.rf⟩ hl
section
variable {p : Program} {l : Launch} {e : Env} {s : State} {m : MethodId} {args : Array Value} {below : List Frame} {meth : Method} {c : Code} {D : va_G} {tI tII : ClassId} {B : Nat}
set_option maxHeartbeats 4000000 in
set_option maxRecDepth 100000 in
theorem w_X4_in_17 (C : wt_C p s m args meth c RX4 cX4_in 6 (some .boolean) D tI tII) {F : Nat} {σ : Mem} {r : Int32} {σ' : Mem} {H : Heap} {locs : List Loc} {ls : Array Slot} (hf : j_X4_in_17 F σ = some (r, σ')) (hM : wt_St D tI tII B σ s H locs) (hl : lv_has ls 6 []) : W p l e rm_X4_in s m args below meth c H locs 0 0 (MQ below (wt_Qi D tI tII B r σ') args s 0 0 (fun q => B ≤ q)) (F0 m 17 ls []) := by
  obtain ⟨hx, hb, hts, hown, hml, hr, hlk, hK⟩ := id C
  replace hf := Eq.trans j_X4_in_17_e.symm hf
  refine lv_iconst (v := 0) hx hb dX4_in_17 (by decide) ?_
  exact wt_zret hx hb hr hlk hK hM (by decide) hf dX4_in_18
set_option maxHeartbeats 4000000 in
set_option maxRecDepth 100000 in
theorem w_X4_in_0 (C : wt_C p s m args meth c RX4 cX4_in 6 (some .boolean) D tI tII) {F : Nat} {y0 : Int64} {y2 : Int64} {y4 : Int64} {σ : Mem} {r : Int32} {σ' : Mem} {H : Heap} {locs : List Loc} {ls : Array Slot} (hf : f_X4_in F y0 y2 y4 σ = some (r, σ')) (hM : wt_St D tI tII B σ s H locs) (hl : lv_has ls 6 [(0, .long y0), (2, .long y2), (4, .long y4)]) : W p l e rm_X4_in s m args below meth c H locs 0 0 (MQ below (wt_Qi D tI tII B r σ') args s 0 0 (fun q => B ≤ q)) (F0 m 0 ls []) := by
  obtain ⟨hx, hb, hts, hown, hml, hr, hlk, hK⟩ := id C
  replace hf := Eq.trans f_X4_in_e.symm hf
  refine lv_lload_n hx hb dX4_in_0 rfl (lv_at hl 0 rfl) ?_
  refine lv_lload_n hx hb dX4_in_1 rfl (lv_at hl 1 rfl) ?_
  refine W.lcmp hx hb dX4_in_2 ?_
  refine wq_if_lt (tgt := 17) hx hb dX4_in_3 (by decide) hf (fun hf => ?_) (fun hf => ?_)
  · exact w_X4_in_17 C hf hM (lv_sub hl [] rfl)
  refine lv_lload_n hx hb dX4_in_6 rfl (lv_at hl 0 rfl) ?_
  refine lv_lload hx hb dX4_in_7 (lv_at hl 2 rfl) ?_
  refine W.lcmp hx hb dX4_in_9 ?_
  refine wq_if_gt (tgt := 17) hx hb dX4_in_10 (by decide) hf (fun hf => ?_) (fun hf => ?_)
  · exact w_X4_in_17 C hf hM (lv_sub hl [] rfl)
  refine lv_iconst (v := 1) hx hb dX4_in_13 (by decide) ?_
  refine lv_goto (tgt := 18) hx hb dX4_in_14 (by decide) ?_
  exact wt_zret hx hb hr hlk hK hM (by decide) hf dX4_in_18
end
set_option maxHeartbeats 4000000 in
set_option maxRecDepth 100000 in
theorem c_X4_in {l : Launch} {D : va_G} {tI tII : ClassId} {B F : Nat} {y0 : Int64} {y2 : Int64} {y4 : Int64} {σ σ' : Mem} {r : Int32} (hf : f_X4_in F y0 y2 y4 σ = some (r, σ')) : wt_Mi l yX4_in cX4_in 6 (some .boolean) rm_X4_in [.long y0, .long y2, .long y4] D tI tII B σ r σ' := by
  refine Met.ofW (cc := cX4_in) (maxL := 6) (ret := (some .boolean)) (by decide) rfl ?_
  intro p e s m args below meth c s₁ B9 hml hv
  obtain ⟨rfl, hP, hK⟩ := hv
  have hl := lv_entry ([.long y0, .long y2, .long y4]) (n := 6) (qz_b rfl)
  rw [lg_entry_eq]
  generalize (lg_sl ([.long y0, .long y2, .long y4]) ++ List.replicate (6 - (lg_sl ([.long y0, .long y2, .long y4])).length) Slot.unset).toArray = ls at hl ⊢
  exact w_X4_in_0 (wt_C_of B9 hml hK) hf ⟨hP, va_S.rf⟩ hl
section
variable {p : Program} {l : Launch} {e : Env} {s : State} {m : MethodId} {args : Array Value} {below : List Frame} {meth : Method} {c : Code} {D : va_G} {tI tII : ClassId} {B : Nat}
set_option maxHeartbeats 4000000 in
set_option maxRecDepth 100000 in
theorem w_X4_refuse_0 (C : wt_C p s m args meth c RX4 cX4_refuse 2 (some .int) D tI tII) {F : Nat} {x1 : Int32} {σ : Mem} {r : Int32} {σ' : Mem} {H : Heap} {locs : List Loc} {ls : Array Slot} (hf : f_X4_refuse F x1 σ = some (r, σ')) (hM : wt_St D tI tII B σ s H locs) (hl : lv_has ls 2 [(0, .ref (B + 101)), (1, .int x1)]) : W p l e rm_X4_refuse s m args below meth c H locs 0 0 (MQ below (wt_Qi D tI tII B r σ') args s 0 0 (fun q => B ≤ q)) (F0 m 0 ls []) := by
  obtain ⟨hx, hb, hts, hown, hml, hr, hlk, hK⟩ := id C
  replace hf := Eq.trans f_X4_refuse_e.symm hf
  refine lv_aload_n hx hb dX4_refuse_0 rfl (lv_at hl 0 rfl) ?_
  refine gf_X4_refusals  hx hb hts hown hK hM tw_721 dX4_refuse_1 ?_
  refine lv_iload_n hx hb dX4_refuse_4 rfl (lv_at hl 1 rfl) ?_
  refine lv_ineg hx hb dX4_refuse_5 ?_
  refine lv_dup2_11 hx hb dX4_refuse_6 rfl rfl ?_
  obtain ⟨i1, hf⟩ := wt_chk_of hf
  refine wt_ild hx hb hK hM wt_a108 i1 dX4_refuse_7 ?_
  refine lv_iconst (v := 1) hx hb dX4_refuse_8 (by decide) ?_
  refine lv_iadd hx hb dX4_refuse_9 ?_
  refine wt_ist hx hb hK hM wt_a108 i1 dX4_refuse_10 hf (fun s2 H locs hf hM => ?_)
  refine lv_iload_n hx hb dX4_refuse_11 rfl (lv_at hl 1 rfl) ?_
  exact wt_iret hx hb hr hlk hK hM hf dX4_refuse_12
end
set_option maxHeartbeats 4000000 in
set_option maxRecDepth 100000 in
theorem c_X4_refuse {l : Launch} {D : va_G} {tI tII : ClassId} {B F : Nat} {x1 : Int32} {σ σ' : Mem} {r : Int32} (hf : f_X4_refuse F x1 σ = some (r, σ')) : wt_Mi l yX4_refuse cX4_refuse 2 (some .int) rm_X4_refuse [.ref (B + 101), .int x1] D tI tII B σ r σ' := by
  refine Met.ofW (cc := cX4_refuse) (maxL := 2) (ret := (some .int)) (by decide) rfl ?_
  intro p e s m args below meth c s₁ B9 hml hv
  obtain ⟨rfl, hP, hK⟩ := hv
  have hl := lv_entry ([.ref (B + 101), .int x1]) (n := 2) (qz_b rfl)
  rw [lg_entry_eq]
  generalize (lg_sl ([.ref (B + 101), .int x1]) ++ List.replicate (2 - (lg_sl ([.ref (B + 101), .int x1])).length) Slot.unset).toArray = ls at hl ⊢
  exact w_X4_refuse_0 (wt_C_of B9 hml hK) hf ⟨hP, va_S.rf⟩ hl
section
variable {p : Program} {l : Launch} {e : Env} {s : State} {m : MethodId} {args : Array Value} {below : List Frame} {meth : Method} {c : Code} {D : va_G} {tI tII : ClassId} {B : Nat}
set_option maxHeartbeats 4000000 in
set_option maxRecDepth 100000 in
theorem w_X4_isLooker_0 (C : wt_C p s m args meth c RX4 cX4_isLooker 2 (some .boolean) D tI tII) {F : Nat} {x1 : Int32} {σ : Mem} {r : Int32} {σ' : Mem} {H : Heap} {locs : List Loc} {ls : Array Slot} (hf : f_X4_isLooker F x1 σ = some (r, σ')) (hM : wt_St D tI tII B σ s H locs) (hl : lv_has ls 2 [(0, .ref (B + 101)), (1, .int x1)]) : W p l e rm_X4_isLooker s m args below meth c H locs 0 0 (MQ below (wt_Qi D tI tII B r σ') args s 0 0 (fun q => B ≤ q)) (F0 m 0 ls []) := by
  obtain ⟨hx, hb, hts, hown, hml, hr, hlk, hK⟩ := id C
  replace hf := Eq.trans f_X4_isLooker_e.symm hf
  refine lv_iload_n hx hb dX4_isLooker_0 rfl (lv_at hl 1 rfl) ?_
  refine lv_i2l (v := (Int32.toInt64 x1)) hx hb dX4_isLooker_1 rfl ?_
  refine lv_lconst (v := 0) hx hb dX4_isLooker_2 (by decide) ?_
  refine lv_aload_n hx hb dX4_isLooker_3 rfl (lv_at hl 0 rfl) ?_
  refine gf_X4_lookers  hx hb hts hown hK hM tw_713 dX4_isLooker_4 ?_
  refine lv_iconst (v := 1) hx hb dX4_isLooker_7 (by decide) ?_
  refine lv_isub hx hb dX4_isLooker_8 ?_
  refine lv_i2l (v := (Int32.toInt64 ((σ 101 3) - (1 : Int32)))) hx hb dX4_isLooker_9 rfl ?_
  refine wt_callSi (As := [.long (Int32.toInt64 x1), .long (0 : Int64), .long (Int32.toInt64 ((σ 101 3) - (1 : Int32)))]) (rest := []) hx hb hml hts hown hK hM cw_X4_77 hd_X4_in rfl ⟨qz_b rfl, qz_b rfl⟩ ⟨rfl, rfl⟩ hl.1 rfl (qz_b rfl) dX4_isLooker_10 hf (fun _ _ h9 => c_X4_in h9) (fun r1 s2 H locs hf hM => ?_)
  obtain ⟨hz9, hf⟩ := wt_bz_of hf
  exact wt_zret hx hb hr hlk hK hM hz9 hf dX4_isLooker_13
end
set_option maxHeartbeats 4000000 in
set_option maxRecDepth 100000 in
theorem c_X4_isLooker {l : Launch} {D : va_G} {tI tII : ClassId} {B F : Nat} {x1 : Int32} {σ σ' : Mem} {r : Int32} (hf : f_X4_isLooker F x1 σ = some (r, σ')) : wt_Mi l yX4_isLooker cX4_isLooker 2 (some .boolean) rm_X4_isLooker [.ref (B + 101), .int x1] D tI tII B σ r σ' := by
  refine Met.ofW (cc := cX4_isLooker) (maxL := 2) (ret := (some .boolean)) (by decide) rfl ?_
  intro p e s m args below meth c s₁ B9 hml hv
  obtain ⟨rfl, hP, hK⟩ := hv
  have hl := lv_entry ([.ref (B + 101), .int x1]) (n := 2) (qz_b rfl)
  rw [lg_entry_eq]
  generalize (lg_sl ([.ref (B + 101), .int x1]) ++ List.replicate (2 - (lg_sl ([.ref (B + 101), .int x1])).length) Slot.unset).toArray = ls at hl ⊢
  exact w_X4_isLooker_0 (wt_C_of B9 hml hK) hf ⟨hP, va_S.rf⟩ hl
section
variable {p : Program} {l : Launch} {e : Env} {s : State} {m : MethodId} {args : Array Value} {below : List Frame} {meth : Method} {c : Code} {D : va_G} {tI tII : ClassId} {B : Nat}
set_option maxHeartbeats 4000000 in
set_option maxRecDepth 100000 in
theorem w_X4_isPane_0 (C : wt_C p s m args meth c RX4 cX4_isPane 2 (some .boolean) D tI tII) {F : Nat} {x1 : Int32} {σ : Mem} {r : Int32} {σ' : Mem} {H : Heap} {locs : List Loc} {ls : Array Slot} (hf : f_X4_isPane F x1 σ = some (r, σ')) (hM : wt_St D tI tII B σ s H locs) (hl : lv_has ls 2 [(0, .ref (B + 101)), (1, .int x1)]) : W p l e rm_X4_isPane s m args below meth c H locs 0 0 (MQ below (wt_Qi D tI tII B r σ') args s 0 0 (fun q => B ≤ q)) (F0 m 0 ls []) := by
  obtain ⟨hx, hb, hts, hown, hml, hr, hlk, hK⟩ := id C
  replace hf := Eq.trans f_X4_isPane_e.symm hf
  refine lv_iload_n hx hb dX4_isPane_0 rfl (lv_at hl 1 rfl) ?_
  refine lv_i2l (v := (Int32.toInt64 x1)) hx hb dX4_isPane_1 rfl ?_
  refine lv_lconst (v := 0) hx hb dX4_isPane_2 (by decide) ?_
  refine lv_aload_n hx hb dX4_isPane_3 rfl (lv_at hl 0 rfl) ?_
  refine gf_X4_panes  hx hb hts hown hK hM tw_711 dX4_isPane_4 ?_
  refine lv_iconst (v := 1) hx hb dX4_isPane_7 (by decide) ?_
  refine lv_isub hx hb dX4_isPane_8 ?_
  refine lv_i2l (v := (Int32.toInt64 ((σ 101 1) - (1 : Int32)))) hx hb dX4_isPane_9 rfl ?_
  refine wt_callSi (As := [.long (Int32.toInt64 x1), .long (0 : Int64), .long (Int32.toInt64 ((σ 101 1) - (1 : Int32)))]) (rest := []) hx hb hml hts hown hK hM cw_X4_77 hd_X4_in rfl ⟨qz_b rfl, qz_b rfl⟩ ⟨rfl, rfl⟩ hl.1 rfl (qz_b rfl) dX4_isPane_10 hf (fun _ _ h9 => c_X4_in h9) (fun r1 s2 H locs hf hM => ?_)
  obtain ⟨hz9, hf⟩ := wt_bz_of hf
  exact wt_zret hx hb hr hlk hK hM hz9 hf dX4_isPane_13
end
set_option maxHeartbeats 4000000 in
set_option maxRecDepth 100000 in
theorem c_X4_isPane {l : Launch} {D : va_G} {tI tII : ClassId} {B F : Nat} {x1 : Int32} {σ σ' : Mem} {r : Int32} (hf : f_X4_isPane F x1 σ = some (r, σ')) : wt_Mi l yX4_isPane cX4_isPane 2 (some .boolean) rm_X4_isPane [.ref (B + 101), .int x1] D tI tII B σ r σ' := by
  refine Met.ofW (cc := cX4_isPane) (maxL := 2) (ret := (some .boolean)) (by decide) rfl ?_
  intro p e s m args below meth c s₁ B9 hml hv
  obtain ⟨rfl, hP, hK⟩ := hv
  have hl := lv_entry ([.ref (B + 101), .int x1]) (n := 2) (qz_b rfl)
  rw [lg_entry_eq]
  generalize (lg_sl ([.ref (B + 101), .int x1]) ++ List.replicate (2 - (lg_sl ([.ref (B + 101), .int x1])).length) Slot.unset).toArray = ls at hl ⊢
  exact w_X4_isPane_0 (wt_C_of B9 hml hK) hf ⟨hP, va_S.rf⟩ hl
section
variable {p : Program} {l : Launch} {e : Env} {s : State} {m : MethodId} {args : Array Value} {below : List Frame} {meth : Method} {c : Code} {D : va_G} {tI tII : ClassId} {B : Nat}
set_option maxHeartbeats 4000000 in
set_option maxRecDepth 100000 in
theorem w_X4_isView_0 (C : wt_C p s m args meth c RX4 cX4_isView 1 (some .boolean) D tI tII) {F : Nat} {x0 : Int32} {σ : Mem} {r : Int32} {σ' : Mem} {H : Heap} {locs : List Loc} {ls : Array Slot} (hf : f_X4_isView F x0 σ = some (r, σ')) (hM : wt_St D tI tII B σ s H locs) (hl : lv_has ls 1 [(0, .int x0)]) : W p l e rm_X4_isView s m args below meth c H locs 0 0 (MQ below (wt_Qi D tI tII B r σ') args s 0 0 (fun q => B ≤ q)) (F0 m 0 ls []) := by
  obtain ⟨hx, hb, hts, hown, hml, hr, hlk, hK⟩ := id C
  replace hf := Eq.trans f_X4_isView_e.symm hf
  refine lv_iload_n hx hb dX4_isView_0 rfl (lv_at hl 0 rfl) ?_
  refine lv_i2l (v := (Int32.toInt64 x0)) hx hb dX4_isView_1 rfl ?_
  refine lv_lconst (v := 0) hx hb dX4_isView_2 (by decide) ?_
  refine lv_ldc2 (v := 7) hx hb hown (hts _ tw_997) dX4_isView_3 ?_
  refine wt_callSi (As := [.long (Int32.toInt64 x0), .long (0 : Int64), .long (7 : Int64)]) (rest := []) hx hb hml hts hown hK hM cw_X4_77 hd_X4_in rfl ⟨qz_b rfl, qz_b rfl⟩ ⟨rfl, rfl⟩ hl.1 rfl (qz_b rfl) dX4_isView_6 hf (fun _ _ h9 => c_X4_in h9) (fun r1 s2 H locs hf hM => ?_)
  obtain ⟨hz9, hf⟩ := wt_bz_of hf
  exact wt_zret hx hb hr hlk hK hM hz9 hf dX4_isView_9
end
set_option maxHeartbeats 4000000 in
set_option maxRecDepth 100000 in
theorem c_X4_isView {l : Launch} {D : va_G} {tI tII : ClassId} {B F : Nat} {x0 : Int32} {σ σ' : Mem} {r : Int32} (hf : f_X4_isView F x0 σ = some (r, σ')) : wt_Mi l yX4_isView cX4_isView 1 (some .boolean) rm_X4_isView [.int x0] D tI tII B σ r σ' := by
  refine Met.ofW (cc := cX4_isView) (maxL := 1) (ret := (some .boolean)) (by decide) rfl ?_
  intro p e s m args below meth c s₁ B9 hml hv
  obtain ⟨rfl, hP, hK⟩ := hv
  have hl := lv_entry ([.int x0]) (n := 1) (qz_b rfl)
  rw [lg_entry_eq]
  generalize (lg_sl ([.int x0]) ++ List.replicate (1 - (lg_sl ([.int x0])).length) Slot.unset).toArray = ls at hl ⊢
  exact w_X4_isView_0 (wt_C_of B9 hml hK) hf ⟨hP, va_S.rf⟩ hl
section
variable {p : Program} {l : Launch} {e : Env} {s : State} {m : MethodId} {args : Array Value} {below : List Frame} {meth : Method} {c : Code} {D : va_G} {tI tII : ClassId} {B : Nat}
set_option maxHeartbeats 4000000 in
set_option maxRecDepth 100000 in
theorem w_X4_isHour_0 (C : wt_C p s m args meth c RX4 cX4_isHour 1 (some .boolean) D tI tII) {F : Nat} {x0 : Int32} {σ : Mem} {r : Int32} {σ' : Mem} {H : Heap} {locs : List Loc} {ls : Array Slot} (hf : f_X4_isHour F x0 σ = some (r, σ')) (hM : wt_St D tI tII B σ s H locs) (hl : lv_has ls 1 [(0, .int x0)]) : W p l e rm_X4_isHour s m args below meth c H locs 0 0 (MQ below (wt_Qi D tI tII B r σ') args s 0 0 (fun q => B ≤ q)) (F0 m 0 ls []) := by
  obtain ⟨hx, hb, hts, hown, hml, hr, hlk, hK⟩ := id C
  replace hf := Eq.trans f_X4_isHour_e.symm hf
  refine lv_iload_n hx hb dX4_isHour_0 rfl (lv_at hl 0 rfl) ?_
  refine lv_i2l (v := (Int32.toInt64 x0)) hx hb dX4_isHour_1 rfl ?_
  refine lv_lconst (v := 0) hx hb dX4_isHour_2 (by decide) ?_
  refine lv_ldc2 (v := 23) hx hb hown (hts _ tw_981) dX4_isHour_3 ?_
  refine wt_callSi (As := [.long (Int32.toInt64 x0), .long (0 : Int64), .long (23 : Int64)]) (rest := []) hx hb hml hts hown hK hM cw_X4_77 hd_X4_in rfl ⟨qz_b rfl, qz_b rfl⟩ ⟨rfl, rfl⟩ hl.1 rfl (qz_b rfl) dX4_isHour_6 hf (fun _ _ h9 => c_X4_in h9) (fun r1 s2 H locs hf hM => ?_)
  obtain ⟨hz9, hf⟩ := wt_bz_of hf
  exact wt_zret hx hb hr hlk hK hM hz9 hf dX4_isHour_9
end
set_option maxHeartbeats 4000000 in
set_option maxRecDepth 100000 in
theorem c_X4_isHour {l : Launch} {D : va_G} {tI tII : ClassId} {B F : Nat} {x0 : Int32} {σ σ' : Mem} {r : Int32} (hf : f_X4_isHour F x0 σ = some (r, σ')) : wt_Mi l yX4_isHour cX4_isHour 1 (some .boolean) rm_X4_isHour [.int x0] D tI tII B σ r σ' := by
  refine Met.ofW (cc := cX4_isHour) (maxL := 1) (ret := (some .boolean)) (by decide) rfl ?_
  intro p e s m args below meth c s₁ B9 hml hv
  obtain ⟨rfl, hP, hK⟩ := hv
  have hl := lv_entry ([.int x0]) (n := 1) (qz_b rfl)
  rw [lg_entry_eq]
  generalize (lg_sl ([.int x0]) ++ List.replicate (1 - (lg_sl ([.int x0])).length) Slot.unset).toArray = ls at hl ⊢
  exact w_X4_isHour_0 (wt_C_of B9 hml hK) hf ⟨hP, va_S.rf⟩ hl
section
variable {p : Program} {l : Launch} {e : Env} {s : State} {m : MethodId} {args : Array Value} {below : List Frame} {meth : Method} {c : Code} {D : va_G} {tI tII : ClassId} {B : Nat}
set_option maxHeartbeats 4000000 in
set_option maxRecDepth 100000 in
theorem w_X4_areTwo_25 (C : wt_C p s m args meth c RX4 cX4_areTwo 3 (some .boolean) D tI tII) {F : Nat} {σ : Mem} {r : Int32} {σ' : Mem} {H : Heap} {locs : List Loc} {ls : Array Slot} (hf : j_X4_areTwo_25 F σ = some (r, σ')) (hM : wt_St D tI tII B σ s H locs) (hl : lv_has ls 3 []) : W p l e rm_X4_areTwo s m args below meth c H locs 0 0 (MQ below (wt_Qi D tI tII B r σ') args s 0 0 (fun q => B ≤ q)) (F0 m 25 ls []) := by
  obtain ⟨hx, hb, hts, hown, hml, hr, hlk, hK⟩ := id C
  replace hf := Eq.trans j_X4_areTwo_25_e.symm hf
  refine lv_iconst (v := 0) hx hb dX4_areTwo_25 (by decide) ?_
  exact wt_zret hx hb hr hlk hK hM (by decide) hf dX4_areTwo_26
set_option maxHeartbeats 4000000 in
set_option maxRecDepth 100000 in
theorem w_X4_areTwo_0 (C : wt_C p s m args meth c RX4 cX4_areTwo 3 (some .boolean) D tI tII) {F : Nat} {x1 : Int32} {x2 : Int32} {σ : Mem} {r : Int32} {σ' : Mem} {H : Heap} {locs : List Loc} {ls : Array Slot} (hf : f_X4_areTwo F x1 x2 σ = some (r, σ')) (hM : wt_St D tI tII B σ s H locs) (hl : lv_has ls 3 [(0, .ref (B + 101)), (1, .int x1), (2, .int x2)]) : W p l e rm_X4_areTwo s m args below meth c H locs 0 0 (MQ below (wt_Qi D tI tII B r σ') args s 0 0 (fun q => B ≤ q)) (F0 m 0 ls []) := by
  obtain ⟨hx, hb, hts, hown, hml, hr, hlk, hK⟩ := id C
  replace hf := Eq.trans f_X4_areTwo_e.symm hf
  refine lv_aload_n hx hb dX4_areTwo_0 rfl (lv_at hl 0 rfl) ?_
  refine lv_iload_n hx hb dX4_areTwo_1 rfl (lv_at hl 1 rfl) ?_
  refine wt_callVi (As := [.int x1]) (rest := []) hx hb hml hts hown hK hM wt_rc_X4 cw_X4_88 hd_X4_isLooker rfl ⟨qz_b rfl, qz_b rfl⟩ ⟨rfl, rfl⟩ hl.1 rfl (qz_b rfl) dX4_areTwo_2 hf (fun _ _ h9 => c_X4_isLooker h9) (fun r1 s2 H locs hf hM => ?_)
  refine wq_if_eq (tgt := 25) hx hb dX4_areTwo_5 (by decide) hf (fun hf => ?_) (fun hf => ?_)
  · exact w_X4_areTwo_25 C hf hM (lv_sub hl [] rfl)
  refine lv_aload_n hx hb dX4_areTwo_8 rfl (lv_at hl 0 rfl) ?_
  refine lv_iload_n hx hb dX4_areTwo_9 rfl (lv_at hl 2 rfl) ?_
  refine wt_callVi (As := [.int x2]) (rest := []) hx hb hml hts hown hK hM wt_rc_X4 cw_X4_88 hd_X4_isLooker rfl ⟨qz_b rfl, qz_b rfl⟩ ⟨rfl, rfl⟩ hl.1 rfl (qz_b rfl) dX4_areTwo_10 hf (fun _ _ h9 => c_X4_isLooker h9) (fun r3 s4 H locs hf hM => ?_)
  refine wq_if_eq (tgt := 25) hx hb dX4_areTwo_13 (by decide) hf (fun hf => ?_) (fun hf => ?_)
  · exact w_X4_areTwo_25 C hf hM (lv_sub hl [] rfl)
  refine lv_iload_n hx hb dX4_areTwo_16 rfl (lv_at hl 1 rfl) ?_
  refine lv_iload_n hx hb dX4_areTwo_17 rfl (lv_at hl 2 rfl) ?_
  refine wq_icmp_eq (tgt := 25) hx hb dX4_areTwo_18 (by decide) hf (fun hf => ?_) (fun hf => ?_)
  · exact w_X4_areTwo_25 C hf hM (lv_sub hl [] rfl)
  refine lv_iconst (v := 1) hx hb dX4_areTwo_21 (by decide) ?_
  refine lv_goto (tgt := 26) hx hb dX4_areTwo_22 (by decide) ?_
  exact wt_zret hx hb hr hlk hK hM (by decide) hf dX4_areTwo_26
end
set_option maxHeartbeats 4000000 in
set_option maxRecDepth 100000 in
theorem c_X4_areTwo {l : Launch} {D : va_G} {tI tII : ClassId} {B F : Nat} {x1 : Int32} {x2 : Int32} {σ σ' : Mem} {r : Int32} (hf : f_X4_areTwo F x1 x2 σ = some (r, σ')) : wt_Mi l yX4_areTwo cX4_areTwo 3 (some .boolean) rm_X4_areTwo [.ref (B + 101), .int x1, .int x2] D tI tII B σ r σ' := by
  refine Met.ofW (cc := cX4_areTwo) (maxL := 3) (ret := (some .boolean)) (by decide) rfl ?_
  intro p e s m args below meth c s₁ B9 hml hv
  obtain ⟨rfl, hP, hK⟩ := hv
  have hl := lv_entry ([.ref (B + 101), .int x1, .int x2]) (n := 3) (qz_b rfl)
  rw [lg_entry_eq]
  generalize (lg_sl ([.ref (B + 101), .int x1, .int x2]) ++ List.replicate (3 - (lg_sl ([.ref (B + 101), .int x1, .int x2])).length) Slot.unset).toArray = ls at hl ⊢
  exact w_X4_areTwo_0 (wt_C_of B9 hml hK) hf ⟨hP, va_S.rf⟩ hl
section
variable {p : Program} {l : Launch} {e : Env} {s : State} {m : MethodId} {args : Array Value} {below : List Frame} {meth : Method} {c : Code} {D : va_G} {tI tII : ClassId} {B : Nat}
set_option maxHeartbeats 4000000 in
set_option maxRecDepth 100000 in
theorem w_X4_wrongNumber_0 (C : wt_C p s m args meth c RX4 cX4_wrongNumber 3 (some .int) D tI tII) {F : Nat} {x0 : Int32} {x1 : Int32} {x2 : Int32} {σ : Mem} {r : Int32} {σ' : Mem} {H : Heap} {locs : List Loc} {ls : Array Slot} (hf : f_X4_wrongNumber F x0 x1 x2 σ = some (r, σ')) (hM : wt_St D tI tII B σ s H locs) (hl : lv_has ls 3 [(0, .int x0), (1, .int x1), (2, .int x2)]) : W p l e rm_X4_wrongNumber s m args below meth c H locs 0 0 (MQ below (wt_Qi D tI tII B r σ') args s 0 0 (fun q => B ≤ q)) (F0 m 0 ls []) := by
  obtain ⟨hx, hb, hts, hown, hml, hr, hlk, hK⟩ := id C
  replace hf := Eq.trans f_X4_wrongNumber_e.symm hf
  refine lv_iload_n hx hb dX4_wrongNumber_0 rfl (lv_at hl 0 rfl) ?_
  refine lv_iload_n hx hb dX4_wrongNumber_1 rfl (lv_at hl 1 rfl) ?_
  refine wq_icmp_ge (tgt := 10) hx hb dX4_wrongNumber_2 (by decide) hf (fun hf => ?_) (fun hf => ?_)
  · refine lv_iload_n hx hb dX4_wrongNumber_10 rfl (lv_at hl 0 rfl) ?_
    refine lv_iload_n hx hb dX4_wrongNumber_11 rfl (lv_at hl 2 rfl) ?_
    refine wq_icmp_le (tgt := 20) hx hb dX4_wrongNumber_12 (by decide) hf (fun hf => ?_) (fun hf => ?_)
    · refine lv_iconst (v := 0) hx hb dX4_wrongNumber_20 (by decide) ?_
      exact wt_iret hx hb hr hlk hK hM hf dX4_wrongNumber_21
    refine lv_bipush (v := -6) hx hb dX4_wrongNumber_15 (by decide) ?_
    refine lv_goto (tgt := 21) hx hb dX4_wrongNumber_17 (by decide) ?_
    exact wt_iret hx hb hr hlk hK hM hf dX4_wrongNumber_21
  refine lv_bipush (v := -4) hx hb dX4_wrongNumber_5 (by decide) ?_
  refine lv_goto (tgt := 21) hx hb dX4_wrongNumber_7 (by decide) ?_
  exact wt_iret hx hb hr hlk hK hM hf dX4_wrongNumber_21
end
set_option maxHeartbeats 4000000 in
set_option maxRecDepth 100000 in
theorem c_X4_wrongNumber {l : Launch} {D : va_G} {tI tII : ClassId} {B F : Nat} {x0 : Int32} {x1 : Int32} {x2 : Int32} {σ σ' : Mem} {r : Int32} (hf : f_X4_wrongNumber F x0 x1 x2 σ = some (r, σ')) : wt_Mi l yX4_wrongNumber cX4_wrongNumber 3 (some .int) rm_X4_wrongNumber [.int x0, .int x1, .int x2] D tI tII B σ r σ' := by
  refine Met.ofW (cc := cX4_wrongNumber) (maxL := 3) (ret := (some .int)) (by decide) rfl ?_
  intro p e s m args below meth c s₁ B9 hml hv
  obtain ⟨rfl, hP, hK⟩ := hv
  have hl := lv_entry ([.int x0, .int x1, .int x2]) (n := 3) (qz_b rfl)
  rw [lg_entry_eq]
  generalize (lg_sl ([.int x0, .int x1, .int x2]) ++ List.replicate (3 - (lg_sl ([.int x0, .int x1, .int x2])).length) Slot.unset).toArray = ls at hl ⊢
  exact w_X4_wrongNumber_0 (wt_C_of B9 hml hK) hf ⟨hP, va_S.rf⟩ hl
section
variable {p : Program} {l : Launch} {e : Env} {s : State} {m : MethodId} {args : Array Value} {below : List Frame} {meth : Method} {c : Code} {D : va_G} {tI tII : ClassId} {B : Nat}
set_option maxHeartbeats 4000000 in
set_option maxRecDepth 100000 in
theorem w_X4_wrongBit_20 (C : wt_C p s m args meth c RX4 cX4_wrongBit 3 (some .int) D tI tII) {F : Nat} {x0 : Int32} {σ : Mem} {r : Int32} {σ' : Mem} {H : Heap} {locs : List Loc} {ls : Array Slot} (hf : j_X4_wrongBit_20 F x0 σ = some (r, σ')) (hM : wt_St D tI tII B σ s H locs) (hl : lv_has ls 3 [(0, .int x0)]) : W p l e rm_X4_wrongBit s m args below meth c H locs 0 0 (MQ below (wt_Qi D tI tII B r σ') args s 0 0 (fun q => B ≤ q)) (F0 m 20 ls []) := by
  obtain ⟨hx, hb, hts, hown, hml, hr, hlk, hK⟩ := id C
  replace hf := Eq.trans j_X4_wrongBit_20_e.symm hf
  refine lv_iload_n hx hb dX4_wrongBit_20 rfl (lv_at hl 0 rfl) ?_
  exact wt_iret hx hb hr hlk hK hM hf dX4_wrongBit_21
set_option maxHeartbeats 4000000 in
set_option maxRecDepth 100000 in
theorem w_X4_wrongBit_0 (C : wt_C p s m args meth c RX4 cX4_wrongBit 3 (some .int) D tI tII) {F : Nat} {x0 : Int32} {x1 : Int32} {x2 : Int32} {σ : Mem} {r : Int32} {σ' : Mem} {H : Heap} {locs : List Loc} {ls : Array Slot} (hf : f_X4_wrongBit F x0 x1 x2 σ = some (r, σ')) (hM : wt_St D tI tII B σ s H locs) (hl : lv_has ls 3 [(0, .int x0), (1, .int x1), (2, .int x2)]) : W p l e rm_X4_wrongBit s m args below meth c H locs 0 0 (MQ below (wt_Qi D tI tII B r σ') args s 0 0 (fun q => B ≤ q)) (F0 m 0 ls []) := by
  obtain ⟨hx, hb, hts, hown, hml, hr, hlk, hK⟩ := id C
  replace hf := Eq.trans f_X4_wrongBit_e.symm hf
  refine lv_iload_n hx hb dX4_wrongBit_0 rfl (lv_at hl 0 rfl) ?_
  refine wq_if_ne (tgt := 20) hx hb dX4_wrongBit_1 (by decide) hf (fun hf => ?_) (fun hf => ?_)
  · exact w_X4_wrongBit_20 C hf hM (lv_sub hl [0] rfl)
  refine lv_iload_n hx hb dX4_wrongBit_4 rfl (lv_at hl 1 rfl) ?_
  refine lv_i2l (v := (Int32.toInt64 x1)) hx hb dX4_wrongBit_5 rfl ?_
  refine lv_lconst (v := 0) hx hb dX4_wrongBit_6 (by decide) ?_
  refine lv_iload_n hx hb dX4_wrongBit_7 rfl (lv_at hl 2 rfl) ?_
  refine lv_i2l (v := (Int32.toInt64 x2)) hx hb dX4_wrongBit_8 rfl ?_
  refine wt_callSi (As := [.long (Int32.toInt64 x1), .long (0 : Int64), .long (Int32.toInt64 x2)]) (rest := []) hx hb hml hts hown hK hM cw_X4_77 hd_X4_in rfl ⟨qz_b rfl, qz_b rfl⟩ ⟨rfl, rfl⟩ hl.1 rfl (qz_b rfl) dX4_wrongBit_9 hf (fun _ _ h9 => c_X4_in h9) (fun r1 s2 H locs hf hM => ?_)
  refine wq_if_ne (tgt := 20) hx hb dX4_wrongBit_12 (by decide) hf (fun hf => ?_) (fun hf => ?_)
  · exact w_X4_wrongBit_20 C hf hM (lv_sub hl [0] rfl)
  refine lv_bipush (v := -2) hx hb dX4_wrongBit_15 (by decide) ?_
  refine lv_goto (tgt := 21) hx hb dX4_wrongBit_17 (by decide) ?_
  exact wt_iret hx hb hr hlk hK hM hf dX4_wrongBit_21
end
set_option maxHeartbeats 4000000 in
set_option maxRecDepth 100000 in
theorem c_X4_wrongBit {l : Launch} {D : va_G} {tI tII : ClassId} {B F : Nat} {x0 : Int32} {x1 : Int32} {x2 : Int32} {σ σ' : Mem} {r : Int32} (hf : f_X4_wrongBit F x0 x1 x2 σ = some (r, σ')) : wt_Mi l yX4_wrongBit cX4_wrongBit 3 (some .int) rm_X4_wrongBit [.int x0, .int x1, .int x2] D tI tII B σ r σ' := by
  refine Met.ofW (cc := cX4_wrongBit) (maxL := 3) (ret := (some .int)) (by decide) rfl ?_
  intro p e s m args below meth c s₁ B9 hml hv
  obtain ⟨rfl, hP, hK⟩ := hv
  have hl := lv_entry ([.int x0, .int x1, .int x2]) (n := 3) (qz_b rfl)
  rw [lg_entry_eq]
  generalize (lg_sl ([.int x0, .int x1, .int x2]) ++ List.replicate (3 - (lg_sl ([.int x0, .int x1, .int x2])).length) Slot.unset).toArray = ls at hl ⊢
  exact w_X4_wrongBit_0 (wt_C_of B9 hml hK) hf ⟨hP, va_S.rf⟩ hl
section
variable {p : Program} {l : Launch} {e : Env} {s : State} {m : MethodId} {args : Array Value} {below : List Frame} {meth : Method} {c : Code} {D : va_G} {tI tII : ClassId} {B : Nat}
set_option maxHeartbeats 4000000 in
set_option maxRecDepth 100000 in
theorem w_X4_hasBit_0 (C : wt_C p s m args meth c RX4 cX4_hasBit 2 (some .boolean) D tI tII) {F : Nat} {x0 : Int32} {x1 : Int32} {σ : Mem} {r : Int32} {σ' : Mem} {H : Heap} {locs : List Loc} {ls : Array Slot} (hf : f_X4_hasBit F x0 x1 σ = some (r, σ')) (hM : wt_St D tI tII B σ s H locs) (hl : lv_has ls 2 [(0, .int x0), (1, .int x1)]) : W p l e rm_X4_hasBit s m args below meth c H locs 0 0 (MQ below (wt_Qi D tI tII B r σ') args s 0 0 (fun q => B ≤ q)) (F0 m 0 ls []) := by
  obtain ⟨hx, hb, hts, hown, hml, hr, hlk, hK⟩ := id C
  replace hf := Eq.trans f_X4_hasBit_e.symm hf
  refine lv_iload_n hx hb dX4_hasBit_0 rfl (lv_at hl 0 rfl) ?_
  refine lv_iload_n hx hb dX4_hasBit_1 rfl (lv_at hl 1 rfl) ?_
  refine lv_ishr hx hb dX4_hasBit_2 ?_
  refine lv_iconst (v := 1) hx hb dX4_hasBit_3 (by decide) ?_
  refine lv_iand hx hb dX4_hasBit_4 ?_
  refine lv_iconst (v := 1) hx hb dX4_hasBit_5 (by decide) ?_
  refine wq_icmp_ne (tgt := 13) hx hb dX4_hasBit_6 (by decide) hf (fun hf => ?_) (fun hf => ?_)
  · refine lv_iconst (v := 0) hx hb dX4_hasBit_13 (by decide) ?_
    exact wt_zret hx hb hr hlk hK hM (by decide) hf dX4_hasBit_14
  refine lv_iconst (v := 1) hx hb dX4_hasBit_9 (by decide) ?_
  refine lv_goto (tgt := 14) hx hb dX4_hasBit_10 (by decide) ?_
  exact wt_zret hx hb hr hlk hK hM (by decide) hf dX4_hasBit_14
end
set_option maxHeartbeats 4000000 in
set_option maxRecDepth 100000 in
theorem c_X4_hasBit {l : Launch} {D : va_G} {tI tII : ClassId} {B F : Nat} {x0 : Int32} {x1 : Int32} {σ σ' : Mem} {r : Int32} (hf : f_X4_hasBit F x0 x1 σ = some (r, σ')) : wt_Mi l yX4_hasBit cX4_hasBit 2 (some .boolean) rm_X4_hasBit [.int x0, .int x1] D tI tII B σ r σ' := by
  refine Met.ofW (cc := cX4_hasBit) (maxL := 2) (ret := (some .boolean)) (by decide) rfl ?_
  intro p e s m args below meth c s₁ B9 hml hv
  obtain ⟨rfl, hP, hK⟩ := hv
  have hl := lv_entry ([.int x0, .int x1]) (n := 2) (qz_b rfl)
  rw [lg_entry_eq]
  generalize (lg_sl ([.int x0, .int x1]) ++ List.replicate (2 - (lg_sl ([.int x0, .int x1])).length) Slot.unset).toArray = ls at hl ⊢
  exact w_X4_hasBit_0 (wt_C_of B9 hml hK) hf ⟨hP, va_S.rf⟩ hl
section
variable {p : Program} {l : Launch} {e : Env} {s : State} {m : MethodId} {args : Array Value} {below : List Frame} {meth : Method} {c : Code} {D : va_G} {tI tII : ClassId} {B : Nat}
set_option maxHeartbeats 4000000 in
set_option maxRecDepth 100000 in
theorem w_X4_onesOf_4 (C : wt_C p s m args meth c RX4 cX4_onesOf 3 (some .int) D tI tII) {F : Nat} {r : Int32} {σ' : Mem} : ∀ (N : Nat) (x1 : Int32) (x2 : Int32) (σ : Mem) (H : Heap) (locs : List Loc) (ls : Array Slot), lp_X4_onesOf_4 F N x1 x2 σ = some (r, σ') → wt_St D tI tII B σ s H locs → lv_has ls 3 [(1, .int x1), (2, .int x2)] → W p l e rm_X4_onesOf s m args below meth c H locs 0 0 (MQ below (wt_Qi D tI tII B r σ') args s 0 0 (fun q => B ≤ q)) (F0 m 4 ls []) := by
  obtain ⟨hx, hb, hts, hown, hml, hr, hlk, hK⟩ := id C
  intro N
  induction N with
  | zero => intro x1 x2 σ H locs ls hf; exact wt_none (show (none : Option (Int32 × Mem)) = some (r, σ') from hf)
  | succ N ih =>
    intro x1 x2 σ H locs ls hf hM hl
    replace hf := Eq.trans lp_X4_onesOf_4_s.symm hf
    refine lv_iload_n hx hb dX4_onesOf_4 rfl (lv_at hl 1 rfl) ?_
    refine wq_if_eq (tgt := 20) hx hb dX4_onesOf_5 (by decide) hf (fun hf => ?_) (fun hf => ?_)
    · refine lv_iload_n hx hb dX4_onesOf_20 rfl (lv_at hl 0 rfl) ?_
      exact wt_iret hx hb hr hlk hK hM hf dX4_onesOf_21
    refine lv_iinc (v := (x1 + (1 : Int32))) (lv' := [(1, .int (x1 + (1 : Int32))), (2, .int x2)]) hx hb dX4_onesOf_8 hl (k := 0) rfl rfl (by decide) rfl (fun ls hl => ?_)
    refine lv_iload_n hx hb dX4_onesOf_11 rfl (lv_at hl 1 rfl) ?_
    refine lv_iload_n hx hb dX4_onesOf_12 rfl (lv_at hl 1 rfl) ?_
    refine lv_iconst (v := 1) hx hb dX4_onesOf_13 (by decide) ?_
    refine lv_isub hx hb dX4_onesOf_14 ?_
    refine lv_iand hx hb dX4_onesOf_15 ?_
    refine wt_leti hf (fun z1 hf => ?_)
    refine lv_istore_n (lv' := [(2, .int z1), (1, .int (x1 + (1 : Int32)))]) hx hb dX4_onesOf_16 rfl hl (by decide) rfl (fun ls hl => ?_)
    refine lv_goto (tgt := 4) hx hb dX4_onesOf_17 (by decide) ?_
    exact ih _ _ _ _ _ _ hf hM (lv_sub hl [1, 0] rfl)
set_option maxHeartbeats 4000000 in
set_option maxRecDepth 100000 in
theorem w_X4_onesOf_0 (C : wt_C p s m args meth c RX4 cX4_onesOf 3 (some .int) D tI tII) {F : Nat} {x0 : Int32} {σ : Mem} {r : Int32} {σ' : Mem} {H : Heap} {locs : List Loc} {ls : Array Slot} (hf : f_X4_onesOf F x0 σ = some (r, σ')) (hM : wt_St D tI tII B σ s H locs) (hl : lv_has ls 3 [(0, .int x0)]) : W p l e rm_X4_onesOf s m args below meth c H locs 0 0 (MQ below (wt_Qi D tI tII B r σ') args s 0 0 (fun q => B ≤ q)) (F0 m 0 ls []) := by
  obtain ⟨hx, hb, hts, hown, hml, hr, hlk, hK⟩ := id C
  replace hf := Eq.trans f_X4_onesOf_e.symm hf
  refine lv_iconst (v := 0) hx hb dX4_onesOf_0 (by decide) ?_
  refine lv_istore_n (lv' := [(1, .int (0 : Int32)), (0, .int x0)]) hx hb dX4_onesOf_1 rfl hl (by decide) rfl (fun ls hl => ?_)
  refine lv_iload_n hx hb dX4_onesOf_2 rfl (lv_at hl 1 rfl) ?_
  refine lv_istore_n (lv' := [(2, .int x0), (1, .int (0 : Int32)), (0, .int x0)]) hx hb dX4_onesOf_3 rfl hl (by decide) rfl (fun ls hl => ?_)
  exact w_X4_onesOf_4 C _ _ _ _ _ _ _ hf hM (lv_sub hl [1, 0] rfl)
end
set_option maxHeartbeats 4000000 in
set_option maxRecDepth 100000 in
theorem c_X4_onesOf {l : Launch} {D : va_G} {tI tII : ClassId} {B F : Nat} {x0 : Int32} {σ σ' : Mem} {r : Int32} (hf : f_X4_onesOf F x0 σ = some (r, σ')) : wt_Mi l yX4_onesOf cX4_onesOf 3 (some .int) rm_X4_onesOf [.int x0] D tI tII B σ r σ' := by
  refine Met.ofW (cc := cX4_onesOf) (maxL := 3) (ret := (some .int)) (by decide) rfl ?_
  intro p e s m args below meth c s₁ B9 hml hv
  obtain ⟨rfl, hP, hK⟩ := hv
  have hl := lv_entry ([.int x0]) (n := 3) (qz_b rfl)
  rw [lg_entry_eq]
  generalize (lg_sl ([.int x0]) ++ List.replicate (3 - (lg_sl ([.int x0])).length) Slot.unset).toArray = ls at hl ⊢
  exact w_X4_onesOf_0 (wt_C_of B9 hml hK) hf ⟨hP, va_S.rf⟩ hl
section
variable {p : Program} {l : Launch} {e : Env} {s : State} {m : MethodId} {args : Array Value} {below : List Frame} {meth : Method} {c : Code} {D : va_G} {tI tII : ClassId} {B : Nat}
set_option maxHeartbeats 4000000 in
set_option maxRecDepth 100000 in
theorem w_X4_pullOf_19 (C : wt_C p s m args meth c RX4 cX4_pullOf 5 (some .int) D tI tII) {F : Nat} {x1 : Int32} {x2 : Int32} {t0 : Int32} {σ : Mem} {r : Int32} {σ' : Mem} {H : Heap} {locs : List Loc} {ls : Array Slot} (hf : j_X4_pullOf_19 F x1 x2 t0 σ = some (r, σ')) (hM : wt_St D tI tII B σ s H locs) (hl : lv_has ls 5 [(0, .ref (B + 101)), (1, .int x1), (2, .int x2)]) : W p l e rm_X4_pullOf s m args below meth c H locs 0 0 (MQ below (wt_Qi D tI tII B r σ') args s 0 0 (fun q => B ≤ q)) (F0 m 19 ls [.int t0]) := by
  obtain ⟨hx, hb, hts, hown, hml, hr, hlk, hK⟩ := id C
  replace hf := Eq.trans j_X4_pullOf_19_e.symm hf
  refine lv_istore_n (lv' := [(3, .int t0), (0, .ref (B + 101)), (1, .int x1), (2, .int x2)]) hx hb dX4_pullOf_19 rfl hl (by decide) rfl (fun ls hl => ?_)
  refine lv_iload_n hx hb dX4_pullOf_20 rfl (lv_at hl 0 rfl) ?_
  refine lv_aload_n hx hb dX4_pullOf_21 rfl (lv_at hl 1 rfl) ?_
  refine gf_X4_figures  hx hb hts hown hK hM tw_715 dX4_pullOf_22 ?_
  refine lv_iload_n hx hb dX4_pullOf_25 rfl (lv_at hl 2 rfl) ?_
  obtain ⟨i1, hf⟩ := wt_chk_of hf
  refine wt_ild hx hb hK hM wt_a105 i1 dX4_pullOf_26 ?_
  refine lv_iconst (v := 3) hx hb dX4_pullOf_27 (by decide) ?_
  refine lv_idiv hx hb dX4_pullOf_28 (by decide) ?_
  refine lv_iadd hx hb dX4_pullOf_29 ?_
  refine wt_leti hf (fun z2 hf => ?_)
  refine lv_istore (lv' := [(4, .int z2), (3, .int t0), (0, .ref (B + 101)), (1, .int x1), (2, .int x2)]) hx hb dX4_pullOf_30 hl (by decide) rfl (fun ls hl => ?_)
  refine lv_aload_n hx hb dX4_pullOf_32 rfl (lv_at hl 2 rfl) ?_
  refine gf_X4_kinds  hx hb hts hown hK hM tw_714 dX4_pullOf_33 ?_
  refine lv_iload_n hx hb dX4_pullOf_36 rfl (lv_at hl 3 rfl) ?_
  refine wt_ild hx hb hK hM wt_a104 i1 dX4_pullOf_37 ?_
  refine wq_key hf (fun e9 hf => ?_) (fun n3_1 hf => ?_)
  · refine lv_tableIn (off := 34) (tgt := 72) hx hb dX4_pullOf_38 (by rw [e9]; decide) (by rw [e9]; decide) (by rw [e9]; rfl) (by decide) ?_
    refine lv_iload_n hx hb dX4_pullOf_72 rfl (lv_at hl 1 rfl) ?_
    exact wt_iret hx hb hr hlk hK hM hf dX4_pullOf_73
  refine wq_key hf (fun e9 hf => ?_) (fun n3_2 hf => ?_)
  · refine lv_tableIn (off := 36) (tgt := 74) hx hb dX4_pullOf_38 (by rw [e9]; decide) (by rw [e9]; decide) (by rw [e9]; rfl) (by decide) ?_
    refine lv_iload_n hx hb dX4_pullOf_74 rfl (lv_at hl 4 rfl) ?_
    refine lv_aload_n hx hb dX4_pullOf_75 rfl (lv_at hl 2 rfl) ?_
    refine gf_X4_figures  hx hb hts hown hK hM tw_715 dX4_pullOf_76 ?_
    refine lv_iload_n hx hb dX4_pullOf_79 rfl (lv_at hl 3 rfl) ?_
    refine wt_ild hx hb hK hM wt_a105 i1 dX4_pullOf_80 ?_
    refine lv_bipush (v := 8) hx hb dX4_pullOf_81 (by decide) ?_
    refine lv_iadd hx hb dX4_pullOf_83 ?_
    refine wq_icmp_ne (tgt := 91) hx hb dX4_pullOf_84 (by decide) hf (fun hf => ?_) (fun hf => ?_)
    · refine lv_iconst (v := 0) hx hb dX4_pullOf_91 (by decide) ?_
      exact wt_iret hx hb hr hlk hK hM hf dX4_pullOf_92
    refine lv_iconst (v := 5) hx hb dX4_pullOf_87 (by decide) ?_
    refine lv_goto (tgt := 92) hx hb dX4_pullOf_88 (by decide) ?_
    exact wt_iret hx hb hr hlk hK hM hf dX4_pullOf_92
  refine wq_key hf (fun e9 hf => ?_) (fun n3_3 hf => ?_)
  · refine lv_tableIn (off := 55) (tgt := 93) hx hb dX4_pullOf_38 (by rw [e9]; decide) (by rw [e9]; decide) (by rw [e9]; rfl) (by decide) ?_
    refine lv_iload_n hx hb dX4_pullOf_93 rfl (lv_at hl 4 rfl) ?_
    refine lv_iconst (v := 2) hx hb dX4_pullOf_94 (by decide) ?_
    refine lv_irem hx hb dX4_pullOf_95 (by decide) ?_
    refine wq_if_ne (tgt := 103) hx hb dX4_pullOf_96 (by decide) hf (fun hf => ?_) (fun hf => ?_)
    · refine lv_iconst (v := 0) hx hb dX4_pullOf_103 (by decide) ?_
      exact wt_iret hx hb hr hlk hK hM hf dX4_pullOf_104
    refine lv_iconst (v := 1) hx hb dX4_pullOf_99 (by decide) ?_
    refine lv_goto (tgt := 104) hx hb dX4_pullOf_100 (by decide) ?_
    exact wt_iret hx hb hr hlk hK hM hf dX4_pullOf_104
  refine wq_key hf (fun e9 hf => ?_) (fun n3_4 hf => ?_)
  · refine lv_tableIn (off := 67) (tgt := 105) hx hb dX4_pullOf_38 (by rw [e9]; decide) (by rw [e9]; decide) (by rw [e9]; rfl) (by decide) ?_
    refine lv_iload hx hb dX4_pullOf_105 (lv_at hl 0 rfl) ?_
    exact wt_iret hx hb hr hlk hK hM hf dX4_pullOf_107
  refine wq_key hf (fun e9 hf => ?_) (fun n3_5 hf => ?_)
  · refine lv_tableIn (off := 70) (tgt := 108) hx hb dX4_pullOf_38 (by rw [e9]; decide) (by rw [e9]; decide) (by rw [e9]; rfl) (by decide) ?_
    refine lv_iload_n hx hb dX4_pullOf_108 rfl (lv_at hl 4 rfl) ?_
    refine lv_bipush (v := 20) hx hb dX4_pullOf_109 (by decide) ?_
    refine wq_icmp_lt (tgt := 121) hx hb dX4_pullOf_111 (by decide) hf (fun hf => ?_) (fun hf => ?_)
    · refine lv_iload hx hb dX4_pullOf_121 (lv_at hl 0 rfl) ?_
      exact wt_iret hx hb hr hlk hK hM hf dX4_pullOf_123
    refine lv_iconst (v := 2) hx hb dX4_pullOf_114 (by decide) ?_
    refine lv_iload hx hb dX4_pullOf_115 (lv_at hl 0 rfl) ?_
    refine lv_imul hx hb dX4_pullOf_117 ?_
    refine lv_goto (tgt := 123) hx hb dX4_pullOf_118 (by decide) ?_
    exact wt_iret hx hb hr hlk hK hM hf dX4_pullOf_123
  refine wq_tableD (ks := [(1 : Int32), (2 : Int32), (3 : Int32), (4 : Int32), (5 : Int32)]) (tgt := 124) hx hb dX4_pullOf_38 (List.forall_mem_cons.mpr ⟨n3_1, List.forall_mem_cons.mpr ⟨n3_2, List.forall_mem_cons.mpr ⟨n3_3, List.forall_mem_cons.mpr ⟨n3_4, List.forall_mem_cons.mpr ⟨n3_5, fun _ h9 => absurd h9 List.not_mem_nil⟩⟩⟩⟩⟩) (by decide) (by decide) ?_
  refine lv_iconst (v := 1) hx hb dX4_pullOf_124 (by decide) ?_
  exact wt_iret hx hb hr hlk hK hM hf dX4_pullOf_125
set_option maxHeartbeats 4000000 in
set_option maxRecDepth 100000 in
theorem w_X4_pullOf_0 (C : wt_C p s m args meth c RX4 cX4_pullOf 5 (some .int) D tI tII) {F : Nat} {x1 : Int32} {x2 : Int32} {σ : Mem} {r : Int32} {σ' : Mem} {H : Heap} {locs : List Loc} {ls : Array Slot} (hf : f_X4_pullOf F x1 x2 σ = some (r, σ')) (hM : wt_St D tI tII B σ s H locs) (hl : lv_has ls 5 [(0, .ref (B + 101)), (1, .int x1), (2, .int x2)]) : W p l e rm_X4_pullOf s m args below meth c H locs 0 0 (MQ below (wt_Qi D tI tII B r σ') args s 0 0 (fun q => B ≤ q)) (F0 m 0 ls []) := by
  obtain ⟨hx, hb, hts, hown, hml, hr, hlk, hK⟩ := id C
  replace hf := Eq.trans f_X4_pullOf_e.symm hf
  refine lv_iload_n hx hb dX4_pullOf_0 rfl (lv_at hl 2 rfl) ?_
  refine lv_i2l (v := (Int32.toInt64 x2)) hx hb dX4_pullOf_1 rfl ?_
  refine lv_ldc2 (v := 6) hx hb hown (hts _ tw_915) dX4_pullOf_2 ?_
  refine lv_ldc2 (v := 17) hx hb hown (hts _ tw_916) dX4_pullOf_5 ?_
  refine wt_callSi (As := [.long (Int32.toInt64 x2), .long (6 : Int64), .long (17 : Int64)]) (rest := []) hx hb hml hts hown hK hM cw_X4_77 hd_X4_in rfl ⟨qz_b rfl, qz_b rfl⟩ ⟨rfl, rfl⟩ hl.1 rfl (qz_b rfl) dX4_pullOf_8 hf (fun _ _ h9 => c_X4_in h9) (fun r4 s5 H locs hf hM => ?_)
  refine wq_if_eq (tgt := 18) hx hb dX4_pullOf_11 (by decide) hf (fun hf => ?_) (fun hf => ?_)
  · refine lv_iconst (v := 1) hx hb dX4_pullOf_18 (by decide) ?_
    exact w_X4_pullOf_19 C hf hM hl
  refine lv_iconst (v := 2) hx hb dX4_pullOf_14 (by decide) ?_
  refine lv_goto (tgt := 19) hx hb dX4_pullOf_15 (by decide) ?_
  exact w_X4_pullOf_19 C hf hM hl
end
set_option maxHeartbeats 4000000 in
set_option maxRecDepth 100000 in
theorem c_X4_pullOf {l : Launch} {D : va_G} {tI tII : ClassId} {B F : Nat} {x1 : Int32} {x2 : Int32} {σ σ' : Mem} {r : Int32} (hf : f_X4_pullOf F x1 x2 σ = some (r, σ')) : wt_Mi l yX4_pullOf cX4_pullOf 5 (some .int) rm_X4_pullOf [.ref (B + 101), .int x1, .int x2] D tI tII B σ r σ' := by
  refine Met.ofW (cc := cX4_pullOf) (maxL := 5) (ret := (some .int)) (by decide) rfl ?_
  intro p e s m args below meth c s₁ B9 hml hv
  obtain ⟨rfl, hP, hK⟩ := hv
  have hl := lv_entry ([.ref (B + 101), .int x1, .int x2]) (n := 5) (qz_b rfl)
  rw [lg_entry_eq]
  generalize (lg_sl ([.ref (B + 101), .int x1, .int x2]) ++ List.replicate (5 - (lg_sl ([.ref (B + 101), .int x1, .int x2])).length) Slot.unset).toArray = ls at hl ⊢
  exact w_X4_pullOf_0 (wt_C_of B9 hml hK) hf ⟨hP, va_S.rf⟩ hl
section
variable {p : Program} {l : Launch} {e : Env} {s : State} {m : MethodId} {args : Array Value} {below : List Frame} {meth : Method} {c : Code} {D : va_G} {tI tII : ClassId} {B : Nat}
set_option maxHeartbeats 4000000 in
set_option maxRecDepth 100000 in
theorem w_X4_allShown_4 (C : wt_C p s m args meth c RX4 cX4_allShown 3 (some .int) D tI tII) {F : Nat} {r : Int32} {σ' : Mem} : ∀ (N : Nat) (x1 : Int32) (x2 : Int32) (σ : Mem) (H : Heap) (locs : List Loc) (ls : Array Slot), lp_X4_allShown_4 F N x1 x2 σ = some (r, σ') → wt_St D tI tII B σ s H locs → lv_has ls 3 [(0, .ref (B + 101)), (1, .int x1), (2, .int x2)] → W p l e rm_X4_allShown s m args below meth c H locs 0 0 (MQ below (wt_Qi D tI tII B r σ') args s 0 0 (fun q => B ≤ q)) (F0 m 4 ls []) := by
  obtain ⟨hx, hb, hts, hown, hml, hr, hlk, hK⟩ := id C
  intro N
  induction N with
  | zero => intro x1 x2 σ H locs ls hf; exact wt_none (show (none : Option (Int32 × Mem)) = some (r, σ') from hf)
  | succ N ih =>
    intro x1 x2 σ H locs ls hf hM hl
    replace hf := Eq.trans lp_X4_allShown_4_s.symm hf
    refine lv_iload_n hx hb dX4_allShown_4 rfl (lv_at hl 2 rfl) ?_
    refine lv_aload_n hx hb dX4_allShown_5 rfl (lv_at hl 0 rfl) ?_
    refine gf_X4_panes  hx hb hts hown hK hM tw_711 dX4_allShown_6 ?_
    refine wq_icmp_ge (tgt := 27) hx hb dX4_allShown_9 (by decide) hf (fun hf => ?_) (fun hf => ?_)
    · refine lv_iload_n hx hb dX4_allShown_27 rfl (lv_at hl 1 rfl) ?_
      exact wt_iret hx hb hr hlk hK hM hf dX4_allShown_28
    refine lv_iload_n hx hb dX4_allShown_12 rfl (lv_at hl 1 rfl) ?_
    refine lv_aload_n hx hb dX4_allShown_13 rfl (lv_at hl 0 rfl) ?_
    refine gf_X4_shows  hx hb hts hown hK hM tw_712 dX4_allShown_14 ?_
    refine lv_iload_n hx hb dX4_allShown_17 rfl (lv_at hl 2 rfl) ?_
    obtain ⟨i1, hf⟩ := wt_chk_of hf
    refine wt_ild hx hb hK hM wt_a103 i1 dX4_allShown_18 ?_
    refine lv_ior hx hb dX4_allShown_19 ?_
    refine wt_leti hf (fun z2 hf => ?_)
    refine lv_istore_n (lv' := [(1, .int z2), (0, .ref (B + 101)), (2, .int x2)]) hx hb dX4_allShown_20 rfl hl (by decide) rfl (fun ls hl => ?_)
    refine lv_iinc (v := (x2 + (1 : Int32))) (lv' := [(2, .int (x2 + (1 : Int32))), (1, .int z2), (0, .ref (B + 101))]) hx hb dX4_allShown_21 hl (k := 2) rfl rfl (by decide) rfl (fun ls hl => ?_)
    refine lv_goto (tgt := 4) hx hb dX4_allShown_24 (by decide) ?_
    exact ih _ _ _ _ _ _ hf hM (lv_sub hl [2, 1, 0] rfl)
set_option maxHeartbeats 4000000 in
set_option maxRecDepth 100000 in
theorem w_X4_allShown_0 (C : wt_C p s m args meth c RX4 cX4_allShown 3 (some .int) D tI tII) {F : Nat} {σ : Mem} {r : Int32} {σ' : Mem} {H : Heap} {locs : List Loc} {ls : Array Slot} (hf : f_X4_allShown F σ = some (r, σ')) (hM : wt_St D tI tII B σ s H locs) (hl : lv_has ls 3 [(0, .ref (B + 101))]) : W p l e rm_X4_allShown s m args below meth c H locs 0 0 (MQ below (wt_Qi D tI tII B r σ') args s 0 0 (fun q => B ≤ q)) (F0 m 0 ls []) := by
  obtain ⟨hx, hb, hts, hown, hml, hr, hlk, hK⟩ := id C
  replace hf := Eq.trans f_X4_allShown_e.symm hf
  refine lv_iconst (v := 0) hx hb dX4_allShown_0 (by decide) ?_
  refine lv_istore_n (lv' := [(1, .int (0 : Int32)), (0, .ref (B + 101))]) hx hb dX4_allShown_1 rfl hl (by decide) rfl (fun ls hl => ?_)
  refine lv_iconst (v := 0) hx hb dX4_allShown_2 (by decide) ?_
  refine lv_istore_n (lv' := [(2, .int (0 : Int32)), (1, .int (0 : Int32)), (0, .ref (B + 101))]) hx hb dX4_allShown_3 rfl hl (by decide) rfl (fun ls hl => ?_)
  exact w_X4_allShown_4 C _ _ _ _ _ _ _ hf hM (lv_sub hl [2, 1, 0] rfl)
end
set_option maxHeartbeats 4000000 in
set_option maxRecDepth 100000 in
theorem c_X4_allShown {l : Launch} {D : va_G} {tI tII : ClassId} {B F : Nat} {σ σ' : Mem} {r : Int32} (hf : f_X4_allShown F σ = some (r, σ')) : wt_Mi l yX4_allShown cX4_allShown 3 (some .int) rm_X4_allShown [.ref (B + 101)] D tI tII B σ r σ' := by
  refine Met.ofW (cc := cX4_allShown) (maxL := 3) (ret := (some .int)) (by decide) rfl ?_
  intro p e s m args below meth c s₁ B9 hml hv
  obtain ⟨rfl, hP, hK⟩ := hv
  have hl := lv_entry ([.ref (B + 101)]) (n := 3) (qz_b rfl)
  rw [lg_entry_eq]
  generalize (lg_sl ([.ref (B + 101)]) ++ List.replicate (3 - (lg_sl ([.ref (B + 101)])).length) Slot.unset).toArray = ls at hl ⊢
  exact w_X4_allShown_0 (wt_C_of B9 hml hK) hf ⟨hP, va_S.rf⟩ hl
section
variable {p : Program} {l : Launch} {e : Env} {s : State} {m : MethodId} {args : Array Value} {below : List Frame} {meth : Method} {c : Code} {D : va_G} {tI tII : ClassId} {B : Nat}
set_option maxHeartbeats 4000000 in
set_option maxRecDepth 100000 in
theorem w_X4_seesIn_0 (C : wt_C p s m args meth c RX4 cX4_seesIn 4 (some .int) D tI tII) {F : Nat} {x1 : Int32} {x2 : Int32} {σ : Mem} {r : Int32} {σ' : Mem} {H : Heap} {locs : List Loc} {ls : Array Slot} (hf : f_X4_seesIn F x1 x2 σ = some (r, σ')) (hM : wt_St D tI tII B σ s H locs) (hl : lv_has ls 4 [(0, .ref (B + 101)), (1, .int x1), (2, .int x2)]) : W p l e rm_X4_seesIn s m args below meth c H locs 0 0 (MQ below (wt_Qi D tI tII B r σ') args s 0 0 (fun q => B ≤ q)) (F0 m 0 ls []) := by
  obtain ⟨hx, hb, hts, hown, hml, hr, hlk, hK⟩ := id C
  replace hf := Eq.trans f_X4_seesIn_e.symm hf
  refine lv_aload_n hx hb dX4_seesIn_0 rfl (lv_at hl 0 rfl) ?_
  refine gf_X4_rosters  hx hb hts hown hK hM tw_716 dX4_seesIn_1 ?_
  refine lv_bipush (v := 24) hx hb dX4_seesIn_4 (by decide) ?_
  refine lv_iload_n hx hb dX4_seesIn_6 rfl (lv_at hl 1 rfl) ?_
  refine lv_imul hx hb dX4_seesIn_7 ?_
  refine lv_iload_n hx hb dX4_seesIn_8 rfl (lv_at hl 2 rfl) ?_
  refine lv_iadd hx hb dX4_seesIn_9 ?_
  obtain ⟨i1, hf⟩ := wt_chk_of hf
  refine wt_ild hx hb hK hM wt_a106 i1 dX4_seesIn_10 ?_
  refine wt_leti hf (fun z2 hf => ?_)
  refine lv_istore_n (lv' := [(3, .int z2), (0, .ref (B + 101)), (1, .int x1), (2, .int x2)]) hx hb dX4_seesIn_11 rfl hl (by decide) rfl (fun ls hl => ?_)
  refine lv_aload_n hx hb dX4_seesIn_12 rfl (lv_at hl 1 rfl) ?_
  refine gf_X4_kinds  hx hb hts hown hK hM tw_714 dX4_seesIn_13 ?_
  refine lv_iload_n hx hb dX4_seesIn_16 rfl (lv_at hl 2 rfl) ?_
  obtain ⟨i3, hf⟩ := wt_chk_of hf
  refine wt_ild hx hb hK hM wt_a104 i3 dX4_seesIn_17 ?_
  refine lv_iconst (v := 2) hx hb dX4_seesIn_18 (by decide) ?_
  refine wq_icmp_ne (tgt := 29) hx hb dX4_seesIn_19 (by decide) hf (fun hf => ?_) (fun hf => ?_)
  · refine lv_iload_n hx hb dX4_seesIn_29 rfl (lv_at hl 0 rfl) ?_
    refine wq_if_ge (tgt := 37) hx hb dX4_seesIn_30 (by decide) hf (fun hf => ?_) (fun hf => ?_)
    · refine lv_aload_n hx hb dX4_seesIn_37 rfl (lv_at hl 1 rfl) ?_
      refine gf_X4_shows  hx hb hts hown hK hM tw_712 dX4_seesIn_38 ?_
      refine lv_iload_n hx hb dX4_seesIn_41 rfl (lv_at hl 0 rfl) ?_
      obtain ⟨i4, hf⟩ := wt_chk_of hf
      refine wt_ild hx hb hK hM wt_a103 i4 dX4_seesIn_42 ?_
      exact wt_iret hx hb hr hlk hK hM hf dX4_seesIn_43
    refine lv_iconst (v := 0) hx hb dX4_seesIn_33 (by decide) ?_
    refine lv_goto (tgt := 43) hx hb dX4_seesIn_34 (by decide) ?_
    exact wt_iret hx hb hr hlk hK hM hf dX4_seesIn_43
  refine lv_aload_n hx hb dX4_seesIn_22 rfl (lv_at hl 1 rfl) ?_
  refine wt_callVi (As := []) (rest := []) hx hb hml hts hown hK hM wt_rc_X4 cw_X4_96 hd_X4_allShown rfl ⟨qz_b rfl, qz_b rfl⟩ ⟨rfl, rfl⟩ hl.1 rfl (qz_b rfl) dX4_seesIn_23 hf (fun _ _ h9 => c_X4_allShown h9) (fun r5 s6 H locs hf hM => ?_)
  refine lv_goto (tgt := 43) hx hb dX4_seesIn_26 (by decide) ?_
  exact wt_iret hx hb hr hlk hK hM hf dX4_seesIn_43
end
set_option maxHeartbeats 4000000 in
set_option maxRecDepth 100000 in
theorem c_X4_seesIn {l : Launch} {D : va_G} {tI tII : ClassId} {B F : Nat} {x1 : Int32} {x2 : Int32} {σ σ' : Mem} {r : Int32} (hf : f_X4_seesIn F x1 x2 σ = some (r, σ')) : wt_Mi l yX4_seesIn cX4_seesIn 4 (some .int) rm_X4_seesIn [.ref (B + 101), .int x1, .int x2] D tI tII B σ r σ' := by
  refine Met.ofW (cc := cX4_seesIn) (maxL := 4) (ret := (some .int)) (by decide) rfl ?_
  intro p e s m args below meth c s₁ B9 hml hv
  obtain ⟨rfl, hP, hK⟩ := hv
  have hl := lv_entry ([.ref (B + 101), .int x1, .int x2]) (n := 4) (qz_b rfl)
  rw [lg_entry_eq]
  generalize (lg_sl ([.ref (B + 101), .int x1, .int x2]) ++ List.replicate (4 - (lg_sl ([.ref (B + 101), .int x1, .int x2])).length) Slot.unset).toArray = ls at hl ⊢
  exact w_X4_seesIn_0 (wt_C_of B9 hml hK) hf ⟨hP, va_S.rf⟩ hl
section
variable {p : Program} {l : Launch} {e : Env} {s : State} {m : MethodId} {args : Array Value} {below : List Frame} {meth : Method} {c : Code} {D : va_G} {tI tII : ClassId} {B : Nat}
set_option maxHeartbeats 4000000 in
set_option maxRecDepth 100000 in
theorem w_X4_bringsOf_38 (C : wt_C p s m args meth c RX4 cX4_bringsOf 5 (some .int) D tI tII) {F : Nat} {k5 : Int32 → Int32 → Mem → Option (Int32 × Mem)} {x1 : Int32} {x2 : Int32} {x4 : Int32} {t0 : Int32} {t1 : Int32} {σ : Mem} {r : Int32} {σ' : Mem} {H : Heap} {locs : List Loc} {ls : Array Slot} (hk5 : ∀ (x3 : Int32) (x4 : Int32) (σ : Mem) (H : Heap) (locs : List Loc) (ls : Array Slot), k5 x3 x4 σ = some (r, σ') → wt_St D tI tII B σ s H locs → lv_has ls 5 [(0, .ref (B + 101)), (1, .int x1), (2, .int x2), (3, .int x3), (4, .int x4)] → W p l e rm_X4_bringsOf s m args below meth c H locs 0 0 (MQ below (wt_Qi D tI tII B r σ') args s 0 0 (fun q => B ≤ q)) (F0 m 5 ls [])) (hf : j_X4_bringsOf_38 F k5 x1 x2 x4 t0 t1 σ = some (r, σ')) (hM : wt_St D tI tII B σ s H locs) (hl : lv_has ls 5 [(0, .ref (B + 101)), (1, .int x1), (2, .int x2), (4, .int x4)]) : W p l e rm_X4_bringsOf s m args below meth c H locs 0 0 (MQ below (wt_Qi D tI tII B r σ') args s 0 0 (fun q => B ≤ q)) (F0 m 38 ls [.int t1, .int t0]) := by
  obtain ⟨hx, hb, hts, hown, hml, hr, hlk, hK⟩ := id C
  replace hf := Eq.trans j_X4_bringsOf_38_e.symm hf
  refine lv_iadd hx hb dX4_bringsOf_38 ?_
  refine lv_istore_n (lv' := [(3, .int (t0 + t1)), (0, .ref (B + 101)), (1, .int x1), (2, .int x2), (4, .int x4)]) hx hb dX4_bringsOf_39 rfl hl (by decide) rfl (fun ls hl => ?_)
  refine lv_iinc (v := (x4 + (1 : Int32))) (lv' := [(4, .int (x4 + (1 : Int32))), (3, .int (t0 + t1)), (0, .ref (B + 101)), (1, .int x1), (2, .int x2)]) hx hb dX4_bringsOf_40 hl (k := 4) rfl rfl (by decide) rfl (fun ls hl => ?_)
  refine lv_goto (tgt := 5) hx hb dX4_bringsOf_43 (by decide) ?_
  exact hk5 _ _ _ _ _ _ hf hM (lv_sub hl [2, 3, 4, 1, 0] rfl)
set_option maxHeartbeats 4000000 in
set_option maxRecDepth 100000 in
theorem w_X4_bringsOf_5 (C : wt_C p s m args meth c RX4 cX4_bringsOf 5 (some .int) D tI tII) {F : Nat} {x1 : Int32} {x2 : Int32} {r : Int32} {σ' : Mem} : ∀ (N : Nat) (x3 : Int32) (x4 : Int32) (σ : Mem) (H : Heap) (locs : List Loc) (ls : Array Slot), lp_X4_bringsOf_5 F x1 x2 N x3 x4 σ = some (r, σ') → wt_St D tI tII B σ s H locs → lv_has ls 5 [(0, .ref (B + 101)), (1, .int x1), (2, .int x2), (3, .int x3), (4, .int x4)] → W p l e rm_X4_bringsOf s m args below meth c H locs 0 0 (MQ below (wt_Qi D tI tII B r σ') args s 0 0 (fun q => B ≤ q)) (F0 m 5 ls []) := by
  obtain ⟨hx, hb, hts, hown, hml, hr, hlk, hK⟩ := id C
  intro N
  induction N with
  | zero => intro x3 x4 σ H locs ls hf; exact wt_none (show (none : Option (Int32 × Mem)) = some (r, σ') from hf)
  | succ N ih =>
    intro x3 x4 σ H locs ls hf hM hl
    replace hf := Eq.trans lp_X4_bringsOf_5_s.symm hf
    refine lv_iload hx hb dX4_bringsOf_5 (lv_at hl 4 rfl) ?_
    refine lv_bipush (v := 24) hx hb dX4_bringsOf_7 (by decide) ?_
    refine wq_icmp_ge (tgt := 46) hx hb dX4_bringsOf_9 (by decide) hf (fun hf => ?_) (fun hf => ?_)
    · refine lv_iload_n hx hb dX4_bringsOf_46 rfl (lv_at hl 3 rfl) ?_
      exact wt_iret hx hb hr hlk hK hM hf dX4_bringsOf_47
    refine lv_iload_n hx hb dX4_bringsOf_12 rfl (lv_at hl 3 rfl) ?_
    refine lv_aload_n hx hb dX4_bringsOf_13 rfl (lv_at hl 0 rfl) ?_
    refine lv_iload_n hx hb dX4_bringsOf_14 rfl (lv_at hl 1 rfl) ?_
    refine lv_iload hx hb dX4_bringsOf_15 (lv_at hl 4 rfl) ?_
    refine wt_callVi (As := [.int x1, .int x4]) (rest := [.int x3]) hx hb hml hts hown hK hM wt_rc_X4 cw_X4_100 hd_X4_seesIn rfl ⟨qz_b rfl, qz_b rfl⟩ ⟨rfl, rfl⟩ hl.1 rfl (qz_b rfl) dX4_bringsOf_17 hf (fun _ _ h9 => c_X4_seesIn h9) (fun r1 s2 H locs hf hM => ?_)
    refine lv_iload_n hx hb dX4_bringsOf_20 rfl (lv_at hl 2 rfl) ?_
    refine wt_callSi (As := [.int r1, .int x2]) (rest := [.int x3]) hx hb hml hts hown hK hM cw_X4_104 hd_X4_hasBit rfl ⟨qz_b rfl, qz_b rfl⟩ ⟨rfl, rfl⟩ hl.1 rfl (qz_b rfl) dX4_bringsOf_21 hf (fun _ _ h9 => c_X4_hasBit h9) (fun r3 s4 H locs hf hM => ?_)
    refine wq_if_eq (tgt := 37) hx hb dX4_bringsOf_24 (by decide) hf (fun hf => ?_) (fun hf => ?_)
    · refine lv_iconst (v := 0) hx hb dX4_bringsOf_37 (by decide) ?_
      exact w_X4_bringsOf_38 C ih hf hM (lv_sub hl [0, 1, 2, 4] rfl)
    refine lv_aload_n hx hb dX4_bringsOf_27 rfl (lv_at hl 0 rfl) ?_
    refine lv_iload_n hx hb dX4_bringsOf_28 rfl (lv_at hl 1 rfl) ?_
    refine lv_iload hx hb dX4_bringsOf_29 (lv_at hl 4 rfl) ?_
    refine wt_callVi (As := [.int x1, .int x4]) (rest := [.int x3]) hx hb hml hts hown hK hM wt_rc_X4 cw_X4_108 hd_X4_pullOf rfl ⟨qz_b rfl, qz_b rfl⟩ ⟨rfl, rfl⟩ hl.1 rfl (qz_b rfl) dX4_bringsOf_31 hf (fun _ _ h9 => c_X4_pullOf h9) (fun r5 s6 H locs hf hM => ?_)
    refine lv_goto (tgt := 38) hx hb dX4_bringsOf_34 (by decide) ?_
    exact w_X4_bringsOf_38 C ih hf hM (lv_sub hl [0, 1, 2, 4] rfl)
set_option maxHeartbeats 4000000 in
set_option maxRecDepth 100000 in
theorem w_X4_bringsOf_0 (C : wt_C p s m args meth c RX4 cX4_bringsOf 5 (some .int) D tI tII) {F : Nat} {x1 : Int32} {x2 : Int32} {σ : Mem} {r : Int32} {σ' : Mem} {H : Heap} {locs : List Loc} {ls : Array Slot} (hf : f_X4_bringsOf F x1 x2 σ = some (r, σ')) (hM : wt_St D tI tII B σ s H locs) (hl : lv_has ls 5 [(0, .ref (B + 101)), (1, .int x1), (2, .int x2)]) : W p l e rm_X4_bringsOf s m args below meth c H locs 0 0 (MQ below (wt_Qi D tI tII B r σ') args s 0 0 (fun q => B ≤ q)) (F0 m 0 ls []) := by
  obtain ⟨hx, hb, hts, hown, hml, hr, hlk, hK⟩ := id C
  replace hf := Eq.trans f_X4_bringsOf_e.symm hf
  refine lv_iconst (v := 0) hx hb dX4_bringsOf_0 (by decide) ?_
  refine lv_istore_n (lv' := [(3, .int (0 : Int32)), (0, .ref (B + 101)), (1, .int x1), (2, .int x2)]) hx hb dX4_bringsOf_1 rfl hl (by decide) rfl (fun ls hl => ?_)
  refine lv_iconst (v := 0) hx hb dX4_bringsOf_2 (by decide) ?_
  refine lv_istore (lv' := [(4, .int (0 : Int32)), (3, .int (0 : Int32)), (0, .ref (B + 101)), (1, .int x1), (2, .int x2)]) hx hb dX4_bringsOf_3 hl (by decide) rfl (fun ls hl => ?_)
  exact w_X4_bringsOf_5 C _ _ _ _ _ _ _ hf hM (lv_sub hl [2, 3, 4, 1, 0] rfl)
end
set_option maxHeartbeats 4000000 in
set_option maxRecDepth 100000 in
theorem c_X4_bringsOf {l : Launch} {D : va_G} {tI tII : ClassId} {B F : Nat} {x1 : Int32} {x2 : Int32} {σ σ' : Mem} {r : Int32} (hf : f_X4_bringsOf F x1 x2 σ = some (r, σ')) : wt_Mi l yX4_bringsOf cX4_bringsOf 5 (some .int) rm_X4_bringsOf [.ref (B + 101), .int x1, .int x2] D tI tII B σ r σ' := by
  refine Met.ofW (cc := cX4_bringsOf) (maxL := 5) (ret := (some .int)) (by decide) rfl ?_
  intro p e s m args below meth c s₁ B9 hml hv
  obtain ⟨rfl, hP, hK⟩ := hv
  have hl := lv_entry ([.ref (B + 101), .int x1, .int x2]) (n := 5) (qz_b rfl)
  rw [lg_entry_eq]
  generalize (lg_sl ([.ref (B + 101), .int x1, .int x2]) ++ List.replicate (5 - (lg_sl ([.ref (B + 101), .int x1, .int x2])).length) Slot.unset).toArray = ls at hl ⊢
  exact w_X4_bringsOf_0 (wt_C_of B9 hml hK) hf ⟨hP, va_S.rf⟩ hl
section
variable {p : Program} {l : Launch} {e : Env} {s : State} {m : MethodId} {args : Array Value} {below : List Frame} {meth : Method} {c : Code} {D : va_G} {tI tII : ClassId} {B : Nat}
set_option maxHeartbeats 4000000 in
set_option maxRecDepth 100000 in
theorem w_X4_layBrings_12 (C : wt_C p s m args meth c RX4 cX4_layBrings 3 none D tI tII) {F : Nat} {k2 : Int32 → Mem → Option (Unit × Mem)} {x1 : Int32} {σ' : Mem} (hk2 : ∀ (x1 : Int32) (σ : Mem) (H : Heap) (locs : List Loc) (ls : Array Slot), k2 x1 σ = some ((), σ') → wt_St D tI tII B σ s H locs → lv_has ls 3 [(0, .ref (B + 101)), (1, .int x1)] → W p l e rm_X4_layBrings s m args below meth c H locs 0 0 (MQ below (wt_Qv D tI tII B σ') args s 0 0 (fun q => B ≤ q)) (F0 m 2 ls [])) : ∀ (N : Nat) (x2 : Int32) (σ : Mem) (H : Heap) (locs : List Loc) (ls : Array Slot), lp_X4_layBrings_12 F k2 x1 N x2 σ = some ((), σ') → wt_St D tI tII B σ s H locs → lv_has ls 3 [(0, .ref (B + 101)), (1, .int x1), (2, .int x2)] → W p l e rm_X4_layBrings s m args below meth c H locs 0 0 (MQ below (wt_Qv D tI tII B σ') args s 0 0 (fun q => B ≤ q)) (F0 m 12 ls []) := by
  obtain ⟨hx, hb, hts, hown, hml, hr, hlk, hK⟩ := id C
  intro N
  induction N with
  | zero => intro x2 σ H locs ls hf; exact wt_none (show (none : Option (Unit × Mem)) = some ((), σ') from hf)
  | succ N ih =>
    intro x2 σ H locs ls hf hM hl
    replace hf := Eq.trans lp_X4_layBrings_12_s.symm hf
    refine lv_iload_n hx hb dX4_layBrings_12 rfl (lv_at hl 2 rfl) ?_
    refine lv_bipush (v := 8) hx hb dX4_layBrings_13 (by decide) ?_
    refine wq_icmp_ge (tgt := 41) hx hb dX4_layBrings_15 (by decide) hf (fun hf => ?_) (fun hf => ?_)
    · refine lv_iinc (v := (x1 + (1 : Int32))) (lv' := [(1, .int (x1 + (1 : Int32))), (0, .ref (B + 101)), (2, .int x2)]) hx hb dX4_layBrings_41 hl (k := 1) rfl rfl (by decide) rfl (fun ls hl => ?_)
      refine lv_goto (tgt := 2) hx hb dX4_layBrings_44 (by decide) ?_
      exact hk2 _ _ _ _ _ hf hM (lv_sub hl [1, 0] rfl)
    refine lv_aload_n hx hb dX4_layBrings_18 rfl (lv_at hl 0 rfl) ?_
    refine gf_X4_brings  hx hb hts hown hK hM tw_722 dX4_layBrings_19 ?_
    refine lv_bipush (v := 8) hx hb dX4_layBrings_22 (by decide) ?_
    refine lv_iload_n hx hb dX4_layBrings_24 rfl (lv_at hl 1 rfl) ?_
    refine lv_imul hx hb dX4_layBrings_25 ?_
    refine lv_iload_n hx hb dX4_layBrings_26 rfl (lv_at hl 2 rfl) ?_
    refine lv_iadd hx hb dX4_layBrings_27 ?_
    refine lv_aload_n hx hb dX4_layBrings_28 rfl (lv_at hl 0 rfl) ?_
    refine lv_iload_n hx hb dX4_layBrings_29 rfl (lv_at hl 1 rfl) ?_
    refine lv_iload_n hx hb dX4_layBrings_30 rfl (lv_at hl 2 rfl) ?_
    refine wt_callVi (As := [.int x1, .int x2]) (rest := [.int (((8 : Int32) * x1) + x2), .ref (B + 109)]) hx hb hml hts hown hK hM wt_rc_X4 cw_X4_111 hd_X4_bringsOf rfl ⟨qz_b rfl, qz_b rfl⟩ ⟨rfl, rfl⟩ hl.1 rfl (qz_b rfl) dX4_layBrings_31 hf (fun _ _ h9 => c_X4_bringsOf h9) (fun r1 s2 H locs hf hM => ?_)
    obtain ⟨i3, hf⟩ := wt_chk_of hf
    refine wt_ist hx hb hK hM wt_a109 i3 dX4_layBrings_34 hf (fun s4 H locs hf hM => ?_)
    refine lv_iinc (v := (x2 + (1 : Int32))) (lv' := [(2, .int (x2 + (1 : Int32))), (0, .ref (B + 101)), (1, .int x1)]) hx hb dX4_layBrings_35 hl (k := 2) rfl rfl (by decide) rfl (fun ls hl => ?_)
    refine lv_goto (tgt := 12) hx hb dX4_layBrings_38 (by decide) ?_
    exact ih _ _ _ _ _ hf hM (lv_sub hl [1, 2, 0] rfl)
set_option maxHeartbeats 4000000 in
set_option maxRecDepth 100000 in
theorem w_X4_layBrings_2 (C : wt_C p s m args meth c RX4 cX4_layBrings 3 none D tI tII) {F : Nat} {σ' : Mem} : ∀ (N : Nat) (x1 : Int32) (σ : Mem) (H : Heap) (locs : List Loc) (ls : Array Slot), lp_X4_layBrings_2 F N x1 σ = some ((), σ') → wt_St D tI tII B σ s H locs → lv_has ls 3 [(0, .ref (B + 101)), (1, .int x1)] → W p l e rm_X4_layBrings s m args below meth c H locs 0 0 (MQ below (wt_Qv D tI tII B σ') args s 0 0 (fun q => B ≤ q)) (F0 m 2 ls []) := by
  obtain ⟨hx, hb, hts, hown, hml, hr, hlk, hK⟩ := id C
  intro N
  induction N with
  | zero => intro x1 σ H locs ls hf; exact wt_none (show (none : Option (Unit × Mem)) = some ((), σ') from hf)
  | succ N ih =>
    intro x1 σ H locs ls hf hM hl
    replace hf := Eq.trans lp_X4_layBrings_2_s.symm hf
    refine lv_iload_n hx hb dX4_layBrings_2 rfl (lv_at hl 1 rfl) ?_
    refine lv_aload_n hx hb dX4_layBrings_3 rfl (lv_at hl 0 rfl) ?_
    refine gf_X4_lookers  hx hb hts hown hK hM tw_713 dX4_layBrings_4 ?_
    refine wq_icmp_ge (tgt := 47) hx hb dX4_layBrings_7 (by decide) hf (fun hf => ?_) (fun hf => ?_)
    · exact wt_vret hx hb hr hlk hK hM hf dX4_layBrings_47
    refine lv_iconst (v := 0) hx hb dX4_layBrings_10 (by decide) ?_
    refine lv_istore_n (lv' := [(2, .int (0 : Int32)), (0, .ref (B + 101)), (1, .int x1)]) hx hb dX4_layBrings_11 rfl hl (by decide) rfl (fun ls hl => ?_)
    exact w_X4_layBrings_12 C ih _ _ _ _ _ _ hf hM (lv_sub hl [1, 2, 0] rfl)
set_option maxHeartbeats 4000000 in
set_option maxRecDepth 100000 in
theorem w_X4_layBrings_0 (C : wt_C p s m args meth c RX4 cX4_layBrings 3 none D tI tII) {F : Nat} {σ : Mem} {σ' : Mem} {H : Heap} {locs : List Loc} {ls : Array Slot} (hf : f_X4_layBrings F σ = some ((), σ')) (hM : wt_St D tI tII B σ s H locs) (hl : lv_has ls 3 [(0, .ref (B + 101))]) : W p l e rm_X4_layBrings s m args below meth c H locs 0 0 (MQ below (wt_Qv D tI tII B σ') args s 0 0 (fun q => B ≤ q)) (F0 m 0 ls []) := by
  obtain ⟨hx, hb, hts, hown, hml, hr, hlk, hK⟩ := id C
  replace hf := Eq.trans f_X4_layBrings_e.symm hf
  refine lv_iconst (v := 0) hx hb dX4_layBrings_0 (by decide) ?_
  refine lv_istore_n (lv' := [(1, .int (0 : Int32)), (0, .ref (B + 101))]) hx hb dX4_layBrings_1 rfl hl (by decide) rfl (fun ls hl => ?_)
  exact w_X4_layBrings_2 C _ _ _ _ _ _ hf hM (lv_sub hl [1, 0] rfl)
end
set_option maxHeartbeats 4000000 in
set_option maxRecDepth 100000 in
theorem c_X4_layBrings {l : Launch} {D : va_G} {tI tII : ClassId} {B F : Nat} {σ σ' : Mem} (hf : f_X4_layBrings F σ = some ((), σ')) : wt_Mv l yX4_layBrings cX4_layBrings 3 none rm_X4_layBrings [.ref (B + 101)] D tI tII B σ σ' := by
  refine Met.ofW (cc := cX4_layBrings) (maxL := 3) (ret := none) (by decide) rfl ?_
  intro p e s m args below meth c s₁ B9 hml hv
  obtain ⟨rfl, hP, hK⟩ := hv
  have hl := lv_entry ([.ref (B + 101)]) (n := 3) (qz_b rfl)
  rw [lg_entry_eq]
  generalize (lg_sl ([.ref (B + 101)]) ++ List.replicate (3 - (lg_sl ([.ref (B + 101)])).length) Slot.unset).toArray = ls at hl ⊢
  exact w_X4_layBrings_0 (wt_C_of B9 hml hK) hf ⟨hP, va_S.rf⟩ hl
section
variable {p : Program} {l : Launch} {e : Env} {s : State} {m : MethodId} {args : Array Value} {below : List Frame} {meth : Method} {c : Code} {D : va_G} {tI tII : ClassId} {B : Nat}
set_option maxHeartbeats 4000000 in
set_option maxRecDepth 100000 in
theorem w_X4_held_0 (C : wt_C p s m args meth c RX4 cX4_held 1 (some .int) D tI tII) {F : Nat} {x0 : Int32} {σ : Mem} {r : Int32} {σ' : Mem} {H : Heap} {locs : List Loc} {ls : Array Slot} (hf : f_X4_held F x0 σ = some (r, σ')) (hM : wt_St D tI tII B σ s H locs) (hl : lv_has ls 1 [(0, .int x0)]) : W p l e rm_X4_held s m args below meth c H locs 0 0 (MQ below (wt_Qi D tI tII B r σ') args s 0 0 (fun q => B ≤ q)) (F0 m 0 ls []) := by
  obtain ⟨hx, hb, hts, hown, hml, hr, hlk, hK⟩ := id C
  replace hf := Eq.trans f_X4_held_e.symm hf
  refine lv_iload_n hx hb dX4_held_0 rfl (lv_at hl 0 rfl) ?_
  refine lv_ldc (v := 99999) hx hb hown (hts _ tw_920) dX4_held_1 ?_
  refine wq_icmp_le (tgt := 11) hx hb dX4_held_3 (by decide) hf (fun hf => ?_) (fun hf => ?_)
  · refine lv_iload_n hx hb dX4_held_11 rfl (lv_at hl 0 rfl) ?_
    exact wt_iret hx hb hr hlk hK hM hf dX4_held_12
  refine lv_ldc (v := 99999) hx hb hown (hts _ tw_920) dX4_held_6 ?_
  refine lv_goto (tgt := 12) hx hb dX4_held_8 (by decide) ?_
  exact wt_iret hx hb hr hlk hK hM hf dX4_held_12
end
set_option maxHeartbeats 4000000 in
set_option maxRecDepth 100000 in
theorem c_X4_held {l : Launch} {D : va_G} {tI tII : ClassId} {B F : Nat} {x0 : Int32} {σ σ' : Mem} {r : Int32} (hf : f_X4_held F x0 σ = some (r, σ')) : wt_Mi l yX4_held cX4_held 1 (some .int) rm_X4_held [.int x0] D tI tII B σ r σ' := by
  refine Met.ofW (cc := cX4_held) (maxL := 1) (ret := (some .int)) (by decide) rfl ?_
  intro p e s m args below meth c s₁ B9 hml hv
  obtain ⟨rfl, hP, hK⟩ := hv
  have hl := lv_entry ([.int x0]) (n := 1) (qz_b rfl)
  rw [lg_entry_eq]
  generalize (lg_sl ([.int x0]) ++ List.replicate (1 - (lg_sl ([.int x0])).length) Slot.unset).toArray = ls at hl ⊢
  exact w_X4_held_0 (wt_C_of B9 hml hK) hf ⟨hP, va_S.rf⟩ hl
