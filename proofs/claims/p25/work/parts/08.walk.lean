theorem dJ6_bitCount_0f7a4_0 : decode cJ6_bitCount_0f7a4 0 = .ok (.iload_n 0, 1) := qd_p qo_26 (by decide +kernel)
theorem dJ6_bitCount_0f7a4_1 : decode cJ6_bitCount_0f7a4 1 = .ok (.iload_n 0, 1) := qd_p qo_26 (by decide +kernel)
theorem dJ6_bitCount_0f7a4_2 : decode cJ6_bitCount_0f7a4 2 = .ok (.iconst 1, 1) := qd_p qo_4 (by decide +kernel)
theorem dJ6_bitCount_0f7a4_3 : decode cJ6_bitCount_0f7a4 3 = .ok (.iushr, 1) := qd_p qo_124 (by decide +kernel)
theorem dJ6_bitCount_0f7a4_4 : decode cJ6_bitCount_0f7a4 4 = .ok (.ldc_w 265, 3) := qz_2 .ldc_w 1 9 qo_19 (by decide +kernel) rfl
theorem dJ6_bitCount_0f7a4_7 : decode cJ6_bitCount_0f7a4 7 = .ok (.iand, 1) := qd_p qo_126 (by decide +kernel)
theorem dJ6_bitCount_0f7a4_8 : decode cJ6_bitCount_0f7a4 8 = .ok (.isub, 1) := qd_p qo_100 (by decide +kernel)
theorem dJ6_bitCount_0f7a4_9 : decode cJ6_bitCount_0f7a4 9 = .ok (.istore_n 0, 1) := qd_p qo_59 (by decide +kernel)
theorem dJ6_bitCount_0f7a4_10 : decode cJ6_bitCount_0f7a4 10 = .ok (.iload_n 0, 1) := qd_p qo_26 (by decide +kernel)
theorem dJ6_bitCount_0f7a4_11 : decode cJ6_bitCount_0f7a4 11 = .ok (.ldc_w 266, 3) := qz_2 .ldc_w 1 10 qo_19 (by decide +kernel) rfl
theorem dJ6_bitCount_0f7a4_14 : decode cJ6_bitCount_0f7a4 14 = .ok (.iand, 1) := qd_p qo_126 (by decide +kernel)
theorem dJ6_bitCount_0f7a4_15 : decode cJ6_bitCount_0f7a4 15 = .ok (.iload_n 0, 1) := qd_p qo_26 (by decide +kernel)
theorem dJ6_bitCount_0f7a4_16 : decode cJ6_bitCount_0f7a4 16 = .ok (.iconst 2, 1) := qd_p qo_5 (by decide +kernel)
theorem dJ6_bitCount_0f7a4_17 : decode cJ6_bitCount_0f7a4 17 = .ok (.iushr, 1) := qd_p qo_124 (by decide +kernel)
theorem dJ6_bitCount_0f7a4_18 : decode cJ6_bitCount_0f7a4 18 = .ok (.ldc_w 266, 3) := qz_2 .ldc_w 1 10 qo_19 (by decide +kernel) rfl
theorem dJ6_bitCount_0f7a4_21 : decode cJ6_bitCount_0f7a4 21 = .ok (.iand, 1) := qd_p qo_126 (by decide +kernel)
theorem dJ6_bitCount_0f7a4_22 : decode cJ6_bitCount_0f7a4 22 = .ok (.iadd, 1) := qd_p qo_96 (by decide +kernel)
theorem dJ6_bitCount_0f7a4_23 : decode cJ6_bitCount_0f7a4 23 = .ok (.istore_n 0, 1) := qd_p qo_59 (by decide +kernel)
theorem dJ6_bitCount_0f7a4_24 : decode cJ6_bitCount_0f7a4 24 = .ok (.iload_n 0, 1) := qd_p qo_26 (by decide +kernel)
theorem dJ6_bitCount_0f7a4_25 : decode cJ6_bitCount_0f7a4 25 = .ok (.iload_n 0, 1) := qd_p qo_26 (by decide +kernel)
theorem dJ6_bitCount_0f7a4_26 : decode cJ6_bitCount_0f7a4 26 = .ok (.iconst 4, 1) := qd_p qo_7 (by decide +kernel)
theorem dJ6_bitCount_0f7a4_27 : decode cJ6_bitCount_0f7a4 27 = .ok (.iushr, 1) := qd_p qo_124 (by decide +kernel)
theorem dJ6_bitCount_0f7a4_28 : decode cJ6_bitCount_0f7a4 28 = .ok (.iadd, 1) := qd_p qo_96 (by decide +kernel)
theorem dJ6_bitCount_0f7a4_29 : decode cJ6_bitCount_0f7a4 29 = .ok (.ldc_w 267, 3) := qz_2 .ldc_w 1 11 qo_19 (by decide +kernel) rfl
theorem dJ6_bitCount_0f7a4_32 : decode cJ6_bitCount_0f7a4 32 = .ok (.iand, 1) := qd_p qo_126 (by decide +kernel)
theorem dJ6_bitCount_0f7a4_33 : decode cJ6_bitCount_0f7a4 33 = .ok (.istore_n 0, 1) := qd_p qo_59 (by decide +kernel)
theorem dJ6_bitCount_0f7a4_34 : decode cJ6_bitCount_0f7a4 34 = .ok (.iload_n 0, 1) := qd_p qo_26 (by decide +kernel)
theorem dJ6_bitCount_0f7a4_35 : decode cJ6_bitCount_0f7a4 35 = .ok (.iload_n 0, 1) := qd_p qo_26 (by decide +kernel)
theorem dJ6_bitCount_0f7a4_36 : decode cJ6_bitCount_0f7a4 36 = .ok (.bipush 8, 2) := qz_s1 .bipush 8 qo_16 (by decide +kernel) rfl
theorem dJ6_bitCount_0f7a4_38 : decode cJ6_bitCount_0f7a4 38 = .ok (.iushr, 1) := qd_p qo_124 (by decide +kernel)
theorem dJ6_bitCount_0f7a4_39 : decode cJ6_bitCount_0f7a4 39 = .ok (.iadd, 1) := qd_p qo_96 (by decide +kernel)
theorem dJ6_bitCount_0f7a4_40 : decode cJ6_bitCount_0f7a4 40 = .ok (.istore_n 0, 1) := qd_p qo_59 (by decide +kernel)
theorem dJ6_bitCount_0f7a4_41 : decode cJ6_bitCount_0f7a4 41 = .ok (.iload_n 0, 1) := qd_p qo_26 (by decide +kernel)
theorem dJ6_bitCount_0f7a4_42 : decode cJ6_bitCount_0f7a4 42 = .ok (.iload_n 0, 1) := qd_p qo_26 (by decide +kernel)
theorem dJ6_bitCount_0f7a4_43 : decode cJ6_bitCount_0f7a4 43 = .ok (.bipush 16, 2) := qz_s1 .bipush 16 qo_16 (by decide +kernel) rfl
theorem dJ6_bitCount_0f7a4_45 : decode cJ6_bitCount_0f7a4 45 = .ok (.iushr, 1) := qd_p qo_124 (by decide +kernel)
theorem dJ6_bitCount_0f7a4_46 : decode cJ6_bitCount_0f7a4 46 = .ok (.iadd, 1) := qd_p qo_96 (by decide +kernel)
theorem dJ6_bitCount_0f7a4_47 : decode cJ6_bitCount_0f7a4 47 = .ok (.istore_n 0, 1) := qd_p qo_59 (by decide +kernel)
theorem dJ6_bitCount_0f7a4_48 : decode cJ6_bitCount_0f7a4 48 = .ok (.iload_n 0, 1) := qd_p qo_26 (by decide +kernel)
theorem dJ6_bitCount_0f7a4_49 : decode cJ6_bitCount_0f7a4 49 = .ok (.bipush 63, 2) := qz_s1 .bipush 63 qo_16 (by decide +kernel) rfl
theorem dJ6_bitCount_0f7a4_51 : decode cJ6_bitCount_0f7a4 51 = .ok (.iand, 1) := qd_p qo_126 (by decide +kernel)
theorem dJ6_bitCount_0f7a4_52 : decode cJ6_bitCount_0f7a4 52 = .ok (.ireturn, 1) := qd_p qo_172 (by decide +kernel)
theorem dX3_days_0 : decode cX3_days 0 = .ok (.iload_n 1, 1) := qd_p qo_27 (by decide +kernel)
theorem dX3_days_1 : decode cX3_days 1 = .ok (.iconst 1, 1) := qd_p qo_4 (by decide +kernel)
theorem dX3_days_2 : decode cX3_days 2 = .ok (.bipush 99, 2) := qz_s1 .bipush 99 qo_16 (by decide +kernel) rfl
theorem dX3_days_4 : decode cX3_days 4 = .ok (.invokestatic 81, 3) := qz_2 .invokestatic 0 81 qo_184 (by decide +kernel) rfl
theorem dX3_days_7 : decode cX3_days 7 = .ok (.istore_n 2, 1) := qd_p qo_61 (by decide +kernel)
theorem dX3_days_8 : decode cX3_days 8 = .ok (.iload_n 2, 1) := qd_p qo_28 (by decide +kernel)
theorem dX3_days_9 : decode cX3_days 9 = .ok (.ifCond .ne 21, 3) := qz_s2 (.ifCond .ne) 0 21 qo_154 (by decide +kernel) rfl
theorem dX3_days_12 : decode cX3_days 12 = .ok (.aload_n 0, 1) := qd_p qo_42 (by decide +kernel)
theorem dX3_days_13 : decode cX3_days 13 = .ok (.getfield 10, 3) := qz_2 .getfield 0 10 qo_180 (by decide +kernel) rfl
theorem dX3_days_16 : decode cX3_days 16 = .ok (.getfield 199, 3) := qz_2 .getfield 0 199 qo_180 (by decide +kernel) rfl
theorem dX3_days_19 : decode cX3_days 19 = .ok (.iload_n 1, 1) := qd_p qo_27 (by decide +kernel)
theorem dX3_days_20 : decode cX3_days 20 = .ok (.iadd, 1) := qd_p qo_96 (by decide +kernel)
theorem dX3_days_21 : decode cX3_days 21 = .ok (.sipush 9999, 3) := qz_s2 .sipush 39 15 qo_17 (by decide +kernel) rfl
theorem dX3_days_24 : decode cX3_days 24 = .ok (.if_icmp .le 6, 3) := qz_s2 (.if_icmp .le) 0 6 qo_164 (by decide +kernel) rfl
theorem dX3_days_27 : decode cX3_days 27 = .ok (.bipush (-6), 2) := qz_s1 .bipush 250 qo_16 (by decide +kernel) rfl
theorem dX3_days_29 : decode cX3_days 29 = .ok (.istore_n 2, 1) := qd_p qo_61 (by decide +kernel)
theorem dX3_days_30 : decode cX3_days 30 = .ok (.iload_n 2, 1) := qd_p qo_28 (by decide +kernel)
theorem dX3_days_31 : decode cX3_days 31 = .ok (.ifCond .eq 9, 3) := qz_s2 (.ifCond .eq) 0 9 qo_153 (by decide +kernel) rfl
theorem dX3_days_34 : decode cX3_days 34 = .ok (.aload_n 0, 1) := qd_p qo_42 (by decide +kernel)
theorem dX3_days_35 : decode cX3_days 35 = .ok (.iload_n 2, 1) := qd_p qo_28 (by decide +kernel)
theorem dX3_days_36 : decode cX3_days 36 = .ok (.invokevirtual 61, 3) := qz_2 .invokevirtual 0 61 qo_182 (by decide +kernel) rfl
theorem dX3_days_39 : decode cX3_days 39 = .ok (.ireturn, 1) := qd_p qo_172 (by decide +kernel)
theorem dX3_days_40 : decode cX3_days 40 = .ok (.aload_n 0, 1) := qd_p qo_42 (by decide +kernel)
theorem dX3_days_41 : decode cX3_days 41 = .ok (.getfield 10, 3) := qz_2 .getfield 0 10 qo_180 (by decide +kernel) rfl
theorem dX3_days_44 : decode cX3_days 44 = .ok (.iload_n 1, 1) := qd_p qo_27 (by decide +kernel)
theorem dX3_days_45 : decode cX3_days 45 = .ok (.invokevirtual 202, 3) := qz_2 .invokevirtual 0 202 qo_182 (by decide +kernel) rfl
theorem dX3_days_48 : decode cX3_days 48 = .ok (.pop, 1) := qd_p qo_87 (by decide +kernel)
theorem dX3_days_49 : decode cX3_days 49 = .ok (.aload_n 0, 1) := qd_p qo_42 (by decide +kernel)
theorem dX3_days_50 : decode cX3_days 50 = .ok (.getfield 29, 3) := qz_2 .getfield 0 29 qo_180 (by decide +kernel) rfl
theorem dX3_days_53 : decode cX3_days 53 = .ok (.invokevirtual 117, 3) := qz_2 .invokevirtual 0 117 qo_182 (by decide +kernel) rfl
theorem dX3_days_56 : decode cX3_days 56 = .ok (.aload_n 0, 1) := qd_p qo_42 (by decide +kernel)
theorem dX3_days_57 : decode cX3_days 57 = .ok (.getfield 10, 3) := qz_2 .getfield 0 10 qo_180 (by decide +kernel) rfl
theorem dX3_days_60 : decode cX3_days 60 = .ok (.iconst 0, 1) := qd_p qo_3 (by decide +kernel)
theorem dX3_days_61 : decode cX3_days 61 = .ok (.invokevirtual 205, 3) := qz_2 .invokevirtual 0 205 qo_182 (by decide +kernel) rfl
theorem dX3_days_64 : decode cX3_days 64 = .ok (.invokestatic 208, 3) := qz_2 .invokestatic 0 208 qo_184 (by decide +kernel) rfl
theorem dX3_days_67 : decode cX3_days 67 = .ok (.ireturn, 1) := qd_p qo_172 (by decide +kernel)
theorem dX3_back_0 : decode cX3_back 0 = .ok (.aload_n 0, 1) := qd_p qo_42 (by decide +kernel)
theorem dX3_back_1 : decode cX3_back 1 = .ok (.getfield 29, 3) := qz_2 .getfield 0 29 qo_180 (by decide +kernel) rfl
theorem dX3_back_4 : decode cX3_back 4 = .ok (.getfield 213, 3) := qz_2 .getfield 0 213 qo_180 (by decide +kernel) rfl
theorem dX3_back_7 : decode cX3_back 7 = .ok (.ifCond .ne 10, 3) := qz_s2 (.ifCond .ne) 0 10 qo_154 (by decide +kernel) rfl
theorem dX3_back_10 : decode cX3_back 10 = .ok (.aload_n 0, 1) := qd_p qo_42 (by decide +kernel)
theorem dX3_back_11 : decode cX3_back 11 = .ok (.bipush (-3), 2) := qz_s1 .bipush 253 qo_16 (by decide +kernel) rfl
theorem dX3_back_13 : decode cX3_back 13 = .ok (.invokevirtual 61, 3) := qz_2 .invokevirtual 0 61 qo_182 (by decide +kernel) rfl
theorem dX3_back_16 : decode cX3_back 16 = .ok (.ireturn, 1) := qd_p qo_172 (by decide +kernel)
theorem dX3_back_17 : decode cX3_back 17 = .ok (.aload_n 0, 1) := qd_p qo_42 (by decide +kernel)
theorem dX3_back_18 : decode cX3_back 18 = .ok (.getfield 29, 3) := qz_2 .getfield 0 29 qo_180 (by decide +kernel) rfl
theorem dX3_back_21 : decode cX3_back 21 = .ok (.aload_n 0, 1) := qd_p qo_42 (by decide +kernel)
theorem dX3_back_22 : decode cX3_back 22 = .ok (.getfield 10, 3) := qz_2 .getfield 0 10 qo_180 (by decide +kernel) rfl
theorem dX3_back_25 : decode cX3_back 25 = .ok (.invokevirtual 214, 3) := qz_2 .invokevirtual 0 214 qo_182 (by decide +kernel) rfl
theorem dX3_back_28 : decode cX3_back 28 = .ok (.aload_n 0, 1) := qd_p qo_42 (by decide +kernel)
theorem dX3_back_29 : decode cX3_back 29 = .ok (.getfield 29, 3) := qz_2 .getfield 0 29 qo_180 (by decide +kernel) rfl
theorem dX3_back_32 : decode cX3_back 32 = .ok (.getfield 213, 3) := qz_2 .getfield 0 213 qo_180 (by decide +kernel) rfl
theorem dX3_back_35 : decode cX3_back 35 = .ok (.ireturn, 1) := qd_p qo_172 (by decide +kernel)
theorem dX3_counts_0 : decode cX3_counts 0 = .ok (.aload_n 0, 1) := qd_p qo_42 (by decide +kernel)
theorem dX3_counts_1 : decode cX3_counts 1 = .ok (.iload_n 1, 1) := qd_p qo_27 (by decide +kernel)
theorem dX3_counts_2 : decode cX3_counts 2 = .ok (.invokevirtual 78, 3) := qz_2 .invokevirtual 0 78 qo_182 (by decide +kernel) rfl
theorem dX3_counts_5 : decode cX3_counts 5 = .ok (.iload_n 2, 1) := qd_p qo_28 (by decide +kernel)
theorem dX3_counts_6 : decode cX3_counts 6 = .ok (.invokestatic 174, 3) := qz_2 .invokestatic 0 174 qo_184 (by decide +kernel) rfl
theorem dX3_counts_9 : decode cX3_counts 9 = .ok (.invokestatic 85, 3) := qz_2 .invokestatic 0 85 qo_184 (by decide +kernel) rfl
theorem dX3_counts_12 : decode cX3_counts 12 = .ok (.iload_n 3, 1) := qd_p qo_29 (by decide +kernel)
theorem dX3_counts_13 : decode cX3_counts 13 = .ok (.iconst 2, 1) := qd_p qo_5 (by decide +kernel)
theorem dX3_counts_14 : decode cX3_counts 14 = .ok (.invokestatic 123, 3) := qz_2 .invokestatic 0 123 qo_184 (by decide +kernel) rfl
theorem dX3_counts_17 : decode cX3_counts 17 = .ok (.invokestatic 85, 3) := qz_2 .invokestatic 0 85 qo_184 (by decide +kernel) rfl
theorem dX3_counts_20 : decode cX3_counts 20 = .ok (.istore 4, 2) := qz_1 .istore 4 qo_54 (by decide +kernel)
theorem dX3_counts_22 : decode cX3_counts 22 = .ok (.iload 4, 2) := qz_1 .iload 4 qo_21 (by decide +kernel)
theorem dX3_counts_24 : decode cX3_counts 24 = .ok (.ifCond .eq 10, 3) := qz_s2 (.ifCond .eq) 0 10 qo_153 (by decide +kernel) rfl
theorem dX3_counts_27 : decode cX3_counts 27 = .ok (.aload_n 0, 1) := qd_p qo_42 (by decide +kernel)
theorem dX3_counts_28 : decode cX3_counts 28 = .ok (.iload 4, 2) := qz_1 .iload 4 qo_21 (by decide +kernel)
theorem dX3_counts_30 : decode cX3_counts 30 = .ok (.invokevirtual 61, 3) := qz_2 .invokevirtual 0 61 qo_182 (by decide +kernel) rfl
theorem dX3_counts_33 : decode cX3_counts 33 = .ok (.ireturn, 1) := qd_p qo_172 (by decide +kernel)
theorem dX3_counts_34 : decode cX3_counts 34 = .ok (.aload_n 0, 1) := qd_p qo_42 (by decide +kernel)
theorem dX3_counts_35 : decode cX3_counts 35 = .ok (.getfield 10, 3) := qz_2 .getfield 0 10 qo_180 (by decide +kernel) rfl
theorem dX3_counts_38 : decode cX3_counts 38 = .ok (.invokevirtual 141, 3) := qz_2 .invokevirtual 0 141 qo_182 (by decide +kernel) rfl
theorem dX3_counts_41 : decode cX3_counts 41 = .ok (.iload_n 3, 1) := qd_p qo_29 (by decide +kernel)
theorem dX3_counts_42 : decode cX3_counts 42 = .ok (.ifCond .ne 17, 3) := qz_s2 (.ifCond .ne) 0 17 qo_154 (by decide +kernel) rfl
theorem dX3_counts_45 : decode cX3_counts 45 = .ok (.aload_n 0, 1) := qd_p qo_42 (by decide +kernel)
theorem dX3_counts_46 : decode cX3_counts 46 = .ok (.getfield 10, 3) := qz_2 .getfield 0 10 qo_180 (by decide +kernel) rfl
theorem dX3_counts_49 : decode cX3_counts 49 = .ok (.getfield 217, 3) := qz_2 .getfield 0 217 qo_180 (by decide +kernel) rfl
theorem dX3_counts_52 : decode cX3_counts 52 = .ok (.iload_n 1, 1) := qd_p qo_27 (by decide +kernel)
theorem dX3_counts_53 : decode cX3_counts 53 = .ok (.aaload, 1) := qd_p qo_50 (by decide +kernel)
theorem dX3_counts_54 : decode cX3_counts 54 = .ok (.iload_n 2, 1) := qd_p qo_28 (by decide +kernel)
theorem dX3_counts_55 : decode cX3_counts 55 = .ok (.iaload, 1) := qd_p qo_46 (by decide +kernel)
theorem dX3_counts_56 : decode cX3_counts 56 = .ok (.goto 14, 3) := qz_s2 .goto 0 14 qo_167 (by decide +kernel) rfl
theorem dX3_counts_59 : decode cX3_counts 59 = .ok (.aload_n 0, 1) := qd_p qo_42 (by decide +kernel)
theorem dX3_counts_60 : decode cX3_counts 60 = .ok (.getfield 10, 3) := qz_2 .getfield 0 10 qo_180 (by decide +kernel) rfl
theorem dX3_counts_63 : decode cX3_counts 63 = .ok (.getfield 220, 3) := qz_2 .getfield 0 220 qo_180 (by decide +kernel) rfl
theorem dX3_counts_66 : decode cX3_counts 66 = .ok (.iload_n 1, 1) := qd_p qo_27 (by decide +kernel)
theorem dX3_counts_67 : decode cX3_counts 67 = .ok (.aaload, 1) := qd_p qo_50 (by decide +kernel)
theorem dX3_counts_68 : decode cX3_counts 68 = .ok (.iload_n 2, 1) := qd_p qo_28 (by decide +kernel)
theorem dX3_counts_69 : decode cX3_counts 69 = .ok (.iaload, 1) := qd_p qo_46 (by decide +kernel)
theorem dX3_counts_70 : decode cX3_counts 70 = .ok (.ireturn, 1) := qd_p qo_172 (by decide +kernel)
theorem dX3_owner_0 : decode cX3_owner 0 = .ok (.iload_n 1, 1) := qd_p qo_27 (by decide +kernel)
theorem dX3_owner_1 : decode cX3_owner 1 = .ok (.invokestatic 174, 3) := qz_2 .invokestatic 0 174 qo_184 (by decide +kernel) rfl
theorem dX3_owner_4 : decode cX3_owner 4 = .ok (.iload_n 2, 1) := qd_p qo_28 (by decide +kernel)
theorem dX3_owner_5 : decode cX3_owner 5 = .ok (.iconst 0, 1) := qd_p qo_3 (by decide +kernel)
theorem dX3_owner_6 : decode cX3_owner 6 = .ok (.sipush 999, 3) := qz_s2 .sipush 3 231 qo_17 (by decide +kernel) rfl
theorem dX3_owner_9 : decode cX3_owner 9 = .ok (.invokestatic 81, 3) := qz_2 .invokestatic 0 81 qo_184 (by decide +kernel) rfl
theorem dX3_owner_12 : decode cX3_owner 12 = .ok (.invokestatic 85, 3) := qz_2 .invokestatic 0 85 qo_184 (by decide +kernel) rfl
theorem dX3_owner_15 : decode cX3_owner 15 = .ok (.istore_n 3, 1) := qd_p qo_62 (by decide +kernel)
theorem dX3_owner_16 : decode cX3_owner 16 = .ok (.iload_n 3, 1) := qd_p qo_29 (by decide +kernel)
theorem dX3_owner_17 : decode cX3_owner 17 = .ok (.ifCond .eq 9, 3) := qz_s2 (.ifCond .eq) 0 9 qo_153 (by decide +kernel) rfl
theorem dX3_owner_20 : decode cX3_owner 20 = .ok (.aload_n 0, 1) := qd_p qo_42 (by decide +kernel)
theorem dX3_owner_21 : decode cX3_owner 21 = .ok (.iload_n 3, 1) := qd_p qo_29 (by decide +kernel)
theorem dX3_owner_22 : decode cX3_owner 22 = .ok (.invokevirtual 61, 3) := qz_2 .invokevirtual 0 61 qo_182 (by decide +kernel) rfl
theorem dX3_owner_25 : decode cX3_owner 25 = .ok (.ireturn, 1) := qd_p qo_172 (by decide +kernel)
theorem dX3_owner_26 : decode cX3_owner 26 = .ok (.aload_n 0, 1) := qd_p qo_42 (by decide +kernel)
theorem dX3_owner_27 : decode cX3_owner 27 = .ok (.getfield 10, 3) := qz_2 .getfield 0 10 qo_180 (by decide +kernel) rfl
theorem dX3_owner_30 : decode cX3_owner 30 = .ok (.invokevirtual 141, 3) := qz_2 .invokevirtual 0 141 qo_182 (by decide +kernel) rfl
theorem dX3_owner_33 : decode cX3_owner 33 = .ok (.aload_n 0, 1) := qd_p qo_42 (by decide +kernel)
theorem dX3_owner_34 : decode cX3_owner 34 = .ok (.getfield 10, 3) := qz_2 .getfield 0 10 qo_180 (by decide +kernel) rfl
theorem dX3_owner_37 : decode cX3_owner 37 = .ok (.iload_n 1, 1) := qd_p qo_27 (by decide +kernel)
theorem dX3_owner_38 : decode cX3_owner 38 = .ok (.iload_n 2, 1) := qd_p qo_28 (by decide +kernel)
theorem dX3_owner_39 : decode cX3_owner 39 = .ok (.invokevirtual 223, 3) := qz_2 .invokevirtual 0 223 qo_182 (by decide +kernel) rfl
theorem dX3_owner_42 : decode cX3_owner 42 = .ok (.ireturn, 1) := qd_p qo_172 (by decide +kernel)
theorem dX3_owns_0 : decode cX3_owns 0 = .ok (.aload_n 0, 1) := qd_p qo_42 (by decide +kernel)
theorem dX3_owns_1 : decode cX3_owns 1 = .ok (.iload_n 1, 1) := qd_p qo_27 (by decide +kernel)
theorem dX3_owns_2 : decode cX3_owns 2 = .ok (.iload_n 2, 1) := qd_p qo_28 (by decide +kernel)
theorem dX3_owns_3 : decode cX3_owns 3 = .ok (.invokevirtual 226, 3) := qz_2 .invokevirtual 0 226 qo_182 (by decide +kernel) rfl
theorem dX3_owns_6 : decode cX3_owns 6 = .ok (.iload_n 3, 1) := qd_p qo_29 (by decide +kernel)
theorem dX3_owns_7 : decode cX3_owns 7 = .ok (.iconst 2, 1) := qd_p qo_5 (by decide +kernel)
theorem dX3_owns_8 : decode cX3_owns 8 = .ok (.invokestatic 123, 3) := qz_2 .invokestatic 0 123 qo_184 (by decide +kernel) rfl
theorem dX3_owns_11 : decode cX3_owns 11 = .ok (.invokestatic 85, 3) := qz_2 .invokestatic 0 85 qo_184 (by decide +kernel) rfl
theorem dX3_owns_14 : decode cX3_owns 14 = .ok (.istore 4, 2) := qz_1 .istore 4 qo_54 (by decide +kernel)
theorem dX3_owns_16 : decode cX3_owns 16 = .ok (.iload 4, 2) := qz_1 .iload 4 qo_21 (by decide +kernel)
theorem dX3_owns_18 : decode cX3_owns 18 = .ok (.ifCond .eq 10, 3) := qz_s2 (.ifCond .eq) 0 10 qo_153 (by decide +kernel) rfl
theorem dX3_owns_21 : decode cX3_owns 21 = .ok (.aload_n 0, 1) := qd_p qo_42 (by decide +kernel)
theorem dX3_owns_22 : decode cX3_owns 22 = .ok (.iload 4, 2) := qz_1 .iload 4 qo_21 (by decide +kernel)
theorem dX3_owns_24 : decode cX3_owns 24 = .ok (.invokevirtual 61, 3) := qz_2 .invokevirtual 0 61 qo_182 (by decide +kernel) rfl
theorem dX3_owns_27 : decode cX3_owns 27 = .ok (.ireturn, 1) := qd_p qo_172 (by decide +kernel)
theorem dX3_owns_28 : decode cX3_owns 28 = .ok (.aload_n 0, 1) := qd_p qo_42 (by decide +kernel)
theorem dX3_owns_29 : decode cX3_owns 29 = .ok (.getfield 10, 3) := qz_2 .getfield 0 10 qo_180 (by decide +kernel) rfl
theorem dX3_owns_32 : decode cX3_owns 32 = .ok (.invokevirtual 141, 3) := qz_2 .invokevirtual 0 141 qo_182 (by decide +kernel) rfl
theorem dX3_owns_35 : decode cX3_owns 35 = .ok (.iload_n 3, 1) := qd_p qo_29 (by decide +kernel)
theorem dX3_owns_36 : decode cX3_owns 36 = .ok (.ifCond .ne 15, 3) := qz_s2 (.ifCond .ne) 0 15 qo_154 (by decide +kernel) rfl
theorem dX3_owns_39 : decode cX3_owns 39 = .ok (.aload_n 0, 1) := qd_p qo_42 (by decide +kernel)
theorem dX3_owns_40 : decode cX3_owns 40 = .ok (.getfield 10, 3) := qz_2 .getfield 0 10 qo_180 (by decide +kernel) rfl
theorem dX3_owns_43 : decode cX3_owns 43 = .ok (.iload_n 1, 1) := qd_p qo_27 (by decide +kernel)
theorem dX3_owns_44 : decode cX3_owns 44 = .ok (.iload_n 2, 1) := qd_p qo_28 (by decide +kernel)
theorem dX3_owns_45 : decode cX3_owns 45 = .ok (.invokevirtual 144, 3) := qz_2 .invokevirtual 0 144 qo_182 (by decide +kernel) rfl
theorem dX3_owns_48 : decode cX3_owns 48 = .ok (.goto 12, 3) := qz_s2 .goto 0 12 qo_167 (by decide +kernel) rfl
theorem dX3_owns_51 : decode cX3_owns 51 = .ok (.aload_n 0, 1) := qd_p qo_42 (by decide +kernel)
theorem dX3_owns_52 : decode cX3_owns 52 = .ok (.getfield 10, 3) := qz_2 .getfield 0 10 qo_180 (by decide +kernel) rfl
theorem dX3_owns_55 : decode cX3_owns 55 = .ok (.iload_n 1, 1) := qd_p qo_27 (by decide +kernel)
theorem dX3_owns_56 : decode cX3_owns 56 = .ok (.iload_n 2, 1) := qd_p qo_28 (by decide +kernel)
theorem dX3_owns_57 : decode cX3_owns 57 = .ok (.invokevirtual 229, 3) := qz_2 .invokevirtual 0 229 qo_182 (by decide +kernel) rfl
theorem dX3_owns_60 : decode cX3_owns 60 = .ok (.ireturn, 1) := qd_p qo_172 (by decide +kernel)
theorem dX3_nobodys_0 : decode cX3_nobodys 0 = .ok (.iload_n 1, 1) := qd_p qo_27 (by decide +kernel)
theorem dX3_nobodys_1 : decode cX3_nobodys 1 = .ok (.iconst 0, 1) := qd_p qo_3 (by decide +kernel)
theorem dX3_nobodys_2 : decode cX3_nobodys 2 = .ok (.sipush 999, 3) := qz_s2 .sipush 3 231 qo_17 (by decide +kernel) rfl
theorem dX3_nobodys_5 : decode cX3_nobodys 5 = .ok (.invokestatic 81, 3) := qz_2 .invokestatic 0 81 qo_184 (by decide +kernel) rfl
theorem dX3_nobodys_8 : decode cX3_nobodys 8 = .ok (.istore_n 2, 1) := qd_p qo_61 (by decide +kernel)
theorem dX3_nobodys_9 : decode cX3_nobodys 9 = .ok (.iload_n 2, 1) := qd_p qo_28 (by decide +kernel)
theorem dX3_nobodys_10 : decode cX3_nobodys 10 = .ok (.ifCond .eq 9, 3) := qz_s2 (.ifCond .eq) 0 9 qo_153 (by decide +kernel) rfl
theorem dX3_nobodys_13 : decode cX3_nobodys 13 = .ok (.aload_n 0, 1) := qd_p qo_42 (by decide +kernel)
theorem dX3_nobodys_14 : decode cX3_nobodys 14 = .ok (.iload_n 2, 1) := qd_p qo_28 (by decide +kernel)
theorem dX3_nobodys_15 : decode cX3_nobodys 15 = .ok (.invokevirtual 61, 3) := qz_2 .invokevirtual 0 61 qo_182 (by decide +kernel) rfl
theorem dX3_nobodys_18 : decode cX3_nobodys 18 = .ok (.ireturn, 1) := qd_p qo_172 (by decide +kernel)
theorem dX3_nobodys_19 : decode cX3_nobodys 19 = .ok (.aload_n 0, 1) := qd_p qo_42 (by decide +kernel)
theorem dX3_nobodys_20 : decode cX3_nobodys 20 = .ok (.getfield 10, 3) := qz_2 .getfield 0 10 qo_180 (by decide +kernel) rfl
theorem dX3_nobodys_23 : decode cX3_nobodys 23 = .ok (.invokevirtual 141, 3) := qz_2 .invokevirtual 0 141 qo_182 (by decide +kernel) rfl
theorem dX3_nobodys_26 : decode cX3_nobodys 26 = .ok (.sipush 255, 3) := qz_s2 .sipush 0 255 qo_17 (by decide +kernel) rfl
theorem dX3_nobodys_29 : decode cX3_nobodys 29 = .ok (.aload_n 0, 1) := qd_p qo_42 (by decide +kernel)
theorem dX3_nobodys_30 : decode cX3_nobodys 30 = .ok (.getfield 10, 3) := qz_2 .getfield 0 10 qo_180 (by decide +kernel) rfl
theorem dX3_nobodys_33 : decode cX3_nobodys 33 = .ok (.iload_n 1, 1) := qd_p qo_27 (by decide +kernel)
theorem dX3_nobodys_34 : decode cX3_nobodys 34 = .ok (.invokevirtual 205, 3) := qz_2 .invokevirtual 0 205 qo_182 (by decide +kernel) rfl
theorem dX3_nobodys_37 : decode cX3_nobodys 37 = .ok (.isub, 1) := qd_p qo_100 (by decide +kernel)
theorem dX3_nobodys_38 : decode cX3_nobodys 38 = .ok (.ireturn, 1) := qd_p qo_172 (by decide +kernel)
theorem dX3_from_0 : decode cX3_from 0 = .ok (.aload_n 0, 1) := qd_p qo_42 (by decide +kernel)
theorem dX3_from_1 : decode cX3_from 1 = .ok (.iload_n 1, 1) := qd_p qo_27 (by decide +kernel)
theorem dX3_from_2 : decode cX3_from 2 = .ok (.invokevirtual 78, 3) := qz_2 .invokevirtual 0 78 qo_182 (by decide +kernel) rfl
theorem dX3_from_5 : decode cX3_from 5 = .ok (.iload_n 2, 1) := qd_p qo_28 (by decide +kernel)
theorem dX3_from_6 : decode cX3_from 6 = .ok (.invokestatic 174, 3) := qz_2 .invokestatic 0 174 qo_184 (by decide +kernel) rfl
theorem dX3_from_9 : decode cX3_from 9 = .ok (.invokestatic 85, 3) := qz_2 .invokestatic 0 85 qo_184 (by decide +kernel) rfl
theorem dX3_from_12 : decode cX3_from 12 = .ok (.istore_n 3, 1) := qd_p qo_62 (by decide +kernel)
theorem dX3_from_13 : decode cX3_from 13 = .ok (.iload_n 3, 1) := qd_p qo_29 (by decide +kernel)
theorem dX3_from_14 : decode cX3_from 14 = .ok (.ifCond .eq 9, 3) := qz_s2 (.ifCond .eq) 0 9 qo_153 (by decide +kernel) rfl
theorem dX3_from_17 : decode cX3_from 17 = .ok (.aload_n 0, 1) := qd_p qo_42 (by decide +kernel)
theorem dX3_from_18 : decode cX3_from 18 = .ok (.iload_n 3, 1) := qd_p qo_29 (by decide +kernel)
theorem dX3_from_19 : decode cX3_from 19 = .ok (.invokevirtual 61, 3) := qz_2 .invokevirtual 0 61 qo_182 (by decide +kernel) rfl
theorem dX3_from_22 : decode cX3_from 22 = .ok (.ireturn, 1) := qd_p qo_172 (by decide +kernel)
theorem dX3_from_23 : decode cX3_from 23 = .ok (.aload_n 0, 1) := qd_p qo_42 (by decide +kernel)
theorem dX3_from_24 : decode cX3_from 24 = .ok (.getfield 10, 3) := qz_2 .getfield 0 10 qo_180 (by decide +kernel) rfl
theorem dX3_from_27 : decode cX3_from 27 = .ok (.invokevirtual 141, 3) := qz_2 .invokevirtual 0 141 qo_182 (by decide +kernel) rfl
theorem dX3_from_30 : decode cX3_from 30 = .ok (.iconst 0, 1) := qd_p qo_3 (by decide +kernel)
theorem dX3_from_31 : decode cX3_from 31 = .ok (.istore 4, 2) := qz_1 .istore 4 qo_54 (by decide +kernel)
theorem dX3_from_33 : decode cX3_from 33 = .ok (.iload 4, 2) := qz_1 .iload 4 qo_21 (by decide +kernel)
theorem dX3_from_35 : decode cX3_from 35 = .ok (.sipush 999, 3) := qz_s2 .sipush 3 231 qo_17 (by decide +kernel) rfl
theorem dX3_from_38 : decode cX3_from 38 = .ok (.if_icmp .gt 26, 3) := qz_s2 (.if_icmp .gt) 0 26 qo_163 (by decide +kernel) rfl
theorem dX3_from_41 : decode cX3_from 41 = .ok (.aload_n 0, 1) := qd_p qo_42 (by decide +kernel)
theorem dX3_from_42 : decode cX3_from 42 = .ok (.getfield 10, 3) := qz_2 .getfield 0 10 qo_180 (by decide +kernel) rfl
theorem dX3_from_45 : decode cX3_from 45 = .ok (.iload_n 2, 1) := qd_p qo_28 (by decide +kernel)
theorem dX3_from_46 : decode cX3_from 46 = .ok (.iload 4, 2) := qz_1 .iload 4 qo_21 (by decide +kernel)
theorem dX3_from_48 : decode cX3_from 48 = .ok (.invokevirtual 223, 3) := qz_2 .invokevirtual 0 223 qo_182 (by decide +kernel) rfl
theorem dX3_from_51 : decode cX3_from 51 = .ok (.iload_n 1, 1) := qd_p qo_27 (by decide +kernel)
theorem dX3_from_52 : decode cX3_from 52 = .ok (.if_icmp .ne 6, 3) := qz_s2 (.if_icmp .ne) 0 6 qo_160 (by decide +kernel) rfl
theorem dX3_from_55 : decode cX3_from 55 = .ok (.iload 4, 2) := qz_1 .iload 4 qo_21 (by decide +kernel)
theorem dX3_from_57 : decode cX3_from 57 = .ok (.ireturn, 1) := qd_p qo_172 (by decide +kernel)
theorem dX3_from_58 : decode cX3_from 58 = .ok (.iinc 4 1, 3) := qd_i (x := 4) (y := 1) qo_132 (by decide +kernel) rfl
theorem dX3_from_61 : decode cX3_from 61 = .ok (.goto (-28), 3) := qz_s2 .goto 255 228 qo_167 (by decide +kernel) rfl
theorem dX3_from_64 : decode cX3_from 64 = .ok (.bipush (-9), 2) := qz_s1 .bipush 247 qo_16 (by decide +kernel) rfl
theorem dX3_from_66 : decode cX3_from 66 = .ok (.ireturn, 1) := qd_p qo_172 (by decide +kernel)
theorem dX3_lost_0 : decode cX3_lost 0 = .ok (.iload_n 1, 1) := qd_p qo_27 (by decide +kernel)
theorem dX3_lost_1 : decode cX3_lost 1 = .ok (.invokestatic 65, 3) := qz_2 .invokestatic 0 65 qo_184 (by decide +kernel) rfl
theorem dX3_lost_4 : decode cX3_lost 4 = .ok (.ifCond .ne 9, 3) := qz_s2 (.ifCond .ne) 0 9 qo_154 (by decide +kernel) rfl
theorem dX3_lost_7 : decode cX3_lost 7 = .ok (.aload_n 0, 1) := qd_p qo_42 (by decide +kernel)
theorem dX3_lost_8 : decode cX3_lost 8 = .ok (.iconst (-1), 1) := qd_p qo_2 (by decide +kernel)
theorem dX3_lost_9 : decode cX3_lost 9 = .ok (.invokevirtual 61, 3) := qz_2 .invokevirtual 0 61 qo_182 (by decide +kernel) rfl
theorem dX3_lost_12 : decode cX3_lost 12 = .ok (.ireturn, 1) := qd_p qo_172 (by decide +kernel)
theorem dX3_lost_13 : decode cX3_lost 13 = .ok (.aload_n 0, 1) := qd_p qo_42 (by decide +kernel)
theorem dX3_lost_14 : decode cX3_lost 14 = .ok (.getfield 10, 3) := qz_2 .getfield 0 10 qo_180 (by decide +kernel) rfl
theorem dX3_lost_17 : decode cX3_lost 17 = .ok (.invokevirtual 141, 3) := qz_2 .invokevirtual 0 141 qo_182 (by decide +kernel) rfl
theorem dX3_lost_20 : decode cX3_lost 20 = .ok (.aload_n 0, 1) := qd_p qo_42 (by decide +kernel)
theorem dX3_lost_21 : decode cX3_lost 21 = .ok (.getfield 10, 3) := qz_2 .getfield 0 10 qo_180 (by decide +kernel) rfl
theorem dX3_lost_24 : decode cX3_lost 24 = .ok (.iload_n 1, 1) := qd_p qo_27 (by decide +kernel)
theorem dX3_lost_25 : decode cX3_lost 25 = .ok (.iconst 0, 1) := qd_p qo_3 (by decide +kernel)
theorem dX3_lost_26 : decode cX3_lost 26 = .ok (.invokevirtual 223, 3) := qz_2 .invokevirtual 0 223 qo_182 (by decide +kernel) rfl
theorem dX3_lost_29 : decode cX3_lost 29 = .ok (.istore_n 2, 1) := qd_p qo_61 (by decide +kernel)
theorem dX3_lost_30 : decode cX3_lost 30 = .ok (.iload_n 2, 1) := qd_p qo_28 (by decide +kernel)
theorem dX3_lost_31 : decode cX3_lost 31 = .ok (.bipush (-9), 2) := qz_s1 .bipush 247 qo_16 (by decide +kernel) rfl
theorem dX3_lost_33 : decode cX3_lost 33 = .ok (.if_icmp .ne 10, 3) := qz_s2 (.if_icmp .ne) 0 10 qo_160 (by decide +kernel) rfl
theorem dX3_lost_36 : decode cX3_lost 36 = .ok (.aload_n 0, 1) := qd_p qo_42 (by decide +kernel)
theorem dX3_lost_37 : decode cX3_lost 37 = .ok (.bipush (-3), 2) := qz_s1 .bipush 253 qo_16 (by decide +kernel) rfl
theorem dX3_lost_39 : decode cX3_lost 39 = .ok (.invokevirtual 61, 3) := qz_2 .invokevirtual 0 61 qo_182 (by decide +kernel) rfl
theorem dX3_lost_42 : decode cX3_lost 42 = .ok (.ireturn, 1) := qd_p qo_172 (by decide +kernel)
theorem dX3_lost_43 : decode cX3_lost 43 = .ok (.iconst 1, 1) := qd_p qo_4 (by decide +kernel)
theorem dX3_lost_44 : decode cX3_lost 44 = .ok (.istore_n 3, 1) := qd_p qo_62 (by decide +kernel)
theorem dX3_lost_45 : decode cX3_lost 45 = .ok (.iload_n 3, 1) := qd_p qo_29 (by decide +kernel)
theorem dX3_lost_46 : decode cX3_lost 46 = .ok (.sipush 999, 3) := qz_s2 .sipush 3 231 qo_17 (by decide +kernel) rfl
theorem dX3_lost_49 : decode cX3_lost 49 = .ok (.if_icmp .gt 24, 3) := qz_s2 (.if_icmp .gt) 0 24 qo_163 (by decide +kernel) rfl
theorem dX3_lost_52 : decode cX3_lost 52 = .ok (.aload_n 0, 1) := qd_p qo_42 (by decide +kernel)
theorem dX3_lost_53 : decode cX3_lost 53 = .ok (.getfield 10, 3) := qz_2 .getfield 0 10 qo_180 (by decide +kernel) rfl
theorem dX3_lost_56 : decode cX3_lost 56 = .ok (.iload_n 1, 1) := qd_p qo_27 (by decide +kernel)
theorem dX3_lost_57 : decode cX3_lost 57 = .ok (.iload_n 3, 1) := qd_p qo_29 (by decide +kernel)
theorem dX3_lost_58 : decode cX3_lost 58 = .ok (.invokevirtual 223, 3) := qz_2 .invokevirtual 0 223 qo_182 (by decide +kernel) rfl
theorem dX3_lost_61 : decode cX3_lost 61 = .ok (.iload_n 2, 1) := qd_p qo_28 (by decide +kernel)
theorem dX3_lost_62 : decode cX3_lost 62 = .ok (.if_icmp .eq 5, 3) := qz_s2 (.if_icmp .eq) 0 5 qo_159 (by decide +kernel) rfl
theorem dX3_lost_65 : decode cX3_lost 65 = .ok (.iload_n 3, 1) := qd_p qo_29 (by decide +kernel)
theorem dX3_lost_66 : decode cX3_lost 66 = .ok (.ireturn, 1) := qd_p qo_172 (by decide +kernel)
theorem dX3_lost_67 : decode cX3_lost 67 = .ok (.iinc 3 1, 3) := qd_i (x := 3) (y := 1) qo_132 (by decide +kernel) rfl
theorem dX3_lost_70 : decode cX3_lost 70 = .ok (.goto (-25), 3) := qz_s2 .goto 255 231 qo_167 (by decide +kernel) rfl
theorem dX3_lost_73 : decode cX3_lost 73 = .ok (.bipush (-9), 2) := qz_s1 .bipush 247 qo_16 (by decide +kernel) rfl
theorem dX3_lost_75 : decode cX3_lost 75 = .ok (.ireturn, 1) := qd_p qo_172 (by decide +kernel)
theorem dX3_richest_0 : decode cX3_richest 0 = .ok (.iload_n 1, 1) := qd_p qo_27 (by decide +kernel)
theorem dX3_richest_1 : decode cX3_richest 1 = .ok (.iconst 0, 1) := qd_p qo_3 (by decide +kernel)
theorem dX3_richest_2 : decode cX3_richest 2 = .ok (.sipush 999, 3) := qz_s2 .sipush 3 231 qo_17 (by decide +kernel) rfl
theorem dX3_richest_5 : decode cX3_richest 5 = .ok (.invokestatic 81, 3) := qz_2 .invokestatic 0 81 qo_184 (by decide +kernel) rfl
theorem dX3_richest_8 : decode cX3_richest 8 = .ok (.iload_n 2, 1) := qd_p qo_28 (by decide +kernel)
theorem dX3_richest_9 : decode cX3_richest 9 = .ok (.iconst 2, 1) := qd_p qo_5 (by decide +kernel)
theorem dX3_richest_10 : decode cX3_richest 10 = .ok (.invokestatic 123, 3) := qz_2 .invokestatic 0 123 qo_184 (by decide +kernel) rfl
theorem dX3_richest_13 : decode cX3_richest 13 = .ok (.invokestatic 85, 3) := qz_2 .invokestatic 0 85 qo_184 (by decide +kernel) rfl
theorem dX3_richest_16 : decode cX3_richest 16 = .ok (.istore_n 3, 1) := qd_p qo_62 (by decide +kernel)
theorem dX3_richest_17 : decode cX3_richest 17 = .ok (.iload_n 3, 1) := qd_p qo_29 (by decide +kernel)
theorem dX3_richest_18 : decode cX3_richest 18 = .ok (.ifCond .eq 9, 3) := qz_s2 (.ifCond .eq) 0 9 qo_153 (by decide +kernel) rfl
theorem dX3_richest_21 : decode cX3_richest 21 = .ok (.aload_n 0, 1) := qd_p qo_42 (by decide +kernel)
theorem dX3_richest_22 : decode cX3_richest 22 = .ok (.iload_n 3, 1) := qd_p qo_29 (by decide +kernel)
theorem dX3_richest_23 : decode cX3_richest 23 = .ok (.invokevirtual 61, 3) := qz_2 .invokevirtual 0 61 qo_182 (by decide +kernel) rfl
theorem dX3_richest_26 : decode cX3_richest 26 = .ok (.ireturn, 1) := qd_p qo_172 (by decide +kernel)
theorem dX3_richest_27 : decode cX3_richest 27 = .ok (.aload_n 0, 1) := qd_p qo_42 (by decide +kernel)
theorem dX3_richest_28 : decode cX3_richest 28 = .ok (.getfield 10, 3) := qz_2 .getfield 0 10 qo_180 (by decide +kernel) rfl
theorem dX3_richest_31 : decode cX3_richest 31 = .ok (.invokevirtual 141, 3) := qz_2 .invokevirtual 0 141 qo_182 (by decide +kernel) rfl
theorem dX3_richest_34 : decode cX3_richest 34 = .ok (.aload_n 0, 1) := qd_p qo_42 (by decide +kernel)
theorem dX3_richest_35 : decode cX3_richest 35 = .ok (.getfield 10, 3) := qz_2 .getfield 0 10 qo_180 (by decide +kernel) rfl
theorem dX3_richest_38 : decode cX3_richest 38 = .ok (.iload_n 1, 1) := qd_p qo_27 (by decide +kernel)
theorem dX3_richest_39 : decode cX3_richest 39 = .ok (.invokevirtual 232, 3) := qz_2 .invokevirtual 0 232 qo_182 (by decide +kernel) rfl
theorem dX3_richest_42 : decode cX3_richest 42 = .ok (.istore 4, 2) := qz_1 .istore 4 qo_54 (by decide +kernel)
theorem dX3_richest_44 : decode cX3_richest 44 = .ok (.iload_n 2, 1) := qd_p qo_28 (by decide +kernel)
theorem dX3_richest_45 : decode cX3_richest 45 = .ok (.ifCond .eq 10, 3) := qz_s2 (.ifCond .eq) 0 10 qo_153 (by decide +kernel) rfl
theorem dX3_richest_48 : decode cX3_richest 48 = .ok (.iload 4, 2) := qz_1 .iload 4 qo_21 (by decide +kernel)
theorem dX3_richest_50 : decode cX3_richest 50 = .ok (.bipush (-9), 2) := qz_s1 .bipush 247 qo_16 (by decide +kernel) rfl
theorem dX3_richest_52 : decode cX3_richest 52 = .ok (.if_icmp .ne 8, 3) := qz_s2 (.if_icmp .ne) 0 8 qo_160 (by decide +kernel) rfl
theorem dX3_richest_55 : decode cX3_richest 55 = .ok (.iload 4, 2) := qz_1 .iload 4 qo_21 (by decide +kernel)
theorem dX3_richest_57 : decode cX3_richest 57 = .ok (.goto 13, 3) := qz_s2 .goto 0 13 qo_167 (by decide +kernel) rfl
theorem dX3_richest_60 : decode cX3_richest 60 = .ok (.aload_n 0, 1) := qd_p qo_42 (by decide +kernel)
theorem dX3_richest_61 : decode cX3_richest 61 = .ok (.getfield 10, 3) := qz_2 .getfield 0 10 qo_180 (by decide +kernel) rfl
theorem dX3_richest_64 : decode cX3_richest 64 = .ok (.iload 4, 2) := qz_1 .iload 4 qo_21 (by decide +kernel)
theorem dX3_richest_66 : decode cX3_richest 66 = .ok (.iload_n 1, 1) := qd_p qo_27 (by decide +kernel)
theorem dX3_richest_67 : decode cX3_richest 67 = .ok (.invokevirtual 229, 3) := qz_2 .invokevirtual 0 229 qo_182 (by decide +kernel) rfl
theorem dX3_richest_70 : decode cX3_richest 70 = .ok (.ireturn, 1) := qd_p qo_172 (by decide +kernel)
theorem dX3_staredOut_0 : decode cX3_staredOut 0 = .ok (.aload_n 0, 1) := qd_p qo_42 (by decide +kernel)
theorem dX3_staredOut_1 : decode cX3_staredOut 1 = .ok (.iload_n 1, 1) := qd_p qo_27 (by decide +kernel)
theorem dX3_staredOut_2 : decode cX3_staredOut 2 = .ok (.iload_n 2, 1) := qd_p qo_28 (by decide +kernel)
theorem dX3_staredOut_3 : decode cX3_staredOut 3 = .ok (.iload_n 3, 1) := qd_p qo_29 (by decide +kernel)
theorem dX3_staredOut_4 : decode cX3_staredOut 4 = .ok (.invokevirtual 235, 3) := qz_2 .invokevirtual 0 235 qo_182 (by decide +kernel) rfl
theorem dX3_staredOut_7 : decode cX3_staredOut 7 = .ok (.istore 4, 2) := qz_1 .istore 4 qo_54 (by decide +kernel)
theorem dX3_staredOut_9 : decode cX3_staredOut 9 = .ok (.iload 4, 2) := qz_1 .iload 4 qo_21 (by decide +kernel)
theorem dX3_staredOut_11 : decode cX3_staredOut 11 = .ok (.ifCond .eq 10, 3) := qz_s2 (.ifCond .eq) 0 10 qo_153 (by decide +kernel) rfl
theorem dX3_staredOut_14 : decode cX3_staredOut 14 = .ok (.aload_n 0, 1) := qd_p qo_42 (by decide +kernel)
theorem dX3_staredOut_15 : decode cX3_staredOut 15 = .ok (.iload 4, 2) := qz_1 .iload 4 qo_21 (by decide +kernel)
theorem dX3_staredOut_17 : decode cX3_staredOut 17 = .ok (.invokevirtual 61, 3) := qz_2 .invokevirtual 0 61 qo_182 (by decide +kernel) rfl
theorem dX3_staredOut_20 : decode cX3_staredOut 20 = .ok (.ireturn, 1) := qd_p qo_172 (by decide +kernel)
theorem dX3_staredOut_21 : decode cX3_staredOut 21 = .ok (.aload_n 0, 1) := qd_p qo_42 (by decide +kernel)
theorem dX3_staredOut_22 : decode cX3_staredOut 22 = .ok (.getfield 10, 3) := qz_2 .getfield 0 10 qo_180 (by decide +kernel) rfl
theorem dX3_staredOut_25 : decode cX3_staredOut 25 = .ok (.invokevirtual 141, 3) := qz_2 .invokevirtual 0 141 qo_182 (by decide +kernel) rfl
theorem dX3_staredOut_28 : decode cX3_staredOut 28 = .ok (.aload_n 0, 1) := qd_p qo_42 (by decide +kernel)
theorem dX3_staredOut_29 : decode cX3_staredOut 29 = .ok (.getfield 10, 3) := qz_2 .getfield 0 10 qo_180 (by decide +kernel) rfl
theorem dX3_staredOut_32 : decode cX3_staredOut 32 = .ok (.iload_n 1, 1) := qd_p qo_27 (by decide +kernel)
theorem dX3_staredOut_33 : decode cX3_staredOut 33 = .ok (.iconst 0, 1) := qd_p qo_3 (by decide +kernel)
theorem dX3_staredOut_34 : decode cX3_staredOut 34 = .ok (.invokevirtual 144, 3) := qz_2 .invokevirtual 0 144 qo_182 (by decide +kernel) rfl
theorem dX3_staredOut_37 : decode cX3_staredOut 37 = .ok (.aload_n 0, 1) := qd_p qo_42 (by decide +kernel)
theorem dX3_staredOut_38 : decode cX3_staredOut 38 = .ok (.getfield 10, 3) := qz_2 .getfield 0 10 qo_180 (by decide +kernel) rfl
theorem dX3_staredOut_41 : decode cX3_staredOut 41 = .ok (.iload_n 2, 1) := qd_p qo_28 (by decide +kernel)
theorem dX3_staredOut_42 : decode cX3_staredOut 42 = .ok (.iload_n 3, 1) := qd_p qo_29 (by decide +kernel)
theorem dX3_staredOut_43 : decode cX3_staredOut 43 = .ok (.invokevirtual 144, 3) := qz_2 .invokevirtual 0 144 qo_182 (by decide +kernel) rfl
theorem dX3_staredOut_46 : decode cX3_staredOut 46 = .ok (.iand, 1) := qd_p qo_126 (by decide +kernel)
theorem dX3_staredOut_47 : decode cX3_staredOut 47 = .ok (.ireturn, 1) := qd_p qo_172 (by decide +kernel)
theorem dX3_hoursUntilOwned_0 : decode cX3_hoursUntilOwned 0 = .ok (.aload_n 0, 1) := qd_p qo_42 (by decide +kernel)
theorem dX3_hoursUntilOwned_1 : decode cX3_hoursUntilOwned 1 = .ok (.getfield 16, 3) := qz_2 .getfield 0 16 qo_180 (by decide +kernel) rfl
theorem dX3_hoursUntilOwned_4 : decode cX3_hoursUntilOwned 4 = .ok (.aload_n 0, 1) := qd_p qo_42 (by decide +kernel)
theorem dX3_hoursUntilOwned_5 : decode cX3_hoursUntilOwned 5 = .ok (.getfield 10, 3) := qz_2 .getfield 0 10 qo_180 (by decide +kernel) rfl
theorem dX3_hoursUntilOwned_8 : decode cX3_hoursUntilOwned 8 = .ok (.invokevirtual 106, 3) := qz_2 .invokevirtual 0 106 qo_182 (by decide +kernel) rfl
theorem dX3_hoursUntilOwned_11 : decode cX3_hoursUntilOwned 11 = .ok (.aload_n 0, 1) := qd_p qo_42 (by decide +kernel)
theorem dX3_hoursUntilOwned_12 : decode cX3_hoursUntilOwned 12 = .ok (.getfield 16, 3) := qz_2 .getfield 0 16 qo_180 (by decide +kernel) rfl
theorem dX3_hoursUntilOwned_15 : decode cX3_hoursUntilOwned 15 = .ok (.invokevirtual 141, 3) := qz_2 .invokevirtual 0 141 qo_182 (by decide +kernel) rfl
theorem dX3_hoursUntilOwned_18 : decode cX3_hoursUntilOwned 18 = .ok (.iconst 0, 1) := qd_p qo_3 (by decide +kernel)
theorem dX3_hoursUntilOwned_19 : decode cX3_hoursUntilOwned 19 = .ok (.istore 4, 2) := qz_1 .istore 4 qo_54 (by decide +kernel)
theorem dX3_hoursUntilOwned_21 : decode cX3_hoursUntilOwned 21 = .ok (.bipush 10, 2) := qz_s1 .bipush 10 qo_16 (by decide +kernel) rfl
theorem dX3_hoursUntilOwned_23 : decode cX3_hoursUntilOwned 23 = .ok (.istore 5, 2) := qz_1 .istore 5 qo_54 (by decide +kernel)
theorem dX3_hoursUntilOwned_25 : decode cX3_hoursUntilOwned 25 = .ok (.iload 5, 2) := qz_1 .iload 5 qo_21 (by decide +kernel)
theorem dX3_hoursUntilOwned_27 : decode cX3_hoursUntilOwned 27 = .ok (.ifCond .le 92, 3) := qz_s2 (.ifCond .le) 0 92 qo_158 (by decide +kernel) rfl
theorem dX3_hoursUntilOwned_30 : decode cX3_hoursUntilOwned 30 = .ok (.iconst 0, 1) := qd_p qo_3 (by decide +kernel)
theorem dX3_hoursUntilOwned_31 : decode cX3_hoursUntilOwned 31 = .ok (.istore 6, 2) := qz_1 .istore 6 qo_54 (by decide +kernel)
theorem dX3_hoursUntilOwned_33 : decode cX3_hoursUntilOwned 33 = .ok (.iload 6, 2) := qz_1 .iload 6 qo_21 (by decide +kernel)
theorem dX3_hoursUntilOwned_35 : decode cX3_hoursUntilOwned 35 = .ok (.bipush 24, 2) := qz_s1 .bipush 24 qo_16 (by decide +kernel) rfl
theorem dX3_hoursUntilOwned_37 : decode cX3_hoursUntilOwned 37 = .ok (.if_icmp .ge 76, 3) := qz_s2 (.if_icmp .ge) 0 76 qo_162 (by decide +kernel) rfl
theorem dX3_hoursUntilOwned_40 : decode cX3_hoursUntilOwned 40 = .ok (.aload_n 0, 1) := qd_p qo_42 (by decide +kernel)
theorem dX3_hoursUntilOwned_41 : decode cX3_hoursUntilOwned 41 = .ok (.getfield 10, 3) := qz_2 .getfield 0 10 qo_180 (by decide +kernel) rfl
theorem dX3_hoursUntilOwned_44 : decode cX3_hoursUntilOwned 44 = .ok (.getfield 163, 3) := qz_2 .getfield 0 163 qo_180 (by decide +kernel) rfl
theorem dX3_hoursUntilOwned_47 : decode cX3_hoursUntilOwned 47 = .ok (.iload_n 1, 1) := qd_p qo_27 (by decide +kernel)
theorem dX3_hoursUntilOwned_48 : decode cX3_hoursUntilOwned 48 = .ok (.aaload, 1) := qd_p qo_50 (by decide +kernel)
theorem dX3_hoursUntilOwned_49 : decode cX3_hoursUntilOwned 49 = .ok (.iload 6, 2) := qz_1 .iload 6 qo_21 (by decide +kernel)
theorem dX3_hoursUntilOwned_51 : decode cX3_hoursUntilOwned 51 = .ok (.iaload, 1) := qd_p qo_46 (by decide +kernel)
theorem dX3_hoursUntilOwned_52 : decode cX3_hoursUntilOwned 52 = .ok (.bipush 9, 2) := qz_s1 .bipush 9 qo_16 (by decide +kernel) rfl
theorem dX3_hoursUntilOwned_54 : decode cX3_hoursUntilOwned 54 = .ok (.if_icmp .ne 53, 3) := qz_s2 (.if_icmp .ne) 0 53 qo_160 (by decide +kernel) rfl
theorem dX3_hoursUntilOwned_57 : decode cX3_hoursUntilOwned 57 = .ok (.aload_n 0, 1) := qd_p qo_42 (by decide +kernel)
theorem dX3_hoursUntilOwned_58 : decode cX3_hoursUntilOwned 58 = .ok (.getfield 10, 3) := qz_2 .getfield 0 10 qo_180 (by decide +kernel) rfl
theorem dX3_hoursUntilOwned_61 : decode cX3_hoursUntilOwned 61 = .ok (.iload_n 1, 1) := qd_p qo_27 (by decide +kernel)
theorem dX3_hoursUntilOwned_62 : decode cX3_hoursUntilOwned 62 = .ok (.iload 6, 2) := qz_1 .iload 6 qo_21 (by decide +kernel)
theorem dX3_hoursUntilOwned_64 : decode cX3_hoursUntilOwned 64 = .ok (.invokevirtual 244, 3) := qz_2 .invokevirtual 0 244 qo_182 (by decide +kernel) rfl
theorem dX3_hoursUntilOwned_67 : decode cX3_hoursUntilOwned 67 = .ok (.iload 5, 2) := qz_1 .iload 5 qo_21 (by decide +kernel)
theorem dX3_hoursUntilOwned_69 : decode cX3_hoursUntilOwned 69 = .ok (.if_icmp .ne 38, 3) := qz_s2 (.if_icmp .ne) 0 38 qo_160 (by decide +kernel) rfl
theorem dX3_hoursUntilOwned_72 : decode cX3_hoursUntilOwned 72 = .ok (.aload_n 0, 1) := qd_p qo_42 (by decide +kernel)
theorem dX3_hoursUntilOwned_73 : decode cX3_hoursUntilOwned 73 = .ok (.getfield 16, 3) := qz_2 .getfield 0 16 qo_180 (by decide +kernel) rfl
theorem dX3_hoursUntilOwned_76 : decode cX3_hoursUntilOwned 76 = .ok (.getfield 220, 3) := qz_2 .getfield 0 220 qo_180 (by decide +kernel) rfl
theorem dX3_hoursUntilOwned_79 : decode cX3_hoursUntilOwned 79 = .ok (.iload_n 1, 1) := qd_p qo_27 (by decide +kernel)
theorem dX3_hoursUntilOwned_80 : decode cX3_hoursUntilOwned 80 = .ok (.aaload, 1) := qd_p qo_50 (by decide +kernel)
theorem dX3_hoursUntilOwned_81 : decode cX3_hoursUntilOwned 81 = .ok (.iload_n 2, 1) := qd_p qo_28 (by decide +kernel)
theorem dX3_hoursUntilOwned_82 : decode cX3_hoursUntilOwned 82 = .ok (.dup2, 1) := qd_p qo_92 (by decide +kernel)
theorem dX3_hoursUntilOwned_83 : decode cX3_hoursUntilOwned 83 = .ok (.iaload, 1) := qd_p qo_46 (by decide +kernel)
theorem dX3_hoursUntilOwned_84 : decode cX3_hoursUntilOwned 84 = .ok (.iload 5, 2) := qz_1 .iload 5 qo_21 (by decide +kernel)
theorem dX3_hoursUntilOwned_86 : decode cX3_hoursUntilOwned 86 = .ok (.iadd, 1) := qd_p qo_96 (by decide +kernel)
theorem dX3_hoursUntilOwned_87 : decode cX3_hoursUntilOwned 87 = .ok (.iastore, 1) := qd_p qo_79 (by decide +kernel)
theorem dX3_hoursUntilOwned_88 : decode cX3_hoursUntilOwned 88 = .ok (.iinc 4 1, 3) := qd_i (x := 4) (y := 1) qo_132 (by decide +kernel) rfl
theorem dX3_hoursUntilOwned_91 : decode cX3_hoursUntilOwned 91 = .ok (.aload_n 0, 1) := qd_p qo_42 (by decide +kernel)
theorem dX3_hoursUntilOwned_92 : decode cX3_hoursUntilOwned 92 = .ok (.getfield 16, 3) := qz_2 .getfield 0 16 qo_180 (by decide +kernel) rfl
theorem dX3_hoursUntilOwned_95 : decode cX3_hoursUntilOwned 95 = .ok (.iload_n 2, 1) := qd_p qo_28 (by decide +kernel)
theorem dX3_hoursUntilOwned_96 : decode cX3_hoursUntilOwned 96 = .ok (.iload_n 3, 1) := qd_p qo_29 (by decide +kernel)
theorem dX3_hoursUntilOwned_97 : decode cX3_hoursUntilOwned 97 = .ok (.invokevirtual 223, 3) := qz_2 .invokevirtual 0 223 qo_182 (by decide +kernel) rfl
theorem dX3_hoursUntilOwned_100 : decode cX3_hoursUntilOwned 100 = .ok (.iload_n 1, 1) := qd_p qo_27 (by decide +kernel)
theorem dX3_hoursUntilOwned_101 : decode cX3_hoursUntilOwned 101 = .ok (.if_icmp .ne 6, 3) := qz_s2 (.if_icmp .ne) 0 6 qo_160 (by decide +kernel) rfl
theorem dX3_hoursUntilOwned_104 : decode cX3_hoursUntilOwned 104 = .ok (.iload 4, 2) := qz_1 .iload 4 qo_21 (by decide +kernel)
theorem dX3_hoursUntilOwned_106 : decode cX3_hoursUntilOwned 106 = .ok (.ireturn, 1) := qd_p qo_172 (by decide +kernel)
theorem dX3_hoursUntilOwned_107 : decode cX3_hoursUntilOwned 107 = .ok (.iinc 6 1, 3) := qd_i (x := 6) (y := 1) qo_132 (by decide +kernel) rfl
theorem dX3_hoursUntilOwned_110 : decode cX3_hoursUntilOwned 110 = .ok (.goto (-77), 3) := qz_s2 .goto 255 179 qo_167 (by decide +kernel) rfl
theorem dX3_hoursUntilOwned_113 : decode cX3_hoursUntilOwned 113 = .ok (.iinc 5 (-1), 3) := qd_i (x := 5) (y := 255) qo_132 (by decide +kernel) rfl
theorem dX3_hoursUntilOwned_116 : decode cX3_hoursUntilOwned 116 = .ok (.goto (-91), 3) := qz_s2 .goto 255 165 qo_167 (by decide +kernel) rfl
theorem dX3_hoursUntilOwned_119 : decode cX3_hoursUntilOwned 119 = .ok (.bipush (-9), 2) := qz_s1 .bipush 247 qo_16 (by decide +kernel) rfl
theorem dX3_hoursUntilOwned_121 : decode cX3_hoursUntilOwned 121 = .ok (.ireturn, 1) := qd_p qo_172 (by decide +kernel)
theorem dX3_moreHours_0 : decode cX3_moreHours 0 = .ok (.aload_n 0, 1) := qd_p qo_42 (by decide +kernel)
theorem dX3_moreHours_1 : decode cX3_moreHours 1 = .ok (.iload_n 1, 1) := qd_p qo_27 (by decide +kernel)
theorem dX3_moreHours_2 : decode cX3_moreHours 2 = .ok (.invokevirtual 78, 3) := qz_2 .invokevirtual 0 78 qo_182 (by decide +kernel) rfl
theorem dX3_moreHours_5 : decode cX3_moreHours 5 = .ok (.iload_n 2, 1) := qd_p qo_28 (by decide +kernel)
theorem dX3_moreHours_6 : decode cX3_moreHours 6 = .ok (.invokestatic 174, 3) := qz_2 .invokestatic 0 174 qo_184 (by decide +kernel) rfl
theorem dX3_moreHours_9 : decode cX3_moreHours 9 = .ok (.invokestatic 85, 3) := qz_2 .invokestatic 0 85 qo_184 (by decide +kernel) rfl
theorem dX3_moreHours_12 : decode cX3_moreHours 12 = .ok (.iload_n 3, 1) := qd_p qo_29 (by decide +kernel)
theorem dX3_moreHours_13 : decode cX3_moreHours 13 = .ok (.iconst 1, 1) := qd_p qo_4 (by decide +kernel)
theorem dX3_moreHours_14 : decode cX3_moreHours 14 = .ok (.sipush 999, 3) := qz_s2 .sipush 3 231 qo_17 (by decide +kernel) rfl
theorem dX3_moreHours_17 : decode cX3_moreHours 17 = .ok (.invokestatic 81, 3) := qz_2 .invokestatic 0 81 qo_184 (by decide +kernel) rfl
theorem dX3_moreHours_20 : decode cX3_moreHours 20 = .ok (.invokestatic 85, 3) := qz_2 .invokestatic 0 85 qo_184 (by decide +kernel) rfl
theorem dX3_moreHours_23 : decode cX3_moreHours 23 = .ok (.istore 4, 2) := qz_1 .istore 4 qo_54 (by decide +kernel)
theorem dX3_moreHours_25 : decode cX3_moreHours 25 = .ok (.iload 4, 2) := qz_1 .iload 4 qo_21 (by decide +kernel)
theorem dX3_moreHours_27 : decode cX3_moreHours 27 = .ok (.ifCond .eq 10, 3) := qz_s2 (.ifCond .eq) 0 10 qo_153 (by decide +kernel) rfl
theorem dX3_moreHours_30 : decode cX3_moreHours 30 = .ok (.aload_n 0, 1) := qd_p qo_42 (by decide +kernel)
theorem dX3_moreHours_31 : decode cX3_moreHours 31 = .ok (.iload 4, 2) := qz_1 .iload 4 qo_21 (by decide +kernel)
theorem dX3_moreHours_33 : decode cX3_moreHours 33 = .ok (.invokevirtual 61, 3) := qz_2 .invokevirtual 0 61 qo_182 (by decide +kernel) rfl
theorem dX3_moreHours_36 : decode cX3_moreHours 36 = .ok (.ireturn, 1) := qd_p qo_172 (by decide +kernel)
theorem dX3_moreHours_37 : decode cX3_moreHours 37 = .ok (.aload_n 0, 1) := qd_p qo_42 (by decide +kernel)
theorem dX3_moreHours_38 : decode cX3_moreHours 38 = .ok (.getfield 10, 3) := qz_2 .getfield 0 10 qo_180 (by decide +kernel) rfl
theorem dX3_moreHours_41 : decode cX3_moreHours 41 = .ok (.invokevirtual 141, 3) := qz_2 .invokevirtual 0 141 qo_182 (by decide +kernel) rfl
theorem dX3_moreHours_44 : decode cX3_moreHours 44 = .ok (.aload_n 0, 1) := qd_p qo_42 (by decide +kernel)
theorem dX3_moreHours_45 : decode cX3_moreHours 45 = .ok (.getfield 10, 3) := qz_2 .getfield 0 10 qo_180 (by decide +kernel) rfl
theorem dX3_moreHours_48 : decode cX3_moreHours 48 = .ok (.iload_n 2, 1) := qd_p qo_28 (by decide +kernel)
theorem dX3_moreHours_49 : decode cX3_moreHours 49 = .ok (.iload_n 3, 1) := qd_p qo_29 (by decide +kernel)
theorem dX3_moreHours_50 : decode cX3_moreHours 50 = .ok (.invokevirtual 223, 3) := qz_2 .invokevirtual 0 223 qo_182 (by decide +kernel) rfl
theorem dX3_moreHours_53 : decode cX3_moreHours 53 = .ok (.iload_n 1, 1) := qd_p qo_27 (by decide +kernel)
theorem dX3_moreHours_54 : decode cX3_moreHours 54 = .ok (.if_icmp .ne 5, 3) := qz_s2 (.if_icmp .ne) 0 5 qo_160 (by decide +kernel) rfl
theorem dX3_moreHours_57 : decode cX3_moreHours 57 = .ok (.iconst 0, 1) := qd_p qo_3 (by decide +kernel)
theorem dX3_moreHours_58 : decode cX3_moreHours 58 = .ok (.ireturn, 1) := qd_p qo_172 (by decide +kernel)
theorem dX3_moreHours_59 : decode cX3_moreHours 59 = .ok (.aload_n 0, 1) := qd_p qo_42 (by decide +kernel)
theorem dX3_moreHours_60 : decode cX3_moreHours 60 = .ok (.getfield 10, 3) := qz_2 .getfield 0 10 qo_180 (by decide +kernel) rfl
theorem dX3_moreHours_63 : decode cX3_moreHours 63 = .ok (.iload_n 2, 1) := qd_p qo_28 (by decide +kernel)
theorem dX3_moreHours_64 : decode cX3_moreHours 64 = .ok (.invokevirtual 238, 3) := qz_2 .invokevirtual 0 238 qo_182 (by decide +kernel) rfl
theorem dX3_moreHours_67 : decode cX3_moreHours 67 = .ok (.ifCond .eq 16, 3) := qz_s2 (.ifCond .eq) 0 16 qo_153 (by decide +kernel) rfl
theorem dX3_moreHours_70 : decode cX3_moreHours 70 = .ok (.aload_n 0, 1) := qd_p qo_42 (by decide +kernel)
theorem dX3_moreHours_71 : decode cX3_moreHours 71 = .ok (.getfield 10, 3) := qz_2 .getfield 0 10 qo_180 (by decide +kernel) rfl
theorem dX3_moreHours_74 : decode cX3_moreHours 74 = .ok (.getfield 132, 3) := qz_2 .getfield 0 132 qo_180 (by decide +kernel) rfl
theorem dX3_moreHours_77 : decode cX3_moreHours 77 = .ok (.iload_n 1, 1) := qd_p qo_27 (by decide +kernel)
theorem dX3_moreHours_78 : decode cX3_moreHours 78 = .ok (.iaload, 1) := qd_p qo_46 (by decide +kernel)
theorem dX3_moreHours_79 : decode cX3_moreHours 79 = .ok (.iconst 2, 1) := qd_p qo_5 (by decide +kernel)
theorem dX3_moreHours_80 : decode cX3_moreHours 80 = .ok (.if_icmp .ne 6, 3) := qz_s2 (.if_icmp .ne) 0 6 qo_160 (by decide +kernel) rfl
theorem dX3_moreHours_83 : decode cX3_moreHours 83 = .ok (.bipush (-9), 2) := qz_s1 .bipush 247 qo_16 (by decide +kernel) rfl
theorem dX3_moreHours_85 : decode cX3_moreHours 85 = .ok (.ireturn, 1) := qd_p qo_172 (by decide +kernel)
theorem dX3_moreHours_86 : decode cX3_moreHours 86 = .ok (.aload_n 0, 1) := qd_p qo_42 (by decide +kernel)
theorem dX3_moreHours_87 : decode cX3_moreHours 87 = .ok (.iload_n 1, 1) := qd_p qo_27 (by decide +kernel)
theorem dX3_moreHours_88 : decode cX3_moreHours 88 = .ok (.iload_n 2, 1) := qd_p qo_28 (by decide +kernel)
theorem dX3_moreHours_89 : decode cX3_moreHours 89 = .ok (.iload_n 3, 1) := qd_p qo_29 (by decide +kernel)
theorem dX3_moreHours_90 : decode cX3_moreHours 90 = .ok (.invokevirtual 241, 3) := qz_2 .invokevirtual 0 241 qo_182 (by decide +kernel) rfl
theorem dX3_moreHours_93 : decode cX3_moreHours 93 = .ok (.ireturn, 1) := qd_p qo_172 (by decide +kernel)
theorem dX3_wealthAt_0 : decode cX3_wealthAt 0 = .ok (.aload_n 0, 1) := qd_p qo_42 (by decide +kernel)
theorem dX3_wealthAt_1 : decode cX3_wealthAt 1 = .ok (.getfield 16, 3) := qz_2 .getfield 0 16 qo_180 (by decide +kernel) rfl
theorem dX3_wealthAt_4 : decode cX3_wealthAt 4 = .ok (.iload_n 1, 1) := qd_p qo_27 (by decide +kernel)
theorem dX3_wealthAt_5 : decode cX3_wealthAt 5 = .ok (.iload_n 2, 1) := qd_p qo_28 (by decide +kernel)
theorem dX3_wealthAt_6 : decode cX3_wealthAt 6 = .ok (.iload_n 2, 1) := qd_p qo_28 (by decide +kernel)
theorem dX3_wealthAt_7 : decode cX3_wealthAt 7 = .ok (.iload_n 3, 1) := qd_p qo_29 (by decide +kernel)
theorem dX3_wealthAt_8 : decode cX3_wealthAt 8 = .ok (.invokevirtual 170, 3) := qz_2 .invokevirtual 0 170 qo_182 (by decide +kernel) rfl
theorem dX3_wealthAt_11 : decode cX3_wealthAt 11 = .ok (.pop, 1) := qd_p qo_87 (by decide +kernel)
theorem dX3_wealthAt_12 : decode cX3_wealthAt 12 = .ok (.aload_n 0, 1) := qd_p qo_42 (by decide +kernel)
theorem dX3_wealthAt_13 : decode cX3_wealthAt 13 = .ok (.getfield 16, 3) := qz_2 .getfield 0 16 qo_180 (by decide +kernel) rfl
theorem dX3_wealthAt_16 : decode cX3_wealthAt 16 = .ok (.invokevirtual 141, 3) := qz_2 .invokevirtual 0 141 qo_182 (by decide +kernel) rfl
theorem dX3_wealthAt_19 : decode cX3_wealthAt 19 = .ok (.aload_n 0, 1) := qd_p qo_42 (by decide +kernel)
theorem dX3_wealthAt_20 : decode cX3_wealthAt 20 = .ok (.getfield 16, 3) := qz_2 .getfield 0 16 qo_180 (by decide +kernel) rfl
theorem dX3_wealthAt_23 : decode cX3_wealthAt 23 = .ok (.iload_n 1, 1) := qd_p qo_27 (by decide +kernel)
theorem dX3_wealthAt_24 : decode cX3_wealthAt 24 = .ok (.iload 4, 2) := qz_1 .iload 4 qo_21 (by decide +kernel)
theorem dX3_wealthAt_26 : decode cX3_wealthAt 26 = .ok (.invokevirtual 229, 3) := qz_2 .invokevirtual 0 229 qo_182 (by decide +kernel) rfl
theorem dX3_wealthAt_29 : decode cX3_wealthAt 29 = .ok (.ireturn, 1) := qd_p qo_172 (by decide +kernel)
theorem dX3_bestPane_0 : decode cX3_bestPane 0 = .ok (.aload_n 0, 1) := qd_p qo_42 (by decide +kernel)
theorem dX3_bestPane_1 : decode cX3_bestPane 1 = .ok (.iload_n 1, 1) := qd_p qo_27 (by decide +kernel)
theorem dX3_bestPane_2 : decode cX3_bestPane 2 = .ok (.invokevirtual 78, 3) := qz_2 .invokevirtual 0 78 qo_182 (by decide +kernel) rfl
theorem dX3_bestPane_5 : decode cX3_bestPane 5 = .ok (.iload_n 2, 1) := qd_p qo_28 (by decide +kernel)
theorem dX3_bestPane_6 : decode cX3_bestPane 6 = .ok (.invokestatic 160, 3) := qz_2 .invokestatic 0 160 qo_184 (by decide +kernel) rfl
theorem dX3_bestPane_9 : decode cX3_bestPane 9 = .ok (.invokestatic 85, 3) := qz_2 .invokestatic 0 85 qo_184 (by decide +kernel) rfl
theorem dX3_bestPane_12 : decode cX3_bestPane 12 = .ok (.iload_n 3, 1) := qd_p qo_29 (by decide +kernel)
theorem dX3_bestPane_13 : decode cX3_bestPane 13 = .ok (.iconst 0, 1) := qd_p qo_3 (by decide +kernel)
theorem dX3_bestPane_14 : decode cX3_bestPane 14 = .ok (.sipush 999, 3) := qz_s2 .sipush 3 231 qo_17 (by decide +kernel) rfl
theorem dX3_bestPane_17 : decode cX3_bestPane 17 = .ok (.invokestatic 81, 3) := qz_2 .invokestatic 0 81 qo_184 (by decide +kernel) rfl
theorem dX3_bestPane_20 : decode cX3_bestPane 20 = .ok (.invokestatic 85, 3) := qz_2 .invokestatic 0 85 qo_184 (by decide +kernel) rfl
theorem dX3_bestPane_23 : decode cX3_bestPane 23 = .ok (.istore 5, 2) := qz_1 .istore 5 qo_54 (by decide +kernel)
theorem dX3_bestPane_25 : decode cX3_bestPane 25 = .ok (.iload 5, 2) := qz_1 .iload 5 qo_21 (by decide +kernel)
theorem dX3_bestPane_27 : decode cX3_bestPane 27 = .ok (.iload 4, 2) := qz_1 .iload 4 qo_21 (by decide +kernel)
theorem dX3_bestPane_29 : decode cX3_bestPane 29 = .ok (.iconst 2, 1) := qd_p qo_5 (by decide +kernel)
theorem dX3_bestPane_30 : decode cX3_bestPane 30 = .ok (.invokestatic 123, 3) := qz_2 .invokestatic 0 123 qo_184 (by decide +kernel) rfl
theorem dX3_bestPane_33 : decode cX3_bestPane 33 = .ok (.invokestatic 85, 3) := qz_2 .invokestatic 0 85 qo_184 (by decide +kernel) rfl
theorem dX3_bestPane_36 : decode cX3_bestPane 36 = .ok (.istore 5, 2) := qz_1 .istore 5 qo_54 (by decide +kernel)
theorem dX3_bestPane_38 : decode cX3_bestPane 38 = .ok (.iload 5, 2) := qz_1 .iload 5 qo_21 (by decide +kernel)
theorem dX3_bestPane_40 : decode cX3_bestPane 40 = .ok (.ifCond .eq 10, 3) := qz_s2 (.ifCond .eq) 0 10 qo_153 (by decide +kernel) rfl
theorem dX3_bestPane_43 : decode cX3_bestPane 43 = .ok (.aload_n 0, 1) := qd_p qo_42 (by decide +kernel)
theorem dX3_bestPane_44 : decode cX3_bestPane 44 = .ok (.iload 5, 2) := qz_1 .iload 5 qo_21 (by decide +kernel)
theorem dX3_bestPane_46 : decode cX3_bestPane 46 = .ok (.invokevirtual 61, 3) := qz_2 .invokevirtual 0 61 qo_182 (by decide +kernel) rfl
theorem dX3_bestPane_49 : decode cX3_bestPane 49 = .ok (.ireturn, 1) := qd_p qo_172 (by decide +kernel)
theorem dX3_bestPane_50 : decode cX3_bestPane 50 = .ok (.aload_n 0, 1) := qd_p qo_42 (by decide +kernel)
theorem dX3_bestPane_51 : decode cX3_bestPane 51 = .ok (.getfield 16, 3) := qz_2 .getfield 0 16 qo_180 (by decide +kernel) rfl
theorem dX3_bestPane_54 : decode cX3_bestPane 54 = .ok (.aload_n 0, 1) := qd_p qo_42 (by decide +kernel)
theorem dX3_bestPane_55 : decode cX3_bestPane 55 = .ok (.getfield 10, 3) := qz_2 .getfield 0 10 qo_180 (by decide +kernel) rfl
theorem dX3_bestPane_58 : decode cX3_bestPane 58 = .ok (.invokevirtual 106, 3) := qz_2 .invokevirtual 0 106 qo_182 (by decide +kernel) rfl
theorem dX3_bestPane_61 : decode cX3_bestPane 61 = .ok (.bipush 9, 2) := qz_s1 .bipush 9 qo_16 (by decide +kernel) rfl
theorem dX3_bestPane_63 : decode cX3_bestPane 63 = .ok (.istore 6, 2) := qz_1 .istore 6 qo_54 (by decide +kernel)
theorem dX3_bestPane_65 : decode cX3_bestPane 65 = .ok (.iconst (-1), 1) := qd_p qo_2 (by decide +kernel)
theorem dX3_bestPane_66 : decode cX3_bestPane 66 = .ok (.istore 7, 2) := qz_1 .istore 7 qo_54 (by decide +kernel)
theorem dX3_bestPane_68 : decode cX3_bestPane 68 = .ok (.iconst 0, 1) := qd_p qo_3 (by decide +kernel)
theorem dX3_bestPane_69 : decode cX3_bestPane 69 = .ok (.istore 8, 2) := qz_1 .istore 8 qo_54 (by decide +kernel)
theorem dX3_bestPane_71 : decode cX3_bestPane 71 = .ok (.iload 8, 2) := qz_1 .iload 8 qo_21 (by decide +kernel)
theorem dX3_bestPane_73 : decode cX3_bestPane 73 = .ok (.aload_n 0, 1) := qd_p qo_42 (by decide +kernel)
theorem dX3_bestPane_74 : decode cX3_bestPane 74 = .ok (.getfield 10, 3) := qz_2 .getfield 0 10 qo_180 (by decide +kernel) rfl
theorem dX3_bestPane_77 : decode cX3_bestPane 77 = .ok (.getfield 147, 3) := qz_2 .getfield 0 147 qo_180 (by decide +kernel) rfl
theorem dX3_bestPane_80 : decode cX3_bestPane 80 = .ok (.if_icmp .gt 56, 3) := qz_s2 (.if_icmp .gt) 0 56 qo_163 (by decide +kernel) rfl
theorem dX3_bestPane_83 : decode cX3_bestPane 83 = .ok (.iload 8, 2) := qz_1 .iload 8 qo_21 (by decide +kernel)
theorem dX3_bestPane_85 : decode cX3_bestPane 85 = .ok (.aload_n 0, 1) := qd_p qo_42 (by decide +kernel)
theorem dX3_bestPane_86 : decode cX3_bestPane 86 = .ok (.getfield 10, 3) := qz_2 .getfield 0 10 qo_180 (by decide +kernel) rfl
theorem dX3_bestPane_89 : decode cX3_bestPane 89 = .ok (.getfield 147, 3) := qz_2 .getfield 0 147 qo_180 (by decide +kernel) rfl
theorem dX3_bestPane_92 : decode cX3_bestPane 92 = .ok (.if_icmp .ge 8, 3) := qz_s2 (.if_icmp .ge) 0 8 qo_162 (by decide +kernel) rfl
theorem dX3_bestPane_95 : decode cX3_bestPane 95 = .ok (.iload 8, 2) := qz_1 .iload 8 qo_21 (by decide +kernel)
theorem dX3_bestPane_97 : decode cX3_bestPane 97 = .ok (.goto 5, 3) := qz_s2 .goto 0 5 qo_167 (by decide +kernel) rfl
theorem dX3_bestPane_100 : decode cX3_bestPane 100 = .ok (.bipush 9, 2) := qz_s1 .bipush 9 qo_16 (by decide +kernel) rfl
theorem dX3_bestPane_102 : decode cX3_bestPane 102 = .ok (.istore 9, 2) := qz_1 .istore 9 qo_54 (by decide +kernel)
theorem dX3_bestPane_104 : decode cX3_bestPane 104 = .ok (.aload_n 0, 1) := qd_p qo_42 (by decide +kernel)
theorem dX3_bestPane_105 : decode cX3_bestPane 105 = .ok (.iload_n 1, 1) := qd_p qo_27 (by decide +kernel)
theorem dX3_bestPane_106 : decode cX3_bestPane 106 = .ok (.iload_n 2, 1) := qd_p qo_28 (by decide +kernel)
theorem dX3_bestPane_107 : decode cX3_bestPane 107 = .ok (.iload 9, 2) := qz_1 .iload 9 qo_21 (by decide +kernel)
theorem dX3_bestPane_109 : decode cX3_bestPane 109 = .ok (.iload_n 3, 1) := qd_p qo_29 (by decide +kernel)
theorem dX3_bestPane_110 : decode cX3_bestPane 110 = .ok (.invokevirtual 247, 3) := qz_2 .invokevirtual 0 247 qo_182 (by decide +kernel) rfl
theorem dX3_bestPane_113 : decode cX3_bestPane 113 = .ok (.istore 10, 2) := qz_1 .istore 10 qo_54 (by decide +kernel)
theorem dX3_bestPane_115 : decode cX3_bestPane 115 = .ok (.iload 10, 2) := qz_1 .iload 10 qo_21 (by decide +kernel)
theorem dX3_bestPane_117 : decode cX3_bestPane 117 = .ok (.iload 7, 2) := qz_1 .iload 7 qo_21 (by decide +kernel)
theorem dX3_bestPane_119 : decode cX3_bestPane 119 = .ok (.if_icmp .le 11, 3) := qz_s2 (.if_icmp .le) 0 11 qo_164 (by decide +kernel) rfl
theorem dX3_bestPane_122 : decode cX3_bestPane 122 = .ok (.iload 10, 2) := qz_1 .iload 10 qo_21 (by decide +kernel)
theorem dX3_bestPane_124 : decode cX3_bestPane 124 = .ok (.istore 7, 2) := qz_1 .istore 7 qo_54 (by decide +kernel)
theorem dX3_bestPane_126 : decode cX3_bestPane 126 = .ok (.iload 9, 2) := qz_1 .iload 9 qo_21 (by decide +kernel)
theorem dX3_bestPane_128 : decode cX3_bestPane 128 = .ok (.istore 6, 2) := qz_1 .istore 6 qo_54 (by decide +kernel)
theorem dX3_bestPane_130 : decode cX3_bestPane 130 = .ok (.iinc 8 1, 3) := qd_i (x := 8) (y := 1) qo_132 (by decide +kernel) rfl
theorem dX3_bestPane_133 : decode cX3_bestPane 133 = .ok (.goto (-62), 3) := qz_s2 .goto 255 194 qo_167 (by decide +kernel) rfl
theorem dX3_bestPane_136 : decode cX3_bestPane 136 = .ok (.iload 4, 2) := qz_1 .iload 4 qo_21 (by decide +kernel)
theorem dX3_bestPane_138 : decode cX3_bestPane 138 = .ok (.ifCond .ne 8, 3) := qz_s2 (.ifCond .ne) 0 8 qo_154 (by decide +kernel) rfl
theorem dX3_bestPane_141 : decode cX3_bestPane 141 = .ok (.iload 6, 2) := qz_1 .iload 6 qo_21 (by decide +kernel)
theorem dX3_bestPane_143 : decode cX3_bestPane 143 = .ok (.goto 5, 3) := qz_s2 .goto 0 5 qo_167 (by decide +kernel) rfl
theorem dX3_bestPane_146 : decode cX3_bestPane 146 = .ok (.iload 7, 2) := qz_1 .iload 7 qo_21 (by decide +kernel)
theorem dX3_bestPane_148 : decode cX3_bestPane 148 = .ok (.ireturn, 1) := qd_p qo_172 (by decide +kernel)
theorem dX3_freeHours_0 : decode cX3_freeHours 0 = .ok (.aload_n 0, 1) := qd_p qo_42 (by decide +kernel)
theorem dX3_freeHours_1 : decode cX3_freeHours 1 = .ok (.iload_n 1, 1) := qd_p qo_27 (by decide +kernel)
theorem dX3_freeHours_2 : decode cX3_freeHours 2 = .ok (.iload_n 2, 1) := qd_p qo_28 (by decide +kernel)
theorem dX3_freeHours_3 : decode cX3_freeHours 3 = .ok (.invokevirtual 226, 3) := qz_2 .invokevirtual 0 226 qo_182 (by decide +kernel) rfl
theorem dX3_freeHours_6 : decode cX3_freeHours 6 = .ok (.istore_n 3, 1) := qd_p qo_62 (by decide +kernel)
theorem dX3_freeHours_7 : decode cX3_freeHours 7 = .ok (.iload_n 3, 1) := qd_p qo_29 (by decide +kernel)
theorem dX3_freeHours_8 : decode cX3_freeHours 8 = .ok (.ifCond .eq 9, 3) := qz_s2 (.ifCond .eq) 0 9 qo_153 (by decide +kernel) rfl
theorem dX3_freeHours_11 : decode cX3_freeHours 11 = .ok (.aload_n 0, 1) := qd_p qo_42 (by decide +kernel)
theorem dX3_freeHours_12 : decode cX3_freeHours 12 = .ok (.iload_n 3, 1) := qd_p qo_29 (by decide +kernel)
theorem dX3_freeHours_13 : decode cX3_freeHours 13 = .ok (.invokevirtual 61, 3) := qz_2 .invokevirtual 0 61 qo_182 (by decide +kernel) rfl
theorem dX3_freeHours_16 : decode cX3_freeHours 16 = .ok (.ireturn, 1) := qd_p qo_172 (by decide +kernel)
theorem dX3_freeHours_17 : decode cX3_freeHours 17 = .ok (.aload_n 0, 1) := qd_p qo_42 (by decide +kernel)
theorem dX3_freeHours_18 : decode cX3_freeHours 18 = .ok (.getfield 10, 3) := qz_2 .getfield 0 10 qo_180 (by decide +kernel) rfl
theorem dX3_freeHours_21 : decode cX3_freeHours 21 = .ok (.invokevirtual 141, 3) := qz_2 .invokevirtual 0 141 qo_182 (by decide +kernel) rfl
theorem dX3_freeHours_24 : decode cX3_freeHours 24 = .ok (.aload_n 0, 1) := qd_p qo_42 (by decide +kernel)
theorem dX3_freeHours_25 : decode cX3_freeHours 25 = .ok (.getfield 16, 3) := qz_2 .getfield 0 16 qo_180 (by decide +kernel) rfl
theorem dX3_freeHours_28 : decode cX3_freeHours 28 = .ok (.aload_n 0, 1) := qd_p qo_42 (by decide +kernel)
theorem dX3_freeHours_29 : decode cX3_freeHours 29 = .ok (.getfield 10, 3) := qz_2 .getfield 0 10 qo_180 (by decide +kernel) rfl
theorem dX3_freeHours_32 : decode cX3_freeHours 32 = .ok (.invokevirtual 106, 3) := qz_2 .invokevirtual 0 106 qo_182 (by decide +kernel) rfl
theorem dX3_freeHours_35 : decode cX3_freeHours 35 = .ok (.aload_n 0, 1) := qd_p qo_42 (by decide +kernel)
theorem dX3_freeHours_36 : decode cX3_freeHours 36 = .ok (.getfield 10, 3) := qz_2 .getfield 0 10 qo_180 (by decide +kernel) rfl
theorem dX3_freeHours_39 : decode cX3_freeHours 39 = .ok (.iload_n 1, 1) := qd_p qo_27 (by decide +kernel)
theorem dX3_freeHours_40 : decode cX3_freeHours 40 = .ok (.iload_n 2, 1) := qd_p qo_28 (by decide +kernel)
theorem dX3_freeHours_41 : decode cX3_freeHours 41 = .ok (.invokevirtual 144, 3) := qz_2 .invokevirtual 0 144 qo_182 (by decide +kernel) rfl
theorem dX3_freeHours_44 : decode cX3_freeHours 44 = .ok (.istore 4, 2) := qz_1 .istore 4 qo_54 (by decide +kernel)
theorem dX3_freeHours_46 : decode cX3_freeHours 46 = .ok (.iconst 0, 1) := qd_p qo_3 (by decide +kernel)
theorem dX3_freeHours_47 : decode cX3_freeHours 47 = .ok (.istore 5, 2) := qz_1 .istore 5 qo_54 (by decide +kernel)
theorem dX3_freeHours_49 : decode cX3_freeHours 49 = .ok (.iconst 0, 1) := qd_p qo_3 (by decide +kernel)
theorem dX3_freeHours_50 : decode cX3_freeHours 50 = .ok (.istore 6, 2) := qz_1 .istore 6 qo_54 (by decide +kernel)
theorem dX3_freeHours_52 : decode cX3_freeHours 52 = .ok (.iload 6, 2) := qz_1 .iload 6 qo_21 (by decide +kernel)
theorem dX3_freeHours_54 : decode cX3_freeHours 54 = .ok (.bipush 24, 2) := qz_s1 .bipush 24 qo_16 (by decide +kernel) rfl
theorem dX3_freeHours_56 : decode cX3_freeHours 56 = .ok (.if_icmp .ge 90, 3) := qz_s2 (.if_icmp .ge) 0 90 qo_162 (by decide +kernel) rfl
theorem dX3_freeHours_59 : decode cX3_freeHours 59 = .ok (.aload_n 0, 1) := qd_p qo_42 (by decide +kernel)
theorem dX3_freeHours_60 : decode cX3_freeHours 60 = .ok (.getfield 10, 3) := qz_2 .getfield 0 10 qo_180 (by decide +kernel) rfl
theorem dX3_freeHours_63 : decode cX3_freeHours 63 = .ok (.getfield 163, 3) := qz_2 .getfield 0 163 qo_180 (by decide +kernel) rfl
theorem dX3_freeHours_66 : decode cX3_freeHours 66 = .ok (.iload_n 1, 1) := qd_p qo_27 (by decide +kernel)
theorem dX3_freeHours_67 : decode cX3_freeHours 67 = .ok (.aaload, 1) := qd_p qo_50 (by decide +kernel)
theorem dX3_freeHours_68 : decode cX3_freeHours 68 = .ok (.iload 6, 2) := qz_1 .iload 6 qo_21 (by decide +kernel)
theorem dX3_freeHours_70 : decode cX3_freeHours 70 = .ok (.iaload, 1) := qd_p qo_46 (by decide +kernel)
theorem dX3_freeHours_71 : decode cX3_freeHours 71 = .ok (.istore 7, 2) := qz_1 .istore 7 qo_54 (by decide +kernel)
theorem dX3_freeHours_73 : decode cX3_freeHours 73 = .ok (.iload 7, 2) := qz_1 .iload 7 qo_21 (by decide +kernel)
theorem dX3_freeHours_75 : decode cX3_freeHours 75 = .ok (.bipush 9, 2) := qz_s1 .bipush 9 qo_16 (by decide +kernel) rfl
theorem dX3_freeHours_77 : decode cX3_freeHours 77 = .ok (.if_icmp .eq 63, 3) := qz_s2 (.if_icmp .eq) 0 63 qo_159 (by decide +kernel) rfl
theorem dX3_freeHours_80 : decode cX3_freeHours 80 = .ok (.aload_n 0, 1) := qd_p qo_42 (by decide +kernel)
theorem dX3_freeHours_81 : decode cX3_freeHours 81 = .ok (.getfield 16, 3) := qz_2 .getfield 0 16 qo_180 (by decide +kernel) rfl
theorem dX3_freeHours_84 : decode cX3_freeHours 84 = .ok (.iload_n 1, 1) := qd_p qo_27 (by decide +kernel)
theorem dX3_freeHours_85 : decode cX3_freeHours 85 = .ok (.iload 6, 2) := qz_1 .iload 6 qo_21 (by decide +kernel)
theorem dX3_freeHours_87 : decode cX3_freeHours 87 = .ok (.iload 6, 2) := qz_1 .iload 6 qo_21 (by decide +kernel)
theorem dX3_freeHours_89 : decode cX3_freeHours 89 = .ok (.bipush 9, 2) := qz_s1 .bipush 9 qo_16 (by decide +kernel) rfl
theorem dX3_freeHours_91 : decode cX3_freeHours 91 = .ok (.invokevirtual 170, 3) := qz_2 .invokevirtual 0 170 qo_182 (by decide +kernel) rfl
theorem dX3_freeHours_94 : decode cX3_freeHours 94 = .ok (.pop, 1) := qd_p qo_87 (by decide +kernel)
theorem dX3_freeHours_95 : decode cX3_freeHours 95 = .ok (.aload_n 0, 1) := qd_p qo_42 (by decide +kernel)
theorem dX3_freeHours_96 : decode cX3_freeHours 96 = .ok (.getfield 16, 3) := qz_2 .getfield 0 16 qo_180 (by decide +kernel) rfl
theorem dX3_freeHours_99 : decode cX3_freeHours 99 = .ok (.invokevirtual 141, 3) := qz_2 .invokevirtual 0 141 qo_182 (by decide +kernel) rfl
theorem dX3_freeHours_102 : decode cX3_freeHours 102 = .ok (.aload_n 0, 1) := qd_p qo_42 (by decide +kernel)
theorem dX3_freeHours_103 : decode cX3_freeHours 103 = .ok (.getfield 16, 3) := qz_2 .getfield 0 16 qo_180 (by decide +kernel) rfl
theorem dX3_freeHours_106 : decode cX3_freeHours 106 = .ok (.iload_n 1, 1) := qd_p qo_27 (by decide +kernel)
theorem dX3_freeHours_107 : decode cX3_freeHours 107 = .ok (.iload_n 2, 1) := qd_p qo_28 (by decide +kernel)
theorem dX3_freeHours_108 : decode cX3_freeHours 108 = .ok (.invokevirtual 144, 3) := qz_2 .invokevirtual 0 144 qo_182 (by decide +kernel) rfl
theorem dX3_freeHours_111 : decode cX3_freeHours 111 = .ok (.iload 4, 2) := qz_1 .iload 4 qo_21 (by decide +kernel)
theorem dX3_freeHours_113 : decode cX3_freeHours 113 = .ok (.if_icmp .ne 12, 3) := qz_s2 (.if_icmp .ne) 0 12 qo_160 (by decide +kernel) rfl
theorem dX3_freeHours_116 : decode cX3_freeHours 116 = .ok (.iload 5, 2) := qz_1 .iload 5 qo_21 (by decide +kernel)
theorem dX3_freeHours_118 : decode cX3_freeHours 118 = .ok (.iconst 1, 1) := qd_p qo_4 (by decide +kernel)
theorem dX3_freeHours_119 : decode cX3_freeHours 119 = .ok (.iload 6, 2) := qz_1 .iload 6 qo_21 (by decide +kernel)
theorem dX3_freeHours_121 : decode cX3_freeHours 121 = .ok (.ishl, 1) := qd_p qo_120 (by decide +kernel)
theorem dX3_freeHours_122 : decode cX3_freeHours 122 = .ok (.ior, 1) := qd_p qo_128 (by decide +kernel)
theorem dX3_freeHours_123 : decode cX3_freeHours 123 = .ok (.istore 5, 2) := qz_1 .istore 5 qo_54 (by decide +kernel)
theorem dX3_freeHours_125 : decode cX3_freeHours 125 = .ok (.aload_n 0, 1) := qd_p qo_42 (by decide +kernel)
theorem dX3_freeHours_126 : decode cX3_freeHours 126 = .ok (.getfield 16, 3) := qz_2 .getfield 0 16 qo_180 (by decide +kernel) rfl
theorem dX3_freeHours_129 : decode cX3_freeHours 129 = .ok (.iload_n 1, 1) := qd_p qo_27 (by decide +kernel)
theorem dX3_freeHours_130 : decode cX3_freeHours 130 = .ok (.iload 6, 2) := qz_1 .iload 6 qo_21 (by decide +kernel)
theorem dX3_freeHours_132 : decode cX3_freeHours 132 = .ok (.iload 6, 2) := qz_1 .iload 6 qo_21 (by decide +kernel)
theorem dX3_freeHours_134 : decode cX3_freeHours 134 = .ok (.iload 7, 2) := qz_1 .iload 7 qo_21 (by decide +kernel)
theorem dX3_freeHours_136 : decode cX3_freeHours 136 = .ok (.invokevirtual 170, 3) := qz_2 .invokevirtual 0 170 qo_182 (by decide +kernel) rfl
theorem dX3_freeHours_139 : decode cX3_freeHours 139 = .ok (.pop, 1) := qd_p qo_87 (by decide +kernel)
theorem dX3_freeHours_140 : decode cX3_freeHours 140 = .ok (.iinc 6 1, 3) := qd_i (x := 6) (y := 1) qo_132 (by decide +kernel) rfl
theorem dX3_freeHours_143 : decode cX3_freeHours 143 = .ok (.goto (-91), 3) := qz_s2 .goto 255 165 qo_167 (by decide +kernel) rfl
theorem dX3_freeHours_146 : decode cX3_freeHours 146 = .ok (.iload 5, 2) := qz_1 .iload 5 qo_21 (by decide +kernel)
theorem dX3_freeHours_148 : decode cX3_freeHours 148 = .ok (.ireturn, 1) := qd_p qo_172 (by decide +kernel)
theorem dX3_cover_0 : decode cX3_cover 0 = .ok (.aload_n 0, 1) := qd_p qo_42 (by decide +kernel)
theorem dX3_cover_1 : decode cX3_cover 1 = .ok (.getfield 10, 3) := qz_2 .getfield 0 10 qo_180 (by decide +kernel) rfl
theorem dX3_cover_4 : decode cX3_cover 4 = .ok (.invokevirtual 251, 3) := qz_2 .invokevirtual 0 251 qo_182 (by decide +kernel) rfl
theorem dX3_cover_7 : decode cX3_cover 7 = .ok (.istore_n 1, 1) := qd_p qo_60 (by decide +kernel)
theorem dX3_cover_8 : decode cX3_cover 8 = .ok (.iconst 1, 1) := qd_p qo_4 (by decide +kernel)
theorem dX3_cover_9 : decode cX3_cover 9 = .ok (.aload_n 0, 1) := qd_p qo_42 (by decide +kernel)
theorem dX3_cover_10 : decode cX3_cover 10 = .ok (.getfield 10, 3) := qz_2 .getfield 0 10 qo_180 (by decide +kernel) rfl
theorem dX3_cover_13 : decode cX3_cover 13 = .ok (.getfield 147, 3) := qz_2 .getfield 0 147 qo_180 (by decide +kernel) rfl
theorem dX3_cover_16 : decode cX3_cover 16 = .ok (.ishl, 1) := qd_p qo_120 (by decide +kernel)
theorem dX3_cover_17 : decode cX3_cover 17 = .ok (.iconst 1, 1) := qd_p qo_4 (by decide +kernel)
theorem dX3_cover_18 : decode cX3_cover 18 = .ok (.isub, 1) := qd_p qo_100 (by decide +kernel)
theorem dX3_cover_19 : decode cX3_cover 19 = .ok (.istore_n 2, 1) := qd_p qo_61 (by decide +kernel)
theorem dX3_cover_20 : decode cX3_cover 20 = .ok (.iconst 0, 1) := qd_p qo_3 (by decide +kernel)
theorem dX3_cover_21 : decode cX3_cover 21 = .ok (.istore_n 3, 1) := qd_p qo_62 (by decide +kernel)
theorem dX3_cover_22 : decode cX3_cover 22 = .ok (.iload_n 3, 1) := qd_p qo_29 (by decide +kernel)
theorem dX3_cover_23 : decode cX3_cover 23 = .ok (.iconst 1, 1) := qd_p qo_4 (by decide +kernel)
theorem dX3_cover_24 : decode cX3_cover 24 = .ok (.aload_n 0, 1) := qd_p qo_42 (by decide +kernel)
theorem dX3_cover_25 : decode cX3_cover 25 = .ok (.getfield 10, 3) := qz_2 .getfield 0 10 qo_180 (by decide +kernel) rfl
theorem dX3_cover_28 : decode cX3_cover 28 = .ok (.getfield 147, 3) := qz_2 .getfield 0 147 qo_180 (by decide +kernel) rfl
theorem dX3_cover_31 : decode cX3_cover 31 = .ok (.ishl, 1) := qd_p qo_120 (by decide +kernel)
theorem dX3_cover_32 : decode cX3_cover 32 = .ok (.if_icmp .ge 34, 3) := qz_s2 (.if_icmp .ge) 0 34 qo_162 (by decide +kernel) rfl
theorem dX3_cover_35 : decode cX3_cover 35 = .ok (.iload_n 3, 1) := qd_p qo_29 (by decide +kernel)
theorem dX3_cover_36 : decode cX3_cover 36 = .ok (.invokestatic 208, 3) := qz_2 .invokestatic 0 208 qo_184 (by decide +kernel) rfl
theorem dX3_cover_39 : decode cX3_cover 39 = .ok (.iload_n 2, 1) := qd_p qo_28 (by decide +kernel)
theorem dX3_cover_40 : decode cX3_cover 40 = .ok (.invokestatic 208, 3) := qz_2 .invokestatic 0 208 qo_184 (by decide +kernel) rfl
theorem dX3_cover_43 : decode cX3_cover 43 = .ok (.if_icmp .ge 17, 3) := qz_s2 (.if_icmp .ge) 0 17 qo_162 (by decide +kernel) rfl
theorem dX3_cover_46 : decode cX3_cover 46 = .ok (.aload_n 0, 1) := qd_p qo_42 (by decide +kernel)
theorem dX3_cover_47 : decode cX3_cover 47 = .ok (.getfield 10, 3) := qz_2 .getfield 0 10 qo_180 (by decide +kernel) rfl
theorem dX3_cover_50 : decode cX3_cover 50 = .ok (.iload_n 3, 1) := qd_p qo_29 (by decide +kernel)
theorem dX3_cover_51 : decode cX3_cover 51 = .ok (.invokevirtual 254, 3) := qz_2 .invokevirtual 0 254 qo_182 (by decide +kernel) rfl
theorem dX3_cover_54 : decode cX3_cover 54 = .ok (.iload_n 1, 1) := qd_p qo_27 (by decide +kernel)
theorem dX3_cover_55 : decode cX3_cover 55 = .ok (.if_icmp .ne 5, 3) := qz_s2 (.if_icmp .ne) 0 5 qo_160 (by decide +kernel) rfl
theorem dX3_cover_58 : decode cX3_cover 58 = .ok (.iload_n 3, 1) := qd_p qo_29 (by decide +kernel)
theorem dX3_cover_59 : decode cX3_cover 59 = .ok (.istore_n 2, 1) := qd_p qo_61 (by decide +kernel)
theorem dX3_cover_60 : decode cX3_cover 60 = .ok (.iinc 3 1, 3) := qd_i (x := 3) (y := 1) qo_132 (by decide +kernel) rfl
theorem dX3_cover_63 : decode cX3_cover 63 = .ok (.goto (-41), 3) := qz_s2 .goto 255 215 qo_167 (by decide +kernel) rfl
theorem dX3_cover_66 : decode cX3_cover 66 = .ok (.iload_n 2, 1) := qd_p qo_28 (by decide +kernel)
theorem dX3_cover_67 : decode cX3_cover 67 = .ok (.ireturn, 1) := qd_p qo_172 (by decide +kernel)
theorem dX3_shown_0 : decode cX3_shown 0 = .ok (.iload_n 1, 1) := qd_p qo_27 (by decide +kernel)
theorem dX3_shown_1 : decode cX3_shown 1 = .ok (.invokestatic 65, 3) := qz_2 .invokestatic 0 65 qo_184 (by decide +kernel) rfl
theorem dX3_shown_4 : decode cX3_shown 4 = .ok (.ifCond .ne 9, 3) := qz_s2 (.ifCond .ne) 0 9 qo_154 (by decide +kernel) rfl
theorem dX3_shown_7 : decode cX3_shown 7 = .ok (.aload_n 0, 1) := qd_p qo_42 (by decide +kernel)
theorem dX3_shown_8 : decode cX3_shown 8 = .ok (.iconst (-1), 1) := qd_p qo_2 (by decide +kernel)
theorem dX3_shown_9 : decode cX3_shown 9 = .ok (.invokevirtual 61, 3) := qz_2 .invokevirtual 0 61 qo_182 (by decide +kernel) rfl
theorem dX3_shown_12 : decode cX3_shown 12 = .ok (.ireturn, 1) := qd_p qo_172 (by decide +kernel)
theorem dX3_shown_13 : decode cX3_shown 13 = .ok (.aload_n 0, 1) := qd_p qo_42 (by decide +kernel)
theorem dX3_shown_14 : decode cX3_shown 14 = .ok (.getfield 10, 3) := qz_2 .getfield 0 10 qo_180 (by decide +kernel) rfl
theorem dX3_shown_17 : decode cX3_shown 17 = .ok (.iload_n 1, 1) := qd_p qo_27 (by decide +kernel)
theorem dX3_shown_18 : decode cX3_shown 18 = .ok (.invokevirtual 238, 3) := qz_2 .invokevirtual 0 238 qo_182 (by decide +kernel) rfl
theorem dX3_shown_21 : decode cX3_shown 21 = .ok (.ireturn, 1) := qd_p qo_172 (by decide +kernel)
theorem dX3_wealthWalled_0 : decode cX3_wealthWalled 0 = .ok (.aload_n 0, 1) := qd_p qo_42 (by decide +kernel)
theorem dX3_wealthWalled_1 : decode cX3_wealthWalled 1 = .ok (.getfield 16, 3) := qz_2 .getfield 0 16 qo_180 (by decide +kernel) rfl
theorem dX3_wealthWalled_4 : decode cX3_wealthWalled 4 = .ok (.iload_n 2, 1) := qd_p qo_28 (by decide +kernel)
theorem dX3_wealthWalled_5 : decode cX3_wealthWalled 5 = .ok (.iload_n 3, 1) := qd_p qo_29 (by decide +kernel)
theorem dX3_wealthWalled_6 : decode cX3_wealthWalled 6 = .ok (.invokevirtual 181, 3) := qz_2 .invokevirtual 0 181 qo_182 (by decide +kernel) rfl
theorem dX3_wealthWalled_9 : decode cX3_wealthWalled 9 = .ok (.pop, 1) := qd_p qo_87 (by decide +kernel)
theorem dX3_wealthWalled_10 : decode cX3_wealthWalled 10 = .ok (.aload_n 0, 1) := qd_p qo_42 (by decide +kernel)
theorem dX3_wealthWalled_11 : decode cX3_wealthWalled 11 = .ok (.getfield 16, 3) := qz_2 .getfield 0 16 qo_180 (by decide +kernel) rfl
theorem dX3_wealthWalled_14 : decode cX3_wealthWalled 14 = .ok (.invokevirtual 141, 3) := qz_2 .invokevirtual 0 141 qo_182 (by decide +kernel) rfl
theorem dX3_wealthWalled_17 : decode cX3_wealthWalled 17 = .ok (.aload_n 0, 1) := qd_p qo_42 (by decide +kernel)
theorem dX3_wealthWalled_18 : decode cX3_wealthWalled 18 = .ok (.getfield 16, 3) := qz_2 .getfield 0 16 qo_180 (by decide +kernel) rfl
theorem dX3_wealthWalled_21 : decode cX3_wealthWalled 21 = .ok (.iload_n 1, 1) := qd_p qo_27 (by decide +kernel)
theorem dX3_wealthWalled_22 : decode cX3_wealthWalled 22 = .ok (.iload 4, 2) := qz_1 .iload 4 qo_21 (by decide +kernel)
theorem dX3_wealthWalled_24 : decode cX3_wealthWalled 24 = .ok (.invokevirtual 229, 3) := qz_2 .invokevirtual 0 229 qo_182 (by decide +kernel) rfl
theorem dX3_wealthWalled_27 : decode cX3_wealthWalled 27 = .ok (.istore 5, 2) := qz_1 .istore 5 qo_54 (by decide +kernel)
theorem dX3_wealthWalled_29 : decode cX3_wealthWalled 29 = .ok (.aload_n 0, 1) := qd_p qo_42 (by decide +kernel)
theorem dX3_wealthWalled_30 : decode cX3_wealthWalled 30 = .ok (.getfield 16, 3) := qz_2 .getfield 0 16 qo_180 (by decide +kernel) rfl
theorem dX3_wealthWalled_33 : decode cX3_wealthWalled 33 = .ok (.iload_n 2, 1) := qd_p qo_28 (by decide +kernel)
theorem dX3_wealthWalled_34 : decode cX3_wealthWalled 34 = .ok (.iload_n 3, 1) := qd_p qo_29 (by decide +kernel)
theorem dX3_wealthWalled_35 : decode cX3_wealthWalled 35 = .ok (.invokevirtual 181, 3) := qz_2 .invokevirtual 0 181 qo_182 (by decide +kernel) rfl
theorem dX3_wealthWalled_38 : decode cX3_wealthWalled 38 = .ok (.pop, 1) := qd_p qo_87 (by decide +kernel)
theorem dX3_wealthWalled_39 : decode cX3_wealthWalled 39 = .ok (.iload 5, 2) := qz_1 .iload 5 qo_21 (by decide +kernel)
theorem dX3_wealthWalled_41 : decode cX3_wealthWalled 41 = .ok (.ireturn, 1) := qd_p qo_172 (by decide +kernel)
section
variable {p : Program} {l : Launch} {e : Env} {s : State} {m : MethodId} {args : Array Value} {below : List Frame} {meth : Method} {c : Code} {D : va_G} {tI tII : ClassId} {B : Nat}
set_option maxHeartbeats 4000000 in
set_option maxRecDepth 100000 in
theorem w_J6_bitCount_0f7a4_0 (C : wt_C p s m args meth c RJ6 cJ6_bitCount_0f7a4 1 (some .int) D tI tII) {F : Nat} {x0 : Int32} {σ : Mem} {r : Int32} {σ' : Mem} {H : Heap} {locs : List Loc} {ls : Array Slot} (hf : f_J6_bitCount_0f7a4 F x0 σ = some (r, σ')) (hM : wt_St D tI tII B σ s H locs) (hl : lv_has ls 1 [(0, .int x0)]) : W p l e rm_J6_bitCount_0f7a4 s m args below meth c H locs 0 0 (MQ below (wt_Qi D tI tII B r σ') args s 0 0 (fun q => B ≤ q)) (F0 m 0 ls []) := by
  obtain ⟨hx, hb, hts, hown, hml, hr, hlk, hK⟩ := id C
  replace hf := Eq.trans f_J6_bitCount_0f7a4_e.symm hf
  refine lv_iload_n hx hb dJ6_bitCount_0f7a4_0 rfl (lv_at hl 0 rfl) ?_
  refine lv_iload_n hx hb dJ6_bitCount_0f7a4_1 rfl (lv_at hl 0 rfl) ?_
  refine lv_iconst (v := 1) hx hb dJ6_bitCount_0f7a4_2 (by decide) ?_
  refine lv_iushr (v := (wt_ushr x0 (1 : Int32))) hx hb dJ6_bitCount_0f7a4_3 rfl ?_
  refine lv_ldcw (v := 1431655765) hx hb hown (hts _ tw_397) dJ6_bitCount_0f7a4_4 ?_
  refine lv_iand hx hb dJ6_bitCount_0f7a4_7 ?_
  refine lv_isub hx hb dJ6_bitCount_0f7a4_8 ?_
  refine wt_leti hf (fun z1 hf => ?_)
  refine lv_istore_n (lv' := [(0, .int z1)]) hx hb dJ6_bitCount_0f7a4_9 rfl hl (by decide) rfl (fun ls hl => ?_)
  refine lv_iload_n hx hb dJ6_bitCount_0f7a4_10 rfl (lv_at hl 0 rfl) ?_
  refine lv_ldcw (v := 858993459) hx hb hown (hts _ tw_398) dJ6_bitCount_0f7a4_11 ?_
  refine lv_iand hx hb dJ6_bitCount_0f7a4_14 ?_
  refine lv_iload_n hx hb dJ6_bitCount_0f7a4_15 rfl (lv_at hl 0 rfl) ?_
  refine lv_iconst (v := 2) hx hb dJ6_bitCount_0f7a4_16 (by decide) ?_
  refine lv_iushr (v := (wt_ushr z1 (2 : Int32))) hx hb dJ6_bitCount_0f7a4_17 rfl ?_
  refine lv_ldcw (v := 858993459) hx hb hown (hts _ tw_398) dJ6_bitCount_0f7a4_18 ?_
  refine lv_iand hx hb dJ6_bitCount_0f7a4_21 ?_
  refine lv_iadd hx hb dJ6_bitCount_0f7a4_22 ?_
  refine wt_leti hf (fun z2 hf => ?_)
  refine lv_istore_n (lv' := [(0, .int z2)]) hx hb dJ6_bitCount_0f7a4_23 rfl hl (by decide) rfl (fun ls hl => ?_)
  refine lv_iload_n hx hb dJ6_bitCount_0f7a4_24 rfl (lv_at hl 0 rfl) ?_
  refine lv_iload_n hx hb dJ6_bitCount_0f7a4_25 rfl (lv_at hl 0 rfl) ?_
  refine lv_iconst (v := 4) hx hb dJ6_bitCount_0f7a4_26 (by decide) ?_
  refine lv_iushr (v := (wt_ushr z2 (4 : Int32))) hx hb dJ6_bitCount_0f7a4_27 rfl ?_
  refine lv_iadd hx hb dJ6_bitCount_0f7a4_28 ?_
  refine lv_ldcw (v := 252645135) hx hb hown (hts _ tw_399) dJ6_bitCount_0f7a4_29 ?_
  refine lv_iand hx hb dJ6_bitCount_0f7a4_32 ?_
  refine wt_leti hf (fun z3 hf => ?_)
  refine lv_istore_n (lv' := [(0, .int z3)]) hx hb dJ6_bitCount_0f7a4_33 rfl hl (by decide) rfl (fun ls hl => ?_)
  refine lv_iload_n hx hb dJ6_bitCount_0f7a4_34 rfl (lv_at hl 0 rfl) ?_
  refine lv_iload_n hx hb dJ6_bitCount_0f7a4_35 rfl (lv_at hl 0 rfl) ?_
  refine lv_bipush (v := 8) hx hb dJ6_bitCount_0f7a4_36 (by decide) ?_
  refine lv_iushr (v := (wt_ushr z3 (8 : Int32))) hx hb dJ6_bitCount_0f7a4_38 rfl ?_
  refine lv_iadd hx hb dJ6_bitCount_0f7a4_39 ?_
  refine wt_leti hf (fun z4 hf => ?_)
  refine lv_istore_n (lv' := [(0, .int z4)]) hx hb dJ6_bitCount_0f7a4_40 rfl hl (by decide) rfl (fun ls hl => ?_)
  refine lv_iload_n hx hb dJ6_bitCount_0f7a4_41 rfl (lv_at hl 0 rfl) ?_
  refine lv_iload_n hx hb dJ6_bitCount_0f7a4_42 rfl (lv_at hl 0 rfl) ?_
  refine lv_bipush (v := 16) hx hb dJ6_bitCount_0f7a4_43 (by decide) ?_
  refine lv_iushr (v := (wt_ushr z4 (16 : Int32))) hx hb dJ6_bitCount_0f7a4_45 rfl ?_
  refine lv_iadd hx hb dJ6_bitCount_0f7a4_46 ?_
  refine wt_leti hf (fun z5 hf => ?_)
  refine lv_istore_n (lv' := [(0, .int z5)]) hx hb dJ6_bitCount_0f7a4_47 rfl hl (by decide) rfl (fun ls hl => ?_)
  refine lv_iload_n hx hb dJ6_bitCount_0f7a4_48 rfl (lv_at hl 0 rfl) ?_
  refine lv_bipush (v := 63) hx hb dJ6_bitCount_0f7a4_49 (by decide) ?_
  refine lv_iand hx hb dJ6_bitCount_0f7a4_51 ?_
  exact wt_iret hx hb hr hlk hK hM hf dJ6_bitCount_0f7a4_52
end
set_option maxHeartbeats 4000000 in
set_option maxRecDepth 100000 in
theorem c_J6_bitCount_0f7a4 {l : Launch} {D : va_G} {tI tII : ClassId} {B F : Nat} {x0 : Int32} {σ σ' : Mem} {r : Int32} (hf : f_J6_bitCount_0f7a4 F x0 σ = some (r, σ')) : wt_Mi l yJ6_bitCount_0f7a4 cJ6_bitCount_0f7a4 1 (some .int) rm_J6_bitCount_0f7a4 [.int x0] D tI tII B σ r σ' := by
  refine Met.ofW (cc := cJ6_bitCount_0f7a4) (maxL := 1) (ret := (some .int)) (by decide) rfl ?_
  intro p e s m args below meth c s₁ B9 hml hv
  obtain ⟨rfl, hP, hK⟩ := hv
  have hl := lv_entry ([.int x0]) (n := 1) (qz_b rfl)
  rw [lg_entry_eq]
  generalize (lg_sl ([.int x0]) ++ List.replicate (1 - (lg_sl ([.int x0])).length) Slot.unset).toArray = ls at hl ⊢
  exact w_J6_bitCount_0f7a4_0 (wt_C_of B9 hml hK) hf ⟨hP, va_S.rf⟩ hl
section
variable {p : Program} {l : Launch} {e : Env} {s : State} {m : MethodId} {args : Array Value} {below : List Frame} {meth : Method} {c : Code} {D : va_G} {tI tII : ClassId} {B : Nat}
set_option maxHeartbeats 4000000 in
set_option maxRecDepth 100000 in
theorem w_X3_days_30 (C : wt_C p s m args meth c RX3 cX3_days 3 (some .int) D tI tII) {F : Nat} {x1 : Int32} {x2 : Int32} {σ : Mem} {r : Int32} {σ' : Mem} {H : Heap} {locs : List Loc} {ls : Array Slot} (hf : j_X3_days_30 F x1 x2 σ = some (r, σ')) (hM : wt_St D tI tII B σ s H locs) (hl : lv_has ls 3 [(0, .ref (B + 0)), (1, .int x1), (2, .int x2)]) : W p l e rm_X3_days s m args below meth c H locs 0 0 (MQ below (wt_Qi D tI tII B r σ') args s 0 0 (fun q => B ≤ q)) (F0 m 30 ls []) := by
  obtain ⟨hx, hb, hts, hown, hml, hr, hlk, hK⟩ := id C
  replace hf := Eq.trans j_X3_days_30_e.symm hf
  refine lv_iload_n hx hb dX3_days_30 rfl (lv_at hl 2 rfl) ?_
  refine wq_if_eq (tgt := 40) hx hb dX3_days_31 (by decide) hf (fun hf => ?_) (fun hf => ?_)
  · refine lv_aload_n hx hb dX3_days_40 rfl (lv_at hl 0 rfl) ?_
    refine gf_X3_house  hx hb hts hown hK hM tw_114 dX3_days_41 ?_
    refine lv_iload_n hx hb dX3_days_44 rfl (lv_at hl 1 rfl) ?_
    refine wt_callVi (As := [.int x1]) (rest := []) hx hb hml hts hown hK hM (wt_rc_X0 wt_h1) cw_X3_202 hd_X0_pass rfl ⟨qz_b rfl, qz_b rfl⟩ ⟨rfl, rfl⟩ hl.1 rfl (qz_b rfl) dX3_days_45 hf (fun _ _ h9 => c_X0_pass wt_h1 h9) (fun r1 s2 H locs hf hM => ?_)
    refine lv_pop hx hb dX3_days_48 rfl ?_
    refine lv_aload_n hx hb dX3_days_49 rfl (lv_at hl 0 rfl) ?_
    refine gf_X3_steps  hx hb hts hown hK hM tw_118 dX3_days_50 ?_
    refine wt_callVv (As := []) (rest := []) hx hb hml hts hown hK hM wt_rc_X2 cw_X3_117 hd_X2_forget rfl ⟨qz_b rfl, qz_b rfl⟩ ⟨rfl, rfl⟩ hl.1 rfl (qz_b rfl) dX3_days_53 hf (fun _ _ h9 => c_X2_forget h9) (fun r3 s4 H locs hf hM => ?_)
    refine lv_aload_n hx hb dX3_days_56 rfl (lv_at hl 0 rfl) ?_
    refine gf_X3_house  hx hb hts hown hK hM tw_114 dX3_days_57 ?_
    refine lv_iconst (v := 0) hx hb dX3_days_60 (by decide) ?_
    refine wt_callVi (As := [.int (0 : Int32)]) (rest := []) hx hb hml hts hown hK hM (wt_rc_X0 wt_h1) cw_X3_205 hd_X0_held rfl ⟨qz_b rfl, qz_b rfl⟩ ⟨rfl, rfl⟩ hl.1 rfl (qz_b rfl) dX3_days_61 hf (fun _ _ h9 => c_X0_held wt_h1 h9) (fun r5 s6 H locs hf hM => ?_)
    refine wt_callSi (As := [.int r5]) (rest := []) hx hb hml hts hown hK hM cw_X3_208 hd_J6_bitCount_0f7a4 rfl ⟨qz_b rfl, qz_b rfl⟩ ⟨rfl, rfl⟩ hl.1 rfl (qz_b rfl) dX3_days_64 hf (fun _ _ h9 => c_J6_bitCount_0f7a4 h9) (fun r7 s8 H locs hf hM => ?_)
    exact wt_iret hx hb hr hlk hK hM hf dX3_days_67
  refine lv_aload_n hx hb dX3_days_34 rfl (lv_at hl 0 rfl) ?_
  refine lv_iload_n hx hb dX3_days_35 rfl (lv_at hl 2 rfl) ?_
  refine wt_callVi (As := [.int x2]) (rest := []) hx hb hml hts hown hK hM wt_rc_X3 cw_X3_61 hd_X3_refuse rfl ⟨qz_b rfl, qz_b rfl⟩ ⟨rfl, rfl⟩ hl.1 rfl (qz_b rfl) dX3_days_36 hf (fun _ _ h9 => c_X3_refuse h9) (fun r9 s10 H locs hf hM => ?_)
  exact wt_iret hx hb hr hlk hK hM hf dX3_days_39
set_option maxHeartbeats 4000000 in
set_option maxRecDepth 100000 in
theorem w_X3_days_0 (C : wt_C p s m args meth c RX3 cX3_days 3 (some .int) D tI tII) {F : Nat} {x1 : Int32} {σ : Mem} {r : Int32} {σ' : Mem} {H : Heap} {locs : List Loc} {ls : Array Slot} (hf : f_X3_days F x1 σ = some (r, σ')) (hM : wt_St D tI tII B σ s H locs) (hl : lv_has ls 3 [(0, .ref (B + 0)), (1, .int x1)]) : W p l e rm_X3_days s m args below meth c H locs 0 0 (MQ below (wt_Qi D tI tII B r σ') args s 0 0 (fun q => B ≤ q)) (F0 m 0 ls []) := by
  obtain ⟨hx, hb, hts, hown, hml, hr, hlk, hK⟩ := id C
  replace hf := Eq.trans f_X3_days_e.symm hf
  refine lv_iload_n hx hb dX3_days_0 rfl (lv_at hl 1 rfl) ?_
  refine lv_iconst (v := 1) hx hb dX3_days_1 (by decide) ?_
  refine lv_bipush (v := 99) hx hb dX3_days_2 (by decide) ?_
  refine wt_callSi (As := [.int x1, .int (1 : Int32), .int (99 : Int32)]) (rest := []) hx hb hml hts hown hK hM cw_X3_81 hd_X3_outside rfl ⟨qz_b rfl, qz_b rfl⟩ ⟨rfl, rfl⟩ hl.1 rfl (qz_b rfl) dX3_days_4 hf (fun _ _ h9 => c_X3_outside h9) (fun r11 s12 H locs hf hM => ?_)
  refine lv_istore_n (lv' := [(2, .int r11), (0, .ref (B + 0)), (1, .int x1)]) hx hb dX3_days_7 rfl hl (by decide) rfl (fun ls hl => ?_)
  refine lv_iload_n hx hb dX3_days_8 rfl (lv_at hl 0 rfl) ?_
  refine wq_if_ne (tgt := 30) hx hb dX3_days_9 (by decide) hf (fun hf => ?_) (fun hf => ?_)
  · exact w_X3_days_30 C hf hM (lv_sub hl [1, 2, 0] rfl)
  refine lv_aload_n hx hb dX3_days_12 rfl (lv_at hl 1 rfl) ?_
  refine gf_X3_house  hx hb hts hown hK hM tw_114 dX3_days_13 ?_
  refine gf_X0_day wt_h1 hx hb hts hown hK hM tw_45 dX3_days_16 ?_
  refine lv_iload_n hx hb dX3_days_19 rfl (lv_at hl 2 rfl) ?_
  refine lv_iadd hx hb dX3_days_20 ?_
  refine lv_sipush (v := 9999) hx hb dX3_days_21 (by decide) ?_
  refine wq_icmp_le (tgt := 30) hx hb dX3_days_24 (by decide) hf (fun hf => ?_) (fun hf => ?_)
  · exact w_X3_days_30 C hf hM (lv_sub hl [1, 2, 0] rfl)
  refine lv_bipush (v := -6) hx hb dX3_days_27 (by decide) ?_
  refine lv_istore_n (lv' := [(2, .int (-6 : Int32)), (0, .ref (B + 0)), (1, .int x1)]) hx hb dX3_days_29 rfl hl (by decide) rfl (fun ls hl => ?_)
  exact w_X3_days_30 C hf hM (lv_sub hl [1, 2, 0] rfl)
end
set_option maxHeartbeats 4000000 in
set_option maxRecDepth 100000 in
theorem c_X3_days {l : Launch} {D : va_G} {tI tII : ClassId} {B F : Nat} {x1 : Int32} {σ σ' : Mem} {r : Int32} (hf : f_X3_days F x1 σ = some (r, σ')) : wt_Mi l yX3_days cX3_days 3 (some .int) rm_X3_days [.ref (B + 0), .int x1] D tI tII B σ r σ' := by
  refine Met.ofW (cc := cX3_days) (maxL := 3) (ret := (some .int)) (by decide) rfl ?_
  intro p e s m args below meth c s₁ B9 hml hv
  obtain ⟨rfl, hP, hK⟩ := hv
  have hl := lv_entry ([.ref (B + 0), .int x1]) (n := 3) (qz_b rfl)
  rw [lg_entry_eq]
  generalize (lg_sl ([.ref (B + 0), .int x1]) ++ List.replicate (3 - (lg_sl ([.ref (B + 0), .int x1])).length) Slot.unset).toArray = ls at hl ⊢
  exact w_X3_days_0 (wt_C_of B9 hml hK) hf ⟨hP, va_S.rf⟩ hl
section
variable {p : Program} {l : Launch} {e : Env} {s : State} {m : MethodId} {args : Array Value} {below : List Frame} {meth : Method} {c : Code} {D : va_G} {tI tII : ClassId} {B : Nat}
set_option maxHeartbeats 4000000 in
set_option maxRecDepth 100000 in
theorem w_X3_back_0 (C : wt_C p s m args meth c RX3 cX3_back 1 (some .int) D tI tII) {F : Nat} {σ : Mem} {r : Int32} {σ' : Mem} {H : Heap} {locs : List Loc} {ls : Array Slot} (hf : f_X3_back F σ = some (r, σ')) (hM : wt_St D tI tII B σ s H locs) (hl : lv_has ls 1 [(0, .ref (B + 0))]) : W p l e rm_X3_back s m args below meth c H locs 0 0 (MQ below (wt_Qi D tI tII B r σ') args s 0 0 (fun q => B ≤ q)) (F0 m 0 ls []) := by
  obtain ⟨hx, hb, hts, hown, hml, hr, hlk, hK⟩ := id C
  replace hf := Eq.trans f_X3_back_e.symm hf
  refine lv_aload_n hx hb dX3_back_0 rfl (lv_at hl 0 rfl) ?_
  refine gf_X3_steps  hx hb hts hown hK hM tw_118 dX3_back_1 ?_
  refine gf_X2_size  hx hb hts hown hK hM tw_85 dX3_back_4 ?_
  refine wq_if_ne (tgt := 17) hx hb dX3_back_7 (by decide) hf (fun hf => ?_) (fun hf => ?_)
  · refine lv_aload_n hx hb dX3_back_17 rfl (lv_at hl 0 rfl) ?_
    refine gf_X3_steps  hx hb hts hown hK hM tw_118 dX3_back_18 ?_
    refine lv_aload_n hx hb dX3_back_21 rfl (lv_at hl 0 rfl) ?_
    refine gf_X3_house  hx hb hts hown hK hM tw_114 dX3_back_22 ?_
    refine wt_callVv (As := [.ref (B + 1)]) (rest := []) hx hb hml hts hown hK hM wt_rc_X2 cw_X3_214 hd_X2_undoLatest rfl ⟨qz_b rfl, qz_b rfl⟩ ⟨rfl, rfl⟩ hl.1 rfl (qz_b rfl) dX3_back_25 hf (fun _ _ h9 => c_X2_undoLatest wt_h1 h9) (fun r1 s2 H locs hf hM => ?_)
    refine lv_aload_n hx hb dX3_back_28 rfl (lv_at hl 0 rfl) ?_
    refine gf_X3_steps  hx hb hts hown hK hM tw_118 dX3_back_29 ?_
    refine gf_X2_size  hx hb hts hown hK hM tw_85 dX3_back_32 ?_
    exact wt_iret hx hb hr hlk hK hM hf dX3_back_35
  refine lv_aload_n hx hb dX3_back_10 rfl (lv_at hl 0 rfl) ?_
  refine lv_bipush (v := -3) hx hb dX3_back_11 (by decide) ?_
  refine wt_callVi (As := [.int (-3 : Int32)]) (rest := []) hx hb hml hts hown hK hM wt_rc_X3 cw_X3_61 hd_X3_refuse rfl ⟨qz_b rfl, qz_b rfl⟩ ⟨rfl, rfl⟩ hl.1 rfl (qz_b rfl) dX3_back_13 hf (fun _ _ h9 => c_X3_refuse h9) (fun r3 s4 H locs hf hM => ?_)
  exact wt_iret hx hb hr hlk hK hM hf dX3_back_16
end
set_option maxHeartbeats 4000000 in
set_option maxRecDepth 100000 in
theorem c_X3_back {l : Launch} {D : va_G} {tI tII : ClassId} {B F : Nat} {σ σ' : Mem} {r : Int32} (hf : f_X3_back F σ = some (r, σ')) : wt_Mi l yX3_back cX3_back 1 (some .int) rm_X3_back [.ref (B + 0)] D tI tII B σ r σ' := by
  refine Met.ofW (cc := cX3_back) (maxL := 1) (ret := (some .int)) (by decide) rfl ?_
  intro p e s m args below meth c s₁ B9 hml hv
  obtain ⟨rfl, hP, hK⟩ := hv
  have hl := lv_entry ([.ref (B + 0)]) (n := 1) (qz_b rfl)
  rw [lg_entry_eq]
  generalize (lg_sl ([.ref (B + 0)]) ++ List.replicate (1 - (lg_sl ([.ref (B + 0)])).length) Slot.unset).toArray = ls at hl ⊢
  exact w_X3_back_0 (wt_C_of B9 hml hK) hf ⟨hP, va_S.rf⟩ hl
section
variable {p : Program} {l : Launch} {e : Env} {s : State} {m : MethodId} {args : Array Value} {below : List Frame} {meth : Method} {c : Code} {D : va_G} {tI tII : ClassId} {B : Nat}
set_option maxHeartbeats 4000000 in
set_option maxRecDepth 100000 in
theorem w_X3_counts_0 (C : wt_C p s m args meth c RX3 cX3_counts 5 (some .int) D tI tII) {F : Nat} {x1 : Int32} {x2 : Int32} {x3 : Int32} {σ : Mem} {r : Int32} {σ' : Mem} {H : Heap} {locs : List Loc} {ls : Array Slot} (hf : f_X3_counts F x1 x2 x3 σ = some (r, σ')) (hM : wt_St D tI tII B σ s H locs) (hl : lv_has ls 5 [(0, .ref (B + 0)), (1, .int x1), (2, .int x2), (3, .int x3)]) : W p l e rm_X3_counts s m args below meth c H locs 0 0 (MQ below (wt_Qi D tI tII B r σ') args s 0 0 (fun q => B ≤ q)) (F0 m 0 ls []) := by
  obtain ⟨hx, hb, hts, hown, hml, hr, hlk, hK⟩ := id C
  replace hf := Eq.trans f_X3_counts_e.symm hf
  refine lv_aload_n hx hb dX3_counts_0 rfl (lv_at hl 0 rfl) ?_
  refine lv_iload_n hx hb dX3_counts_1 rfl (lv_at hl 1 rfl) ?_
  refine wt_callVi (As := [.int x1]) (rest := []) hx hb hml hts hown hK hM wt_rc_X3 cw_X3_78 hd_X3_noLooker rfl ⟨qz_b rfl, qz_b rfl⟩ ⟨rfl, rfl⟩ hl.1 rfl (qz_b rfl) dX3_counts_2 hf (fun _ _ h9 => c_X3_noLooker h9) (fun r1 s2 H locs hf hM => ?_)
  refine lv_iload_n hx hb dX3_counts_5 rfl (lv_at hl 2 rfl) ?_
  refine wt_callSi (As := [.int x2]) (rest := [.int r1]) hx hb hml hts hown hK hM cw_X3_174 hd_X3_noView rfl ⟨qz_b rfl, qz_b rfl⟩ ⟨rfl, rfl⟩ hl.1 rfl (qz_b rfl) dX3_counts_6 hf (fun _ _ h9 => c_X3_noView h9) (fun r3 s4 H locs hf hM => ?_)
  refine wt_callSi (As := [.int r1, .int r3]) (rest := []) hx hb hml hts hown hK hM cw_X3_85 hd_X3_firstOf rfl ⟨qz_b rfl, qz_b rfl⟩ ⟨rfl, rfl⟩ hl.1 rfl (qz_b rfl) dX3_counts_9 hf (fun _ _ h9 => c_X3_firstOf h9) (fun r5 s6 H locs hf hM => ?_)
  refine lv_iload_n hx hb dX3_counts_12 rfl (lv_at hl 3 rfl) ?_
  refine lv_iconst (v := 2) hx hb dX3_counts_13 (by decide) ?_
  refine wt_callSi (As := [.int x3, .int (2 : Int32)]) (rest := [.int r5]) hx hb hml hts hown hK hM cw_X3_123 hd_X3_notBelow rfl ⟨qz_b rfl, qz_b rfl⟩ ⟨rfl, rfl⟩ hl.1 rfl (qz_b rfl) dX3_counts_14 hf (fun _ _ h9 => c_X3_notBelow h9) (fun r7 s8 H locs hf hM => ?_)
  refine wt_callSi (As := [.int r5, .int r7]) (rest := []) hx hb hml hts hown hK hM cw_X3_85 hd_X3_firstOf rfl ⟨qz_b rfl, qz_b rfl⟩ ⟨rfl, rfl⟩ hl.1 rfl (qz_b rfl) dX3_counts_17 hf (fun _ _ h9 => c_X3_firstOf h9) (fun r9 s10 H locs hf hM => ?_)
  refine lv_istore (lv' := [(4, .int r9), (0, .ref (B + 0)), (1, .int x1), (2, .int x2), (3, .int x3)]) hx hb dX3_counts_20 hl (by decide) rfl (fun ls hl => ?_)
  refine lv_iload hx hb dX3_counts_22 (lv_at hl 0 rfl) ?_
  refine wq_if_eq (tgt := 34) hx hb dX3_counts_24 (by decide) hf (fun hf => ?_) (fun hf => ?_)
  · refine lv_aload_n hx hb dX3_counts_34 rfl (lv_at hl 1 rfl) ?_
    refine gf_X3_house  hx hb hts hown hK hM tw_114 dX3_counts_35 ?_
    refine wt_callVv (As := []) (rest := []) hx hb hml hts hown hK hM (wt_rc_X0 wt_h1) cw_X3_141 hd_X0_reckon rfl ⟨qz_b rfl, qz_b rfl⟩ ⟨rfl, rfl⟩ hl.1 rfl (qz_b rfl) dX3_counts_38 hf (fun _ _ h9 => c_X0_reckon wt_h1 h9) (fun r11 s12 H locs hf hM => ?_)
    refine lv_iload_n hx hb dX3_counts_41 rfl (lv_at hl 4 rfl) ?_
    refine wq_if_ne (tgt := 59) hx hb dX3_counts_42 (by decide) hf (fun hf => ?_) (fun hf => ?_)
    · refine lv_aload_n hx hb dX3_counts_59 rfl (lv_at hl 1 rfl) ?_
      refine gf_X3_house  hx hb hts hown hK hM tw_114 dX3_counts_60 ?_
      refine gf_X0_gains wt_h1 hx hb hts hown hK hM tw_47 dX3_counts_63 ?_
      refine lv_iload_n hx hb dX3_counts_66 rfl (lv_at hl 2 rfl) ?_
      obtain ⟨i13, hf⟩ := wt_chk_of hf
      refine wt_ald hx hb hK hM (wt_aaH_17 wt_h1) i13 dX3_counts_67 ?_
      refine lv_iload_n hx hb dX3_counts_68 rfl (lv_at hl 3 rfl) ?_
      obtain ⟨i14, hf⟩ := wt_chk_of hf
      refine wt_ild hx hb hK hM (wt_rH_17 wt_h1 i13) i14 dX3_counts_69 ?_
      exact wt_iret hx hb hr hlk hK hM hf dX3_counts_70
    refine lv_aload_n hx hb dX3_counts_45 rfl (lv_at hl 1 rfl) ?_
    refine gf_X3_house  hx hb hts hown hK hM tw_114 dX3_counts_46 ?_
    refine gf_X0_counts wt_h1 hx hb hts hown hK hM tw_39 dX3_counts_49 ?_
    refine lv_iload_n hx hb dX3_counts_52 rfl (lv_at hl 2 rfl) ?_
    obtain ⟨i15, hf⟩ := wt_chk_of hf
    refine wt_ald hx hb hK hM (wt_aaH_10 wt_h1) i15 dX3_counts_53 ?_
    refine lv_iload_n hx hb dX3_counts_54 rfl (lv_at hl 3 rfl) ?_
    obtain ⟨i16, hf⟩ := wt_chk_of hf
    refine wt_ild hx hb hK hM (wt_rH_10 wt_h1 i15) i16 dX3_counts_55 ?_
    refine lv_goto (tgt := 70) hx hb dX3_counts_56 (by decide) ?_
    exact wt_iret hx hb hr hlk hK hM hf dX3_counts_70
  refine lv_aload_n hx hb dX3_counts_27 rfl (lv_at hl 1 rfl) ?_
  refine lv_iload hx hb dX3_counts_28 (lv_at hl 0 rfl) ?_
  refine wt_callVi (As := [.int r9]) (rest := []) hx hb hml hts hown hK hM wt_rc_X3 cw_X3_61 hd_X3_refuse rfl ⟨qz_b rfl, qz_b rfl⟩ ⟨rfl, rfl⟩ hl.1 rfl (qz_b rfl) dX3_counts_30 hf (fun _ _ h9 => c_X3_refuse h9) (fun r17 s18 H locs hf hM => ?_)
  exact wt_iret hx hb hr hlk hK hM hf dX3_counts_33
end
set_option maxHeartbeats 4000000 in
set_option maxRecDepth 100000 in
theorem c_X3_counts {l : Launch} {D : va_G} {tI tII : ClassId} {B F : Nat} {x1 : Int32} {x2 : Int32} {x3 : Int32} {σ σ' : Mem} {r : Int32} (hf : f_X3_counts F x1 x2 x3 σ = some (r, σ')) : wt_Mi l yX3_counts cX3_counts 5 (some .int) rm_X3_counts [.ref (B + 0), .int x1, .int x2, .int x3] D tI tII B σ r σ' := by
  refine Met.ofW (cc := cX3_counts) (maxL := 5) (ret := (some .int)) (by decide) rfl ?_
  intro p e s m args below meth c s₁ B9 hml hv
  obtain ⟨rfl, hP, hK⟩ := hv
  have hl := lv_entry ([.ref (B + 0), .int x1, .int x2, .int x3]) (n := 5) (qz_b rfl)
  rw [lg_entry_eq]
  generalize (lg_sl ([.ref (B + 0), .int x1, .int x2, .int x3]) ++ List.replicate (5 - (lg_sl ([.ref (B + 0), .int x1, .int x2, .int x3])).length) Slot.unset).toArray = ls at hl ⊢
  exact w_X3_counts_0 (wt_C_of B9 hml hK) hf ⟨hP, va_S.rf⟩ hl
section
variable {p : Program} {l : Launch} {e : Env} {s : State} {m : MethodId} {args : Array Value} {below : List Frame} {meth : Method} {c : Code} {D : va_G} {tI tII : ClassId} {B : Nat}
set_option maxHeartbeats 4000000 in
set_option maxRecDepth 100000 in
theorem w_X3_owner_0 (C : wt_C p s m args meth c RX3 cX3_owner 4 (some .int) D tI tII) {F : Nat} {x1 : Int32} {x2 : Int32} {σ : Mem} {r : Int32} {σ' : Mem} {H : Heap} {locs : List Loc} {ls : Array Slot} (hf : f_X3_owner F x1 x2 σ = some (r, σ')) (hM : wt_St D tI tII B σ s H locs) (hl : lv_has ls 4 [(0, .ref (B + 0)), (1, .int x1), (2, .int x2)]) : W p l e rm_X3_owner s m args below meth c H locs 0 0 (MQ below (wt_Qi D tI tII B r σ') args s 0 0 (fun q => B ≤ q)) (F0 m 0 ls []) := by
  obtain ⟨hx, hb, hts, hown, hml, hr, hlk, hK⟩ := id C
  replace hf := Eq.trans f_X3_owner_e.symm hf
  refine lv_iload_n hx hb dX3_owner_0 rfl (lv_at hl 1 rfl) ?_
  refine wt_callSi (As := [.int x1]) (rest := []) hx hb hml hts hown hK hM cw_X3_174 hd_X3_noView rfl ⟨qz_b rfl, qz_b rfl⟩ ⟨rfl, rfl⟩ hl.1 rfl (qz_b rfl) dX3_owner_1 hf (fun _ _ h9 => c_X3_noView h9) (fun r1 s2 H locs hf hM => ?_)
  refine lv_iload_n hx hb dX3_owner_4 rfl (lv_at hl 2 rfl) ?_
  refine lv_iconst (v := 0) hx hb dX3_owner_5 (by decide) ?_
  refine lv_sipush (v := 999) hx hb dX3_owner_6 (by decide) ?_
  refine wt_callSi (As := [.int x2, .int (0 : Int32), .int (999 : Int32)]) (rest := [.int r1]) hx hb hml hts hown hK hM cw_X3_81 hd_X3_outside rfl ⟨qz_b rfl, qz_b rfl⟩ ⟨rfl, rfl⟩ hl.1 rfl (qz_b rfl) dX3_owner_9 hf (fun _ _ h9 => c_X3_outside h9) (fun r3 s4 H locs hf hM => ?_)
  refine wt_callSi (As := [.int r1, .int r3]) (rest := []) hx hb hml hts hown hK hM cw_X3_85 hd_X3_firstOf rfl ⟨qz_b rfl, qz_b rfl⟩ ⟨rfl, rfl⟩ hl.1 rfl (qz_b rfl) dX3_owner_12 hf (fun _ _ h9 => c_X3_firstOf h9) (fun r5 s6 H locs hf hM => ?_)
  refine lv_istore_n (lv' := [(3, .int r5), (0, .ref (B + 0)), (1, .int x1), (2, .int x2)]) hx hb dX3_owner_15 rfl hl (by decide) rfl (fun ls hl => ?_)
  refine lv_iload_n hx hb dX3_owner_16 rfl (lv_at hl 0 rfl) ?_
  refine wq_if_eq (tgt := 26) hx hb dX3_owner_17 (by decide) hf (fun hf => ?_) (fun hf => ?_)
  · refine lv_aload_n hx hb dX3_owner_26 rfl (lv_at hl 1 rfl) ?_
    refine gf_X3_house  hx hb hts hown hK hM tw_114 dX3_owner_27 ?_
    refine wt_callVv (As := []) (rest := []) hx hb hml hts hown hK hM (wt_rc_X0 wt_h1) cw_X3_141 hd_X0_reckon rfl ⟨qz_b rfl, qz_b rfl⟩ ⟨rfl, rfl⟩ hl.1 rfl (qz_b rfl) dX3_owner_30 hf (fun _ _ h9 => c_X0_reckon wt_h1 h9) (fun r7 s8 H locs hf hM => ?_)
    refine lv_aload_n hx hb dX3_owner_33 rfl (lv_at hl 1 rfl) ?_
    refine gf_X3_house  hx hb hts hown hK hM tw_114 dX3_owner_34 ?_
    refine lv_iload_n hx hb dX3_owner_37 rfl (lv_at hl 2 rfl) ?_
    refine lv_iload_n hx hb dX3_owner_38 rfl (lv_at hl 3 rfl) ?_
    refine wt_callVi (As := [.int x1, .int x2]) (rest := []) hx hb hml hts hown hK hM (wt_rc_X0 wt_h1) cw_X3_223 hd_X0_holder rfl ⟨qz_b rfl, qz_b rfl⟩ ⟨rfl, rfl⟩ hl.1 rfl (qz_b rfl) dX3_owner_39 hf (fun _ _ h9 => c_X0_holder wt_h1 h9) (fun r9 s10 H locs hf hM => ?_)
    exact wt_iret hx hb hr hlk hK hM hf dX3_owner_42
  refine lv_aload_n hx hb dX3_owner_20 rfl (lv_at hl 1 rfl) ?_
  refine lv_iload_n hx hb dX3_owner_21 rfl (lv_at hl 0 rfl) ?_
  refine wt_callVi (As := [.int r5]) (rest := []) hx hb hml hts hown hK hM wt_rc_X3 cw_X3_61 hd_X3_refuse rfl ⟨qz_b rfl, qz_b rfl⟩ ⟨rfl, rfl⟩ hl.1 rfl (qz_b rfl) dX3_owner_22 hf (fun _ _ h9 => c_X3_refuse h9) (fun r11 s12 H locs hf hM => ?_)
  exact wt_iret hx hb hr hlk hK hM hf dX3_owner_25
end
set_option maxHeartbeats 4000000 in
set_option maxRecDepth 100000 in
theorem c_X3_owner {l : Launch} {D : va_G} {tI tII : ClassId} {B F : Nat} {x1 : Int32} {x2 : Int32} {σ σ' : Mem} {r : Int32} (hf : f_X3_owner F x1 x2 σ = some (r, σ')) : wt_Mi l yX3_owner cX3_owner 4 (some .int) rm_X3_owner [.ref (B + 0), .int x1, .int x2] D tI tII B σ r σ' := by
  refine Met.ofW (cc := cX3_owner) (maxL := 4) (ret := (some .int)) (by decide) rfl ?_
  intro p e s m args below meth c s₁ B9 hml hv
  obtain ⟨rfl, hP, hK⟩ := hv
  have hl := lv_entry ([.ref (B + 0), .int x1, .int x2]) (n := 4) (qz_b rfl)
  rw [lg_entry_eq]
  generalize (lg_sl ([.ref (B + 0), .int x1, .int x2]) ++ List.replicate (4 - (lg_sl ([.ref (B + 0), .int x1, .int x2])).length) Slot.unset).toArray = ls at hl ⊢
  exact w_X3_owner_0 (wt_C_of B9 hml hK) hf ⟨hP, va_S.rf⟩ hl
section
variable {p : Program} {l : Launch} {e : Env} {s : State} {m : MethodId} {args : Array Value} {below : List Frame} {meth : Method} {c : Code} {D : va_G} {tI tII : ClassId} {B : Nat}
set_option maxHeartbeats 4000000 in
set_option maxRecDepth 100000 in
theorem w_X3_owns_0 (C : wt_C p s m args meth c RX3 cX3_owns 5 (some .int) D tI tII) {F : Nat} {x1 : Int32} {x2 : Int32} {x3 : Int32} {σ : Mem} {r : Int32} {σ' : Mem} {H : Heap} {locs : List Loc} {ls : Array Slot} (hf : f_X3_owns F x1 x2 x3 σ = some (r, σ')) (hM : wt_St D tI tII B σ s H locs) (hl : lv_has ls 5 [(0, .ref (B + 0)), (1, .int x1), (2, .int x2), (3, .int x3)]) : W p l e rm_X3_owns s m args below meth c H locs 0 0 (MQ below (wt_Qi D tI tII B r σ') args s 0 0 (fun q => B ≤ q)) (F0 m 0 ls []) := by
  obtain ⟨hx, hb, hts, hown, hml, hr, hlk, hK⟩ := id C
  replace hf := Eq.trans f_X3_owns_e.symm hf
  refine lv_aload_n hx hb dX3_owns_0 rfl (lv_at hl 0 rfl) ?_
  refine lv_iload_n hx hb dX3_owns_1 rfl (lv_at hl 1 rfl) ?_
  refine lv_iload_n hx hb dX3_owns_2 rfl (lv_at hl 2 rfl) ?_
  refine wt_callVi (As := [.int x1, .int x2]) (rest := []) hx hb hml hts hown hK hM wt_rc_X3 cw_X3_226 hd_X3_noLookerFar rfl ⟨qz_b rfl, qz_b rfl⟩ ⟨rfl, rfl⟩ hl.1 rfl (qz_b rfl) dX3_owns_3 hf (fun _ _ h9 => c_X3_noLookerFar h9) (fun r1 s2 H locs hf hM => ?_)
  refine lv_iload_n hx hb dX3_owns_6 rfl (lv_at hl 3 rfl) ?_
  refine lv_iconst (v := 2) hx hb dX3_owns_7 (by decide) ?_
  refine wt_callSi (As := [.int x3, .int (2 : Int32)]) (rest := [.int r1]) hx hb hml hts hown hK hM cw_X3_123 hd_X3_notBelow rfl ⟨qz_b rfl, qz_b rfl⟩ ⟨rfl, rfl⟩ hl.1 rfl (qz_b rfl) dX3_owns_8 hf (fun _ _ h9 => c_X3_notBelow h9) (fun r3 s4 H locs hf hM => ?_)
  refine wt_callSi (As := [.int r1, .int r3]) (rest := []) hx hb hml hts hown hK hM cw_X3_85 hd_X3_firstOf rfl ⟨qz_b rfl, qz_b rfl⟩ ⟨rfl, rfl⟩ hl.1 rfl (qz_b rfl) dX3_owns_11 hf (fun _ _ h9 => c_X3_firstOf h9) (fun r5 s6 H locs hf hM => ?_)
  refine lv_istore (lv' := [(4, .int r5), (0, .ref (B + 0)), (1, .int x1), (2, .int x2), (3, .int x3)]) hx hb dX3_owns_14 hl (by decide) rfl (fun ls hl => ?_)
  refine lv_iload hx hb dX3_owns_16 (lv_at hl 0 rfl) ?_
  refine wq_if_eq (tgt := 28) hx hb dX3_owns_18 (by decide) hf (fun hf => ?_) (fun hf => ?_)
  · refine lv_aload_n hx hb dX3_owns_28 rfl (lv_at hl 1 rfl) ?_
    refine gf_X3_house  hx hb hts hown hK hM tw_114 dX3_owns_29 ?_
    refine wt_callVv (As := []) (rest := []) hx hb hml hts hown hK hM (wt_rc_X0 wt_h1) cw_X3_141 hd_X0_reckon rfl ⟨qz_b rfl, qz_b rfl⟩ ⟨rfl, rfl⟩ hl.1 rfl (qz_b rfl) dX3_owns_32 hf (fun _ _ h9 => c_X0_reckon wt_h1 h9) (fun r7 s8 H locs hf hM => ?_)
    refine lv_iload_n hx hb dX3_owns_35 rfl (lv_at hl 4 rfl) ?_
    refine wq_if_ne (tgt := 51) hx hb dX3_owns_36 (by decide) hf (fun hf => ?_) (fun hf => ?_)
    · refine lv_aload_n hx hb dX3_owns_51 rfl (lv_at hl 1 rfl) ?_
      refine gf_X3_house  hx hb hts hown hK hM tw_114 dX3_owns_52 ?_
      refine lv_iload_n hx hb dX3_owns_55 rfl (lv_at hl 2 rfl) ?_
      refine lv_iload_n hx hb dX3_owns_56 rfl (lv_at hl 3 rfl) ?_
      refine wt_callVi (As := [.int x1, .int x2]) (rest := []) hx hb hml hts hown hK hM (wt_rc_X0 wt_h1) cw_X3_229 hd_X0_wealth rfl ⟨qz_b rfl, qz_b rfl⟩ ⟨rfl, rfl⟩ hl.1 rfl (qz_b rfl) dX3_owns_57 hf (fun _ _ h9 => c_X0_wealth wt_h1 h9) (fun r9 s10 H locs hf hM => ?_)
      exact wt_iret hx hb hr hlk hK hM hf dX3_owns_60
    refine lv_aload_n hx hb dX3_owns_39 rfl (lv_at hl 1 rfl) ?_
    refine gf_X3_house  hx hb hts hown hK hM tw_114 dX3_owns_40 ?_
    refine lv_iload_n hx hb dX3_owns_43 rfl (lv_at hl 2 rfl) ?_
    refine lv_iload_n hx hb dX3_owns_44 rfl (lv_at hl 3 rfl) ?_
    refine wt_callVi (As := [.int x1, .int x2]) (rest := []) hx hb hml hts hown hK hM (wt_rc_X0 wt_h1) cw_X3_144 hd_X0_holdings rfl ⟨qz_b rfl, qz_b rfl⟩ ⟨rfl, rfl⟩ hl.1 rfl (qz_b rfl) dX3_owns_45 hf (fun _ _ h9 => c_X0_holdings wt_h1 h9) (fun r11 s12 H locs hf hM => ?_)
    refine lv_goto (tgt := 60) hx hb dX3_owns_48 (by decide) ?_
    exact wt_iret hx hb hr hlk hK hM hf dX3_owns_60
  refine lv_aload_n hx hb dX3_owns_21 rfl (lv_at hl 1 rfl) ?_
  refine lv_iload hx hb dX3_owns_22 (lv_at hl 0 rfl) ?_
  refine wt_callVi (As := [.int r5]) (rest := []) hx hb hml hts hown hK hM wt_rc_X3 cw_X3_61 hd_X3_refuse rfl ⟨qz_b rfl, qz_b rfl⟩ ⟨rfl, rfl⟩ hl.1 rfl (qz_b rfl) dX3_owns_24 hf (fun _ _ h9 => c_X3_refuse h9) (fun r13 s14 H locs hf hM => ?_)
  exact wt_iret hx hb hr hlk hK hM hf dX3_owns_27
end
set_option maxHeartbeats 4000000 in
set_option maxRecDepth 100000 in
theorem c_X3_owns {l : Launch} {D : va_G} {tI tII : ClassId} {B F : Nat} {x1 : Int32} {x2 : Int32} {x3 : Int32} {σ σ' : Mem} {r : Int32} (hf : f_X3_owns F x1 x2 x3 σ = some (r, σ')) : wt_Mi l yX3_owns cX3_owns 5 (some .int) rm_X3_owns [.ref (B + 0), .int x1, .int x2, .int x3] D tI tII B σ r σ' := by
  refine Met.ofW (cc := cX3_owns) (maxL := 5) (ret := (some .int)) (by decide) rfl ?_
  intro p e s m args below meth c s₁ B9 hml hv
  obtain ⟨rfl, hP, hK⟩ := hv
  have hl := lv_entry ([.ref (B + 0), .int x1, .int x2, .int x3]) (n := 5) (qz_b rfl)
  rw [lg_entry_eq]
  generalize (lg_sl ([.ref (B + 0), .int x1, .int x2, .int x3]) ++ List.replicate (5 - (lg_sl ([.ref (B + 0), .int x1, .int x2, .int x3])).length) Slot.unset).toArray = ls at hl ⊢
  exact w_X3_owns_0 (wt_C_of B9 hml hK) hf ⟨hP, va_S.rf⟩ hl
section
variable {p : Program} {l : Launch} {e : Env} {s : State} {m : MethodId} {args : Array Value} {below : List Frame} {meth : Method} {c : Code} {D : va_G} {tI tII : ClassId} {B : Nat}
set_option maxHeartbeats 4000000 in
set_option maxRecDepth 100000 in
theorem w_X3_nobodys_0 (C : wt_C p s m args meth c RX3 cX3_nobodys 3 (some .int) D tI tII) {F : Nat} {x1 : Int32} {σ : Mem} {r : Int32} {σ' : Mem} {H : Heap} {locs : List Loc} {ls : Array Slot} (hf : f_X3_nobodys F x1 σ = some (r, σ')) (hM : wt_St D tI tII B σ s H locs) (hl : lv_has ls 3 [(0, .ref (B + 0)), (1, .int x1)]) : W p l e rm_X3_nobodys s m args below meth c H locs 0 0 (MQ below (wt_Qi D tI tII B r σ') args s 0 0 (fun q => B ≤ q)) (F0 m 0 ls []) := by
  obtain ⟨hx, hb, hts, hown, hml, hr, hlk, hK⟩ := id C
  replace hf := Eq.trans f_X3_nobodys_e.symm hf
  refine lv_iload_n hx hb dX3_nobodys_0 rfl (lv_at hl 1 rfl) ?_
  refine lv_iconst (v := 0) hx hb dX3_nobodys_1 (by decide) ?_
  refine lv_sipush (v := 999) hx hb dX3_nobodys_2 (by decide) ?_
  refine wt_callSi (As := [.int x1, .int (0 : Int32), .int (999 : Int32)]) (rest := []) hx hb hml hts hown hK hM cw_X3_81 hd_X3_outside rfl ⟨qz_b rfl, qz_b rfl⟩ ⟨rfl, rfl⟩ hl.1 rfl (qz_b rfl) dX3_nobodys_5 hf (fun _ _ h9 => c_X3_outside h9) (fun r1 s2 H locs hf hM => ?_)
  refine lv_istore_n (lv' := [(2, .int r1), (0, .ref (B + 0)), (1, .int x1)]) hx hb dX3_nobodys_8 rfl hl (by decide) rfl (fun ls hl => ?_)
  refine lv_iload_n hx hb dX3_nobodys_9 rfl (lv_at hl 0 rfl) ?_
  refine wq_if_eq (tgt := 19) hx hb dX3_nobodys_10 (by decide) hf (fun hf => ?_) (fun hf => ?_)
  · refine lv_aload_n hx hb dX3_nobodys_19 rfl (lv_at hl 1 rfl) ?_
    refine gf_X3_house  hx hb hts hown hK hM tw_114 dX3_nobodys_20 ?_
    refine wt_callVv (As := []) (rest := []) hx hb hml hts hown hK hM (wt_rc_X0 wt_h1) cw_X3_141 hd_X0_reckon rfl ⟨qz_b rfl, qz_b rfl⟩ ⟨rfl, rfl⟩ hl.1 rfl (qz_b rfl) dX3_nobodys_23 hf (fun _ _ h9 => c_X0_reckon wt_h1 h9) (fun r3 s4 H locs hf hM => ?_)
    refine lv_sipush (v := 255) hx hb dX3_nobodys_26 (by decide) ?_
    refine lv_aload_n hx hb dX3_nobodys_29 rfl (lv_at hl 1 rfl) ?_
    refine gf_X3_house  hx hb hts hown hK hM tw_114 dX3_nobodys_30 ?_
    refine lv_iload_n hx hb dX3_nobodys_33 rfl (lv_at hl 2 rfl) ?_
    refine wt_callVi (As := [.int x1]) (rest := [.int (255 : Int32)]) hx hb hml hts hown hK hM (wt_rc_X0 wt_h1) cw_X3_205 hd_X0_held rfl ⟨qz_b rfl, qz_b rfl⟩ ⟨rfl, rfl⟩ hl.1 rfl (qz_b rfl) dX3_nobodys_34 hf (fun _ _ h9 => c_X0_held wt_h1 h9) (fun r5 s6 H locs hf hM => ?_)
    refine lv_isub hx hb dX3_nobodys_37 ?_
    exact wt_iret hx hb hr hlk hK hM hf dX3_nobodys_38
  refine lv_aload_n hx hb dX3_nobodys_13 rfl (lv_at hl 1 rfl) ?_
  refine lv_iload_n hx hb dX3_nobodys_14 rfl (lv_at hl 0 rfl) ?_
  refine wt_callVi (As := [.int r1]) (rest := []) hx hb hml hts hown hK hM wt_rc_X3 cw_X3_61 hd_X3_refuse rfl ⟨qz_b rfl, qz_b rfl⟩ ⟨rfl, rfl⟩ hl.1 rfl (qz_b rfl) dX3_nobodys_15 hf (fun _ _ h9 => c_X3_refuse h9) (fun r7 s8 H locs hf hM => ?_)
  exact wt_iret hx hb hr hlk hK hM hf dX3_nobodys_18
end
set_option maxHeartbeats 4000000 in
set_option maxRecDepth 100000 in
theorem c_X3_nobodys {l : Launch} {D : va_G} {tI tII : ClassId} {B F : Nat} {x1 : Int32} {σ σ' : Mem} {r : Int32} (hf : f_X3_nobodys F x1 σ = some (r, σ')) : wt_Mi l yX3_nobodys cX3_nobodys 3 (some .int) rm_X3_nobodys [.ref (B + 0), .int x1] D tI tII B σ r σ' := by
  refine Met.ofW (cc := cX3_nobodys) (maxL := 3) (ret := (some .int)) (by decide) rfl ?_
  intro p e s m args below meth c s₁ B9 hml hv
  obtain ⟨rfl, hP, hK⟩ := hv
  have hl := lv_entry ([.ref (B + 0), .int x1]) (n := 3) (qz_b rfl)
  rw [lg_entry_eq]
  generalize (lg_sl ([.ref (B + 0), .int x1]) ++ List.replicate (3 - (lg_sl ([.ref (B + 0), .int x1])).length) Slot.unset).toArray = ls at hl ⊢
  exact w_X3_nobodys_0 (wt_C_of B9 hml hK) hf ⟨hP, va_S.rf⟩ hl
section
variable {p : Program} {l : Launch} {e : Env} {s : State} {m : MethodId} {args : Array Value} {below : List Frame} {meth : Method} {c : Code} {D : va_G} {tI tII : ClassId} {B : Nat}
set_option maxHeartbeats 4000000 in
set_option maxRecDepth 100000 in
theorem w_X3_from_33 (C : wt_C p s m args meth c RX3 cX3_from 5 (some .int) D tI tII) {F : Nat} {x1 : Int32} {x2 : Int32} {r : Int32} {σ' : Mem} : ∀ (N : Nat) (x4 : Int32) (σ : Mem) (H : Heap) (locs : List Loc) (ls : Array Slot), lp_X3_from_33 F x1 x2 N x4 σ = some (r, σ') → wt_St D tI tII B σ s H locs → lv_has ls 5 [(0, .ref (B + 0)), (1, .int x1), (2, .int x2), (4, .int x4)] → W p l e rm_X3_from s m args below meth c H locs 0 0 (MQ below (wt_Qi D tI tII B r σ') args s 0 0 (fun q => B ≤ q)) (F0 m 33 ls []) := by
  obtain ⟨hx, hb, hts, hown, hml, hr, hlk, hK⟩ := id C
  intro N
  induction N with
  | zero => intro x4 σ H locs ls hf; exact wt_none (show (none : Option (Int32 × Mem)) = some (r, σ') from hf)
  | succ N ih =>
    intro x4 σ H locs ls hf hM hl
    replace hf := Eq.trans lp_X3_from_33_s.symm hf
    refine lv_iload hx hb dX3_from_33 (lv_at hl 3 rfl) ?_
    refine lv_sipush (v := 999) hx hb dX3_from_35 (by decide) ?_
    refine wq_icmp_gt (tgt := 64) hx hb dX3_from_38 (by decide) hf (fun hf => ?_) (fun hf => ?_)
    · refine lv_bipush (v := -9) hx hb dX3_from_64 (by decide) ?_
      exact wt_iret hx hb hr hlk hK hM hf dX3_from_66
    refine lv_aload_n hx hb dX3_from_41 rfl (lv_at hl 0 rfl) ?_
    refine gf_X3_house  hx hb hts hown hK hM tw_114 dX3_from_42 ?_
    refine lv_iload_n hx hb dX3_from_45 rfl (lv_at hl 2 rfl) ?_
    refine lv_iload hx hb dX3_from_46 (lv_at hl 3 rfl) ?_
    refine wt_callVi (As := [.int x2, .int x4]) (rest := []) hx hb hml hts hown hK hM (wt_rc_X0 wt_h1) cw_X3_223 hd_X0_holder rfl ⟨qz_b rfl, qz_b rfl⟩ ⟨rfl, rfl⟩ hl.1 rfl (qz_b rfl) dX3_from_48 hf (fun _ _ h9 => c_X0_holder wt_h1 h9) (fun r1 s2 H locs hf hM => ?_)
    refine lv_iload_n hx hb dX3_from_51 rfl (lv_at hl 1 rfl) ?_
    refine wq_icmp_ne (tgt := 58) hx hb dX3_from_52 (by decide) hf (fun hf => ?_) (fun hf => ?_)
    · refine lv_iinc (v := (x4 + (1 : Int32))) (lv' := [(4, .int (x4 + (1 : Int32))), (0, .ref (B + 0)), (1, .int x1), (2, .int x2)]) hx hb dX3_from_58 hl (k := 3) rfl rfl (by decide) rfl (fun ls hl => ?_)
      refine lv_goto (tgt := 33) hx hb dX3_from_61 (by decide) ?_
      exact ih _ _ _ _ _ hf hM (lv_sub hl [1, 2, 3, 0] rfl)
    refine lv_iload hx hb dX3_from_55 (lv_at hl 3 rfl) ?_
    exact wt_iret hx hb hr hlk hK hM hf dX3_from_57
set_option maxHeartbeats 4000000 in
set_option maxRecDepth 100000 in
theorem w_X3_from_0 (C : wt_C p s m args meth c RX3 cX3_from 5 (some .int) D tI tII) {F : Nat} {x1 : Int32} {x2 : Int32} {σ : Mem} {r : Int32} {σ' : Mem} {H : Heap} {locs : List Loc} {ls : Array Slot} (hf : f_X3_from F x1 x2 σ = some (r, σ')) (hM : wt_St D tI tII B σ s H locs) (hl : lv_has ls 5 [(0, .ref (B + 0)), (1, .int x1), (2, .int x2)]) : W p l e rm_X3_from s m args below meth c H locs 0 0 (MQ below (wt_Qi D tI tII B r σ') args s 0 0 (fun q => B ≤ q)) (F0 m 0 ls []) := by
  obtain ⟨hx, hb, hts, hown, hml, hr, hlk, hK⟩ := id C
  replace hf := Eq.trans f_X3_from_e.symm hf
  refine lv_aload_n hx hb dX3_from_0 rfl (lv_at hl 0 rfl) ?_
  refine lv_iload_n hx hb dX3_from_1 rfl (lv_at hl 1 rfl) ?_
  refine wt_callVi (As := [.int x1]) (rest := []) hx hb hml hts hown hK hM wt_rc_X3 cw_X3_78 hd_X3_noLooker rfl ⟨qz_b rfl, qz_b rfl⟩ ⟨rfl, rfl⟩ hl.1 rfl (qz_b rfl) dX3_from_2 hf (fun _ _ h9 => c_X3_noLooker h9) (fun r3 s4 H locs hf hM => ?_)
  refine lv_iload_n hx hb dX3_from_5 rfl (lv_at hl 2 rfl) ?_
  refine wt_callSi (As := [.int x2]) (rest := [.int r3]) hx hb hml hts hown hK hM cw_X3_174 hd_X3_noView rfl ⟨qz_b rfl, qz_b rfl⟩ ⟨rfl, rfl⟩ hl.1 rfl (qz_b rfl) dX3_from_6 hf (fun _ _ h9 => c_X3_noView h9) (fun r5 s6 H locs hf hM => ?_)
  refine wt_callSi (As := [.int r3, .int r5]) (rest := []) hx hb hml hts hown hK hM cw_X3_85 hd_X3_firstOf rfl ⟨qz_b rfl, qz_b rfl⟩ ⟨rfl, rfl⟩ hl.1 rfl (qz_b rfl) dX3_from_9 hf (fun _ _ h9 => c_X3_firstOf h9) (fun r7 s8 H locs hf hM => ?_)
  refine lv_istore_n (lv' := [(3, .int r7), (0, .ref (B + 0)), (1, .int x1), (2, .int x2)]) hx hb dX3_from_12 rfl hl (by decide) rfl (fun ls hl => ?_)
  refine lv_iload_n hx hb dX3_from_13 rfl (lv_at hl 0 rfl) ?_
  refine wq_if_eq (tgt := 23) hx hb dX3_from_14 (by decide) hf (fun hf => ?_) (fun hf => ?_)
  · refine lv_aload_n hx hb dX3_from_23 rfl (lv_at hl 1 rfl) ?_
    refine gf_X3_house  hx hb hts hown hK hM tw_114 dX3_from_24 ?_
    refine wt_callVv (As := []) (rest := []) hx hb hml hts hown hK hM (wt_rc_X0 wt_h1) cw_X3_141 hd_X0_reckon rfl ⟨qz_b rfl, qz_b rfl⟩ ⟨rfl, rfl⟩ hl.1 rfl (qz_b rfl) dX3_from_27 hf (fun _ _ h9 => c_X0_reckon wt_h1 h9) (fun r9 s10 H locs hf hM => ?_)
    refine lv_iconst (v := 0) hx hb dX3_from_30 (by decide) ?_
    refine lv_istore (lv' := [(4, .int (0 : Int32)), (3, .int r7), (0, .ref (B + 0)), (1, .int x1), (2, .int x2)]) hx hb dX3_from_31 hl (by decide) rfl (fun ls hl => ?_)
    exact w_X3_from_33 C _ _ _ _ _ _ hf hM (lv_sub hl [2, 3, 4, 0] rfl)
  refine lv_aload_n hx hb dX3_from_17 rfl (lv_at hl 1 rfl) ?_
  refine lv_iload_n hx hb dX3_from_18 rfl (lv_at hl 0 rfl) ?_
  refine wt_callVi (As := [.int r7]) (rest := []) hx hb hml hts hown hK hM wt_rc_X3 cw_X3_61 hd_X3_refuse rfl ⟨qz_b rfl, qz_b rfl⟩ ⟨rfl, rfl⟩ hl.1 rfl (qz_b rfl) dX3_from_19 hf (fun _ _ h9 => c_X3_refuse h9) (fun r11 s12 H locs hf hM => ?_)
  exact wt_iret hx hb hr hlk hK hM hf dX3_from_22
end
set_option maxHeartbeats 4000000 in
set_option maxRecDepth 100000 in
theorem c_X3_from {l : Launch} {D : va_G} {tI tII : ClassId} {B F : Nat} {x1 : Int32} {x2 : Int32} {σ σ' : Mem} {r : Int32} (hf : f_X3_from F x1 x2 σ = some (r, σ')) : wt_Mi l yX3_from cX3_from 5 (some .int) rm_X3_from [.ref (B + 0), .int x1, .int x2] D tI tII B σ r σ' := by
  refine Met.ofW (cc := cX3_from) (maxL := 5) (ret := (some .int)) (by decide) rfl ?_
  intro p e s m args below meth c s₁ B9 hml hv
  obtain ⟨rfl, hP, hK⟩ := hv
  have hl := lv_entry ([.ref (B + 0), .int x1, .int x2]) (n := 5) (qz_b rfl)
  rw [lg_entry_eq]
  generalize (lg_sl ([.ref (B + 0), .int x1, .int x2]) ++ List.replicate (5 - (lg_sl ([.ref (B + 0), .int x1, .int x2])).length) Slot.unset).toArray = ls at hl ⊢
  exact w_X3_from_0 (wt_C_of B9 hml hK) hf ⟨hP, va_S.rf⟩ hl
section
variable {p : Program} {l : Launch} {e : Env} {s : State} {m : MethodId} {args : Array Value} {below : List Frame} {meth : Method} {c : Code} {D : va_G} {tI tII : ClassId} {B : Nat}
set_option maxHeartbeats 4000000 in
set_option maxRecDepth 100000 in
theorem w_X3_lost_45 (C : wt_C p s m args meth c RX3 cX3_lost 4 (some .int) D tI tII) {F : Nat} {x1 : Int32} {x2 : Int32} {r : Int32} {σ' : Mem} : ∀ (N : Nat) (x3 : Int32) (σ : Mem) (H : Heap) (locs : List Loc) (ls : Array Slot), lp_X3_lost_45 F x1 x2 N x3 σ = some (r, σ') → wt_St D tI tII B σ s H locs → lv_has ls 4 [(0, .ref (B + 0)), (1, .int x1), (2, .int x2), (3, .int x3)] → W p l e rm_X3_lost s m args below meth c H locs 0 0 (MQ below (wt_Qi D tI tII B r σ') args s 0 0 (fun q => B ≤ q)) (F0 m 45 ls []) := by
  obtain ⟨hx, hb, hts, hown, hml, hr, hlk, hK⟩ := id C
  intro N
  induction N with
  | zero => intro x3 σ H locs ls hf; exact wt_none (show (none : Option (Int32 × Mem)) = some (r, σ') from hf)
  | succ N ih =>
    intro x3 σ H locs ls hf hM hl
    replace hf := Eq.trans lp_X3_lost_45_s.symm hf
    refine lv_iload_n hx hb dX3_lost_45 rfl (lv_at hl 3 rfl) ?_
    refine lv_sipush (v := 999) hx hb dX3_lost_46 (by decide) ?_
    refine wq_icmp_gt (tgt := 73) hx hb dX3_lost_49 (by decide) hf (fun hf => ?_) (fun hf => ?_)
    · refine lv_bipush (v := -9) hx hb dX3_lost_73 (by decide) ?_
      exact wt_iret hx hb hr hlk hK hM hf dX3_lost_75
    refine lv_aload_n hx hb dX3_lost_52 rfl (lv_at hl 0 rfl) ?_
    refine gf_X3_house  hx hb hts hown hK hM tw_114 dX3_lost_53 ?_
    refine lv_iload_n hx hb dX3_lost_56 rfl (lv_at hl 1 rfl) ?_
    refine lv_iload_n hx hb dX3_lost_57 rfl (lv_at hl 3 rfl) ?_
    refine wt_callVi (As := [.int x1, .int x3]) (rest := []) hx hb hml hts hown hK hM (wt_rc_X0 wt_h1) cw_X3_223 hd_X0_holder rfl ⟨qz_b rfl, qz_b rfl⟩ ⟨rfl, rfl⟩ hl.1 rfl (qz_b rfl) dX3_lost_58 hf (fun _ _ h9 => c_X0_holder wt_h1 h9) (fun r1 s2 H locs hf hM => ?_)
    refine lv_iload_n hx hb dX3_lost_61 rfl (lv_at hl 2 rfl) ?_
    refine wq_icmp_eq (tgt := 67) hx hb dX3_lost_62 (by decide) hf (fun hf => ?_) (fun hf => ?_)
    · refine lv_iinc (v := (x3 + (1 : Int32))) (lv' := [(3, .int (x3 + (1 : Int32))), (0, .ref (B + 0)), (1, .int x1), (2, .int x2)]) hx hb dX3_lost_67 hl (k := 3) rfl rfl (by decide) rfl (fun ls hl => ?_)
      refine lv_goto (tgt := 45) hx hb dX3_lost_70 (by decide) ?_
      exact ih _ _ _ _ _ hf hM (lv_sub hl [1, 2, 3, 0] rfl)
    refine lv_iload_n hx hb dX3_lost_65 rfl (lv_at hl 3 rfl) ?_
    exact wt_iret hx hb hr hlk hK hM hf dX3_lost_66
set_option maxHeartbeats 4000000 in
set_option maxRecDepth 100000 in
theorem w_X3_lost_0 (C : wt_C p s m args meth c RX3 cX3_lost 4 (some .int) D tI tII) {F : Nat} {x1 : Int32} {σ : Mem} {r : Int32} {σ' : Mem} {H : Heap} {locs : List Loc} {ls : Array Slot} (hf : f_X3_lost F x1 σ = some (r, σ')) (hM : wt_St D tI tII B σ s H locs) (hl : lv_has ls 4 [(0, .ref (B + 0)), (1, .int x1)]) : W p l e rm_X3_lost s m args below meth c H locs 0 0 (MQ below (wt_Qi D tI tII B r σ') args s 0 0 (fun q => B ≤ q)) (F0 m 0 ls []) := by
  obtain ⟨hx, hb, hts, hown, hml, hr, hlk, hK⟩ := id C
  replace hf := Eq.trans f_X3_lost_e.symm hf
  refine lv_iload_n hx hb dX3_lost_0 rfl (lv_at hl 1 rfl) ?_
  refine wt_callSi (As := [.int x1]) (rest := []) hx hb hml hts hown hK hM cw_X3_65 hd_X0_isView rfl ⟨qz_b rfl, qz_b rfl⟩ ⟨rfl, rfl⟩ hl.1 rfl (qz_b rfl) dX3_lost_1 hf (fun _ _ h9 => c_X0_isView h9) (fun r3 s4 H locs hf hM => ?_)
  refine wq_if_ne (tgt := 13) hx hb dX3_lost_4 (by decide) hf (fun hf => ?_) (fun hf => ?_)
  · refine lv_aload_n hx hb dX3_lost_13 rfl (lv_at hl 0 rfl) ?_
    refine gf_X3_house  hx hb hts hown hK hM tw_114 dX3_lost_14 ?_
    refine wt_callVv (As := []) (rest := []) hx hb hml hts hown hK hM (wt_rc_X0 wt_h1) cw_X3_141 hd_X0_reckon rfl ⟨qz_b rfl, qz_b rfl⟩ ⟨rfl, rfl⟩ hl.1 rfl (qz_b rfl) dX3_lost_17 hf (fun _ _ h9 => c_X0_reckon wt_h1 h9) (fun r5 s6 H locs hf hM => ?_)
    refine lv_aload_n hx hb dX3_lost_20 rfl (lv_at hl 0 rfl) ?_
    refine gf_X3_house  hx hb hts hown hK hM tw_114 dX3_lost_21 ?_
    refine lv_iload_n hx hb dX3_lost_24 rfl (lv_at hl 1 rfl) ?_
    refine lv_iconst (v := 0) hx hb dX3_lost_25 (by decide) ?_
    refine wt_callVi (As := [.int x1, .int (0 : Int32)]) (rest := []) hx hb hml hts hown hK hM (wt_rc_X0 wt_h1) cw_X3_223 hd_X0_holder rfl ⟨qz_b rfl, qz_b rfl⟩ ⟨rfl, rfl⟩ hl.1 rfl (qz_b rfl) dX3_lost_26 hf (fun _ _ h9 => c_X0_holder wt_h1 h9) (fun r7 s8 H locs hf hM => ?_)
    refine lv_istore_n (lv' := [(2, .int r7), (0, .ref (B + 0)), (1, .int x1)]) hx hb dX3_lost_29 rfl hl (by decide) rfl (fun ls hl => ?_)
    refine lv_iload_n hx hb dX3_lost_30 rfl (lv_at hl 0 rfl) ?_
    refine lv_bipush (v := -9) hx hb dX3_lost_31 (by decide) ?_
    refine wq_icmp_ne (tgt := 43) hx hb dX3_lost_33 (by decide) hf (fun hf => ?_) (fun hf => ?_)
    · refine lv_iconst (v := 1) hx hb dX3_lost_43 (by decide) ?_
      refine lv_istore_n (lv' := [(3, .int (1 : Int32)), (2, .int r7), (0, .ref (B + 0)), (1, .int x1)]) hx hb dX3_lost_44 rfl hl (by decide) rfl (fun ls hl => ?_)
      exact w_X3_lost_45 C _ _ _ _ _ _ hf hM (lv_sub hl [2, 3, 1, 0] rfl)
    refine lv_aload_n hx hb dX3_lost_36 rfl (lv_at hl 1 rfl) ?_
    refine lv_bipush (v := -3) hx hb dX3_lost_37 (by decide) ?_
    refine wt_callVi (As := [.int (-3 : Int32)]) (rest := []) hx hb hml hts hown hK hM wt_rc_X3 cw_X3_61 hd_X3_refuse rfl ⟨qz_b rfl, qz_b rfl⟩ ⟨rfl, rfl⟩ hl.1 rfl (qz_b rfl) dX3_lost_39 hf (fun _ _ h9 => c_X3_refuse h9) (fun r9 s10 H locs hf hM => ?_)
    exact wt_iret hx hb hr hlk hK hM hf dX3_lost_42
  refine lv_aload_n hx hb dX3_lost_7 rfl (lv_at hl 0 rfl) ?_
  refine lv_iconst (v := -1) hx hb dX3_lost_8 (by decide) ?_
  refine wt_callVi (As := [.int (-1 : Int32)]) (rest := []) hx hb hml hts hown hK hM wt_rc_X3 cw_X3_61 hd_X3_refuse rfl ⟨qz_b rfl, qz_b rfl⟩ ⟨rfl, rfl⟩ hl.1 rfl (qz_b rfl) dX3_lost_9 hf (fun _ _ h9 => c_X3_refuse h9) (fun r11 s12 H locs hf hM => ?_)
  exact wt_iret hx hb hr hlk hK hM hf dX3_lost_12
end
set_option maxHeartbeats 4000000 in
set_option maxRecDepth 100000 in
theorem c_X3_lost {l : Launch} {D : va_G} {tI tII : ClassId} {B F : Nat} {x1 : Int32} {σ σ' : Mem} {r : Int32} (hf : f_X3_lost F x1 σ = some (r, σ')) : wt_Mi l yX3_lost cX3_lost 4 (some .int) rm_X3_lost [.ref (B + 0), .int x1] D tI tII B σ r σ' := by
  refine Met.ofW (cc := cX3_lost) (maxL := 4) (ret := (some .int)) (by decide) rfl ?_
  intro p e s m args below meth c s₁ B9 hml hv
  obtain ⟨rfl, hP, hK⟩ := hv
  have hl := lv_entry ([.ref (B + 0), .int x1]) (n := 4) (qz_b rfl)
  rw [lg_entry_eq]
  generalize (lg_sl ([.ref (B + 0), .int x1]) ++ List.replicate (4 - (lg_sl ([.ref (B + 0), .int x1])).length) Slot.unset).toArray = ls at hl ⊢
  exact w_X3_lost_0 (wt_C_of B9 hml hK) hf ⟨hP, va_S.rf⟩ hl
section
variable {p : Program} {l : Launch} {e : Env} {s : State} {m : MethodId} {args : Array Value} {below : List Frame} {meth : Method} {c : Code} {D : va_G} {tI tII : ClassId} {B : Nat}
set_option maxHeartbeats 4000000 in
set_option maxRecDepth 100000 in
theorem w_X3_richest_55 (C : wt_C p s m args meth c RX3 cX3_richest 5 (some .int) D tI tII) {F : Nat} {x4 : Int32} {σ : Mem} {r : Int32} {σ' : Mem} {H : Heap} {locs : List Loc} {ls : Array Slot} (hf : j_X3_richest_55 F x4 σ = some (r, σ')) (hM : wt_St D tI tII B σ s H locs) (hl : lv_has ls 5 [(4, .int x4)]) : W p l e rm_X3_richest s m args below meth c H locs 0 0 (MQ below (wt_Qi D tI tII B r σ') args s 0 0 (fun q => B ≤ q)) (F0 m 55 ls []) := by
  obtain ⟨hx, hb, hts, hown, hml, hr, hlk, hK⟩ := id C
  replace hf := Eq.trans j_X3_richest_55_e.symm hf
  refine lv_iload hx hb dX3_richest_55 (lv_at hl 0 rfl) ?_
  refine lv_goto (tgt := 70) hx hb dX3_richest_57 (by decide) ?_
  exact wt_iret hx hb hr hlk hK hM hf dX3_richest_70
set_option maxHeartbeats 4000000 in
set_option maxRecDepth 100000 in
theorem w_X3_richest_0 (C : wt_C p s m args meth c RX3 cX3_richest 5 (some .int) D tI tII) {F : Nat} {x1 : Int32} {x2 : Int32} {σ : Mem} {r : Int32} {σ' : Mem} {H : Heap} {locs : List Loc} {ls : Array Slot} (hf : f_X3_richest F x1 x2 σ = some (r, σ')) (hM : wt_St D tI tII B σ s H locs) (hl : lv_has ls 5 [(0, .ref (B + 0)), (1, .int x1), (2, .int x2)]) : W p l e rm_X3_richest s m args below meth c H locs 0 0 (MQ below (wt_Qi D tI tII B r σ') args s 0 0 (fun q => B ≤ q)) (F0 m 0 ls []) := by
  obtain ⟨hx, hb, hts, hown, hml, hr, hlk, hK⟩ := id C
  replace hf := Eq.trans f_X3_richest_e.symm hf
  refine lv_iload_n hx hb dX3_richest_0 rfl (lv_at hl 1 rfl) ?_
  refine lv_iconst (v := 0) hx hb dX3_richest_1 (by decide) ?_
  refine lv_sipush (v := 999) hx hb dX3_richest_2 (by decide) ?_
  refine wt_callSi (As := [.int x1, .int (0 : Int32), .int (999 : Int32)]) (rest := []) hx hb hml hts hown hK hM cw_X3_81 hd_X3_outside rfl ⟨qz_b rfl, qz_b rfl⟩ ⟨rfl, rfl⟩ hl.1 rfl (qz_b rfl) dX3_richest_5 hf (fun _ _ h9 => c_X3_outside h9) (fun r1 s2 H locs hf hM => ?_)
  refine lv_iload_n hx hb dX3_richest_8 rfl (lv_at hl 2 rfl) ?_
  refine lv_iconst (v := 2) hx hb dX3_richest_9 (by decide) ?_
  refine wt_callSi (As := [.int x2, .int (2 : Int32)]) (rest := [.int r1]) hx hb hml hts hown hK hM cw_X3_123 hd_X3_notBelow rfl ⟨qz_b rfl, qz_b rfl⟩ ⟨rfl, rfl⟩ hl.1 rfl (qz_b rfl) dX3_richest_10 hf (fun _ _ h9 => c_X3_notBelow h9) (fun r3 s4 H locs hf hM => ?_)
  refine wt_callSi (As := [.int r1, .int r3]) (rest := []) hx hb hml hts hown hK hM cw_X3_85 hd_X3_firstOf rfl ⟨qz_b rfl, qz_b rfl⟩ ⟨rfl, rfl⟩ hl.1 rfl (qz_b rfl) dX3_richest_13 hf (fun _ _ h9 => c_X3_firstOf h9) (fun r5 s6 H locs hf hM => ?_)
  refine lv_istore_n (lv' := [(3, .int r5), (0, .ref (B + 0)), (1, .int x1), (2, .int x2)]) hx hb dX3_richest_16 rfl hl (by decide) rfl (fun ls hl => ?_)
  refine lv_iload_n hx hb dX3_richest_17 rfl (lv_at hl 0 rfl) ?_
  refine wq_if_eq (tgt := 27) hx hb dX3_richest_18 (by decide) hf (fun hf => ?_) (fun hf => ?_)
  · refine lv_aload_n hx hb dX3_richest_27 rfl (lv_at hl 1 rfl) ?_
    refine gf_X3_house  hx hb hts hown hK hM tw_114 dX3_richest_28 ?_
    refine wt_callVv (As := []) (rest := []) hx hb hml hts hown hK hM (wt_rc_X0 wt_h1) cw_X3_141 hd_X0_reckon rfl ⟨qz_b rfl, qz_b rfl⟩ ⟨rfl, rfl⟩ hl.1 rfl (qz_b rfl) dX3_richest_31 hf (fun _ _ h9 => c_X0_reckon wt_h1 h9) (fun r7 s8 H locs hf hM => ?_)
    refine lv_aload_n hx hb dX3_richest_34 rfl (lv_at hl 1 rfl) ?_
    refine gf_X3_house  hx hb hts hown hK hM tw_114 dX3_richest_35 ?_
    refine lv_iload_n hx hb dX3_richest_38 rfl (lv_at hl 2 rfl) ?_
    refine wt_callVi (As := [.int x1]) (rest := []) hx hb hml hts hown hK hM (wt_rc_X0 wt_h1) cw_X3_232 hd_X0_wealthiest rfl ⟨qz_b rfl, qz_b rfl⟩ ⟨rfl, rfl⟩ hl.1 rfl (qz_b rfl) dX3_richest_39 hf (fun _ _ h9 => c_X0_wealthiest wt_h1 h9) (fun r9 s10 H locs hf hM => ?_)
    refine lv_istore (lv' := [(4, .int r9), (3, .int r5), (0, .ref (B + 0)), (1, .int x1), (2, .int x2)]) hx hb dX3_richest_42 hl (by decide) rfl (fun ls hl => ?_)
    refine lv_iload_n hx hb dX3_richest_44 rfl (lv_at hl 4 rfl) ?_
    refine wq_if_eq (tgt := 55) hx hb dX3_richest_45 (by decide) hf (fun hf => ?_) (fun hf => ?_)
    · exact w_X3_richest_55 C hf hM (lv_sub hl [0] rfl)
    refine lv_iload hx hb dX3_richest_48 (lv_at hl 0 rfl) ?_
    refine lv_bipush (v := -9) hx hb dX3_richest_50 (by decide) ?_
    refine wq_icmp_ne (tgt := 60) hx hb dX3_richest_52 (by decide) hf (fun hf => ?_) (fun hf => ?_)
    · refine lv_aload_n hx hb dX3_richest_60 rfl (lv_at hl 2 rfl) ?_
      refine gf_X3_house  hx hb hts hown hK hM tw_114 dX3_richest_61 ?_
      refine lv_iload hx hb dX3_richest_64 (lv_at hl 0 rfl) ?_
      refine lv_iload_n hx hb dX3_richest_66 rfl (lv_at hl 3 rfl) ?_
      refine wt_callVi (As := [.int r9, .int x1]) (rest := []) hx hb hml hts hown hK hM (wt_rc_X0 wt_h1) cw_X3_229 hd_X0_wealth rfl ⟨qz_b rfl, qz_b rfl⟩ ⟨rfl, rfl⟩ hl.1 rfl (qz_b rfl) dX3_richest_67 hf (fun _ _ h9 => c_X0_wealth wt_h1 h9) (fun r11 s12 H locs hf hM => ?_)
      exact wt_iret hx hb hr hlk hK hM hf dX3_richest_70
    exact w_X3_richest_55 C hf hM (lv_sub hl [0] rfl)
  refine lv_aload_n hx hb dX3_richest_21 rfl (lv_at hl 1 rfl) ?_
  refine lv_iload_n hx hb dX3_richest_22 rfl (lv_at hl 0 rfl) ?_
  refine wt_callVi (As := [.int r5]) (rest := []) hx hb hml hts hown hK hM wt_rc_X3 cw_X3_61 hd_X3_refuse rfl ⟨qz_b rfl, qz_b rfl⟩ ⟨rfl, rfl⟩ hl.1 rfl (qz_b rfl) dX3_richest_23 hf (fun _ _ h9 => c_X3_refuse h9) (fun r13 s14 H locs hf hM => ?_)
  exact wt_iret hx hb hr hlk hK hM hf dX3_richest_26
end
set_option maxHeartbeats 4000000 in
set_option maxRecDepth 100000 in
theorem c_X3_richest {l : Launch} {D : va_G} {tI tII : ClassId} {B F : Nat} {x1 : Int32} {x2 : Int32} {σ σ' : Mem} {r : Int32} (hf : f_X3_richest F x1 x2 σ = some (r, σ')) : wt_Mi l yX3_richest cX3_richest 5 (some .int) rm_X3_richest [.ref (B + 0), .int x1, .int x2] D tI tII B σ r σ' := by
  refine Met.ofW (cc := cX3_richest) (maxL := 5) (ret := (some .int)) (by decide) rfl ?_
  intro p e s m args below meth c s₁ B9 hml hv
  obtain ⟨rfl, hP, hK⟩ := hv
  have hl := lv_entry ([.ref (B + 0), .int x1, .int x2]) (n := 5) (qz_b rfl)
  rw [lg_entry_eq]
  generalize (lg_sl ([.ref (B + 0), .int x1, .int x2]) ++ List.replicate (5 - (lg_sl ([.ref (B + 0), .int x1, .int x2])).length) Slot.unset).toArray = ls at hl ⊢
  exact w_X3_richest_0 (wt_C_of B9 hml hK) hf ⟨hP, va_S.rf⟩ hl
section
variable {p : Program} {l : Launch} {e : Env} {s : State} {m : MethodId} {args : Array Value} {below : List Frame} {meth : Method} {c : Code} {D : va_G} {tI tII : ClassId} {B : Nat}
set_option maxHeartbeats 4000000 in
set_option maxRecDepth 100000 in
theorem w_X3_staredOut_0 (C : wt_C p s m args meth c RX3 cX3_staredOut 5 (some .int) D tI tII) {F : Nat} {x1 : Int32} {x2 : Int32} {x3 : Int32} {σ : Mem} {r : Int32} {σ' : Mem} {H : Heap} {locs : List Loc} {ls : Array Slot} (hf : f_X3_staredOut F x1 x2 x3 σ = some (r, σ')) (hM : wt_St D tI tII B σ s H locs) (hl : lv_has ls 5 [(0, .ref (B + 0)), (1, .int x1), (2, .int x2), (3, .int x3)]) : W p l e rm_X3_staredOut s m args below meth c H locs 0 0 (MQ below (wt_Qi D tI tII B r σ') args s 0 0 (fun q => B ≤ q)) (F0 m 0 ls []) := by
  obtain ⟨hx, hb, hts, hown, hml, hr, hlk, hK⟩ := id C
  replace hf := Eq.trans f_X3_staredOut_e.symm hf
  refine lv_aload_n hx hb dX3_staredOut_0 rfl (lv_at hl 0 rfl) ?_
  refine lv_iload_n hx hb dX3_staredOut_1 rfl (lv_at hl 1 rfl) ?_
  refine lv_iload_n hx hb dX3_staredOut_2 rfl (lv_at hl 2 rfl) ?_
  refine lv_iload_n hx hb dX3_staredOut_3 rfl (lv_at hl 3 rfl) ?_
  refine wt_callVi (As := [.int x1, .int x2, .int x3]) (rest := []) hx hb hml hts hown hK hM wt_rc_X3 cw_X3_235 hd_X3_noPairFar rfl ⟨qz_b rfl, qz_b rfl⟩ ⟨rfl, rfl⟩ hl.1 rfl (qz_b rfl) dX3_staredOut_4 hf (fun _ _ h9 => c_X3_noPairFar h9) (fun r1 s2 H locs hf hM => ?_)
  refine lv_istore (lv' := [(4, .int r1), (0, .ref (B + 0)), (1, .int x1), (2, .int x2), (3, .int x3)]) hx hb dX3_staredOut_7 hl (by decide) rfl (fun ls hl => ?_)
  refine lv_iload hx hb dX3_staredOut_9 (lv_at hl 0 rfl) ?_
  refine wq_if_eq (tgt := 21) hx hb dX3_staredOut_11 (by decide) hf (fun hf => ?_) (fun hf => ?_)
  · refine lv_aload_n hx hb dX3_staredOut_21 rfl (lv_at hl 1 rfl) ?_
    refine gf_X3_house  hx hb hts hown hK hM tw_114 dX3_staredOut_22 ?_
    refine wt_callVv (As := []) (rest := []) hx hb hml hts hown hK hM (wt_rc_X0 wt_h1) cw_X3_141 hd_X0_reckon rfl ⟨qz_b rfl, qz_b rfl⟩ ⟨rfl, rfl⟩ hl.1 rfl (qz_b rfl) dX3_staredOut_25 hf (fun _ _ h9 => c_X0_reckon wt_h1 h9) (fun r3 s4 H locs hf hM => ?_)
    refine lv_aload_n hx hb dX3_staredOut_28 rfl (lv_at hl 1 rfl) ?_
    refine gf_X3_house  hx hb hts hown hK hM tw_114 dX3_staredOut_29 ?_
    refine lv_iload_n hx hb dX3_staredOut_32 rfl (lv_at hl 2 rfl) ?_
    refine lv_iconst (v := 0) hx hb dX3_staredOut_33 (by decide) ?_
    refine wt_callVi (As := [.int x1, .int (0 : Int32)]) (rest := []) hx hb hml hts hown hK hM (wt_rc_X0 wt_h1) cw_X3_144 hd_X0_holdings rfl ⟨qz_b rfl, qz_b rfl⟩ ⟨rfl, rfl⟩ hl.1 rfl (qz_b rfl) dX3_staredOut_34 hf (fun _ _ h9 => c_X0_holdings wt_h1 h9) (fun r5 s6 H locs hf hM => ?_)
    refine lv_aload_n hx hb dX3_staredOut_37 rfl (lv_at hl 1 rfl) ?_
    refine gf_X3_house  hx hb hts hown hK hM tw_114 dX3_staredOut_38 ?_
    refine lv_iload_n hx hb dX3_staredOut_41 rfl (lv_at hl 3 rfl) ?_
    refine lv_iload_n hx hb dX3_staredOut_42 rfl (lv_at hl 4 rfl) ?_
    refine wt_callVi (As := [.int x2, .int x3]) (rest := [.int r5]) hx hb hml hts hown hK hM (wt_rc_X0 wt_h1) cw_X3_144 hd_X0_holdings rfl ⟨qz_b rfl, qz_b rfl⟩ ⟨rfl, rfl⟩ hl.1 rfl (qz_b rfl) dX3_staredOut_43 hf (fun _ _ h9 => c_X0_holdings wt_h1 h9) (fun r7 s8 H locs hf hM => ?_)
    refine lv_iand hx hb dX3_staredOut_46 ?_
    exact wt_iret hx hb hr hlk hK hM hf dX3_staredOut_47
  refine lv_aload_n hx hb dX3_staredOut_14 rfl (lv_at hl 1 rfl) ?_
  refine lv_iload hx hb dX3_staredOut_15 (lv_at hl 0 rfl) ?_
  refine wt_callVi (As := [.int r1]) (rest := []) hx hb hml hts hown hK hM wt_rc_X3 cw_X3_61 hd_X3_refuse rfl ⟨qz_b rfl, qz_b rfl⟩ ⟨rfl, rfl⟩ hl.1 rfl (qz_b rfl) dX3_staredOut_17 hf (fun _ _ h9 => c_X3_refuse h9) (fun r9 s10 H locs hf hM => ?_)
  exact wt_iret hx hb hr hlk hK hM hf dX3_staredOut_20
end
set_option maxHeartbeats 4000000 in
set_option maxRecDepth 100000 in
theorem c_X3_staredOut {l : Launch} {D : va_G} {tI tII : ClassId} {B F : Nat} {x1 : Int32} {x2 : Int32} {x3 : Int32} {σ σ' : Mem} {r : Int32} (hf : f_X3_staredOut F x1 x2 x3 σ = some (r, σ')) : wt_Mi l yX3_staredOut cX3_staredOut 5 (some .int) rm_X3_staredOut [.ref (B + 0), .int x1, .int x2, .int x3] D tI tII B σ r σ' := by
  refine Met.ofW (cc := cX3_staredOut) (maxL := 5) (ret := (some .int)) (by decide) rfl ?_
  intro p e s m args below meth c s₁ B9 hml hv
  obtain ⟨rfl, hP, hK⟩ := hv
  have hl := lv_entry ([.ref (B + 0), .int x1, .int x2, .int x3]) (n := 5) (qz_b rfl)
  rw [lg_entry_eq]
  generalize (lg_sl ([.ref (B + 0), .int x1, .int x2, .int x3]) ++ List.replicate (5 - (lg_sl ([.ref (B + 0), .int x1, .int x2, .int x3])).length) Slot.unset).toArray = ls at hl ⊢
  exact w_X3_staredOut_0 (wt_C_of B9 hml hK) hf ⟨hP, va_S.rf⟩ hl
section
variable {p : Program} {l : Launch} {e : Env} {s : State} {m : MethodId} {args : Array Value} {below : List Frame} {meth : Method} {c : Code} {D : va_G} {tI tII : ClassId} {B : Nat}
set_option maxHeartbeats 4000000 in
set_option maxRecDepth 100000 in
theorem w_X3_hoursUntilOwned_107 (C : wt_C p s m args meth c RX3 cX3_hoursUntilOwned 7 (some .int) D tI tII) {F : Nat} {k25 : Int32 → Int32 → Mem → Option (Int32 × Mem)} {k33 : Int32 → Int32 → Mem → Option (Int32 × Mem)} {x1 : Int32} {x2 : Int32} {x3 : Int32} {x4 : Int32} {x5 : Int32} {x6 : Int32} {σ : Mem} {r : Int32} {σ' : Mem} {H : Heap} {locs : List Loc} {ls : Array Slot} (hk25 : ∀ (x4 : Int32) (x5 : Int32) (σ : Mem) (H : Heap) (locs : List Loc) (ls : Array Slot), k25 x4 x5 σ = some (r, σ') → wt_St D tI tII B σ s H locs → lv_has ls 7 [(0, .ref (B + 0)), (1, .int x1), (2, .int x2), (3, .int x3), (4, .int x4), (5, .int x5)] → W p l e rm_X3_hoursUntilOwned s m args below meth c H locs 0 0 (MQ below (wt_Qi D tI tII B r σ') args s 0 0 (fun q => B ≤ q)) (F0 m 25 ls [])) (hk33 : ∀ (x4 : Int32) (x6 : Int32) (σ : Mem) (H : Heap) (locs : List Loc) (ls : Array Slot), k33 x4 x6 σ = some (r, σ') → wt_St D tI tII B σ s H locs → lv_has ls 7 [(0, .ref (B + 0)), (1, .int x1), (2, .int x2), (3, .int x3), (4, .int x4), (5, .int x5), (6, .int x6)] → W p l e rm_X3_hoursUntilOwned s m args below meth c H locs 0 0 (MQ below (wt_Qi D tI tII B r σ') args s 0 0 (fun q => B ≤ q)) (F0 m 33 ls [])) (hf : j_X3_hoursUntilOwned_107 F k25 k33 x1 x2 x3 x4 x5 x6 σ = some (r, σ')) (hM : wt_St D tI tII B σ s H locs) (hl : lv_has ls 7 [(0, .ref (B + 0)), (1, .int x1), (2, .int x2), (3, .int x3), (4, .int x4), (5, .int x5), (6, .int x6)]) : W p l e rm_X3_hoursUntilOwned s m args below meth c H locs 0 0 (MQ below (wt_Qi D tI tII B r σ') args s 0 0 (fun q => B ≤ q)) (F0 m 107 ls []) := by
  obtain ⟨hx, hb, hts, hown, hml, hr, hlk, hK⟩ := id C
  replace hf := Eq.trans j_X3_hoursUntilOwned_107_e.symm hf
  refine lv_iinc (v := (x6 + (1 : Int32))) (lv' := [(6, .int (x6 + (1 : Int32))), (0, .ref (B + 0)), (1, .int x1), (2, .int x2), (3, .int x3), (4, .int x4), (5, .int x5)]) hx hb dX3_hoursUntilOwned_107 hl (k := 6) rfl rfl (by decide) rfl (fun ls hl => ?_)
  refine lv_goto (tgt := 33) hx hb dX3_hoursUntilOwned_110 (by decide) ?_
  exact hk33 _ _ _ _ _ _ hf hM (lv_sub hl [1, 2, 3, 4, 5, 6, 0] rfl)
set_option maxHeartbeats 4000000 in
set_option maxRecDepth 100000 in
theorem w_X3_hoursUntilOwned_33 (C : wt_C p s m args meth c RX3 cX3_hoursUntilOwned 7 (some .int) D tI tII) {F : Nat} {k25 : Int32 → Int32 → Mem → Option (Int32 × Mem)} {x1 : Int32} {x2 : Int32} {x3 : Int32} {x5 : Int32} {r : Int32} {σ' : Mem} (hk25 : ∀ (x4 : Int32) (x5 : Int32) (σ : Mem) (H : Heap) (locs : List Loc) (ls : Array Slot), k25 x4 x5 σ = some (r, σ') → wt_St D tI tII B σ s H locs → lv_has ls 7 [(0, .ref (B + 0)), (1, .int x1), (2, .int x2), (3, .int x3), (4, .int x4), (5, .int x5)] → W p l e rm_X3_hoursUntilOwned s m args below meth c H locs 0 0 (MQ below (wt_Qi D tI tII B r σ') args s 0 0 (fun q => B ≤ q)) (F0 m 25 ls [])) : ∀ (N : Nat) (x4 : Int32) (x6 : Int32) (σ : Mem) (H : Heap) (locs : List Loc) (ls : Array Slot), lp_X3_hoursUntilOwned_33 F k25 x1 x2 x3 x5 N x4 x6 σ = some (r, σ') → wt_St D tI tII B σ s H locs → lv_has ls 7 [(0, .ref (B + 0)), (1, .int x1), (2, .int x2), (3, .int x3), (4, .int x4), (5, .int x5), (6, .int x6)] → W p l e rm_X3_hoursUntilOwned s m args below meth c H locs 0 0 (MQ below (wt_Qi D tI tII B r σ') args s 0 0 (fun q => B ≤ q)) (F0 m 33 ls []) := by
  obtain ⟨hx, hb, hts, hown, hml, hr, hlk, hK⟩ := id C
  intro N
  induction N with
  | zero => intro x4 x6 σ H locs ls hf; exact wt_none (show (none : Option (Int32 × Mem)) = some (r, σ') from hf)
  | succ N ih =>
    intro x4 x6 σ H locs ls hf hM hl
    replace hf := Eq.trans lp_X3_hoursUntilOwned_33_s.symm hf
    refine lv_iload hx hb dX3_hoursUntilOwned_33 (lv_at hl 6 rfl) ?_
    refine lv_bipush (v := 24) hx hb dX3_hoursUntilOwned_35 (by decide) ?_
    refine wq_icmp_ge (tgt := 113) hx hb dX3_hoursUntilOwned_37 (by decide) hf (fun hf => ?_) (fun hf => ?_)
    · refine lv_iinc (v := (x5 + (-1 : Int32))) (lv' := [(5, .int (x5 + (-1 : Int32))), (0, .ref (B + 0)), (1, .int x1), (2, .int x2), (3, .int x3), (4, .int x4), (6, .int x6)]) hx hb dX3_hoursUntilOwned_113 hl (k := 5) rfl rfl (by decide) rfl (fun ls hl => ?_)
      refine lv_goto (tgt := 25) hx hb dX3_hoursUntilOwned_116 (by decide) ?_
      exact hk25 _ _ _ _ _ _ hf hM (lv_sub hl [1, 2, 3, 4, 5, 0] rfl)
    refine lv_aload_n hx hb dX3_hoursUntilOwned_40 rfl (lv_at hl 0 rfl) ?_
    refine gf_X3_house  hx hb hts hown hK hM tw_114 dX3_hoursUntilOwned_41 ?_
    refine gf_X0_rosters wt_h1 hx hb hts hown hK hM tw_37 dX3_hoursUntilOwned_44 ?_
    refine lv_iload_n hx hb dX3_hoursUntilOwned_47 rfl (lv_at hl 1 rfl) ?_
    obtain ⟨i1, hf⟩ := wt_chk_of hf
    refine wt_ald hx hb hK hM (wt_aaH_4 wt_h1) i1 dX3_hoursUntilOwned_48 ?_
    refine lv_iload hx hb dX3_hoursUntilOwned_49 (lv_at hl 6 rfl) ?_
    obtain ⟨i2, hf⟩ := wt_chk_of hf
    refine wt_ild hx hb hK hM (wt_rH_4 wt_h1 i1) i2 dX3_hoursUntilOwned_51 ?_
    refine lv_bipush (v := 9) hx hb dX3_hoursUntilOwned_52 (by decide) ?_
    refine wq_icmp_ne (tgt := 107) hx hb dX3_hoursUntilOwned_54 (by decide) hf (fun hf => ?_) (fun hf => ?_)
    · exact w_X3_hoursUntilOwned_107 C hk25 ih hf hM hl
    refine lv_aload_n hx hb dX3_hoursUntilOwned_57 rfl (lv_at hl 0 rfl) ?_
    refine gf_X3_house  hx hb hts hown hK hM tw_114 dX3_hoursUntilOwned_58 ?_
    refine lv_iload_n hx hb dX3_hoursUntilOwned_61 rfl (lv_at hl 1 rfl) ?_
    refine lv_iload hx hb dX3_hoursUntilOwned_62 (lv_at hl 6 rfl) ?_
    refine wt_callVi (As := [.int x1, .int x6]) (rest := []) hx hb hml hts hown hK hM (wt_rc_X0 wt_h1) cw_X3_244 hd_X0_pull rfl ⟨qz_b rfl, qz_b rfl⟩ ⟨rfl, rfl⟩ hl.1 rfl (qz_b rfl) dX3_hoursUntilOwned_64 hf (fun _ _ h9 => c_X0_pull wt_h1 h9) (fun r3 s4 H locs hf hM => ?_)
    refine lv_iload hx hb dX3_hoursUntilOwned_67 (lv_at hl 5 rfl) ?_
    refine wq_icmp_ne (tgt := 107) hx hb dX3_hoursUntilOwned_69 (by decide) hf (fun hf => ?_) (fun hf => ?_)
    · exact w_X3_hoursUntilOwned_107 C hk25 ih hf hM hl
    refine lv_aload_n hx hb dX3_hoursUntilOwned_72 rfl (lv_at hl 0 rfl) ?_
    refine gf_X3_mind  hx hb hts hown hK hM tw_115 dX3_hoursUntilOwned_73 ?_
    refine gf_X0_gains wt_h24 hx hb hts hown hK hM tw_47 dX3_hoursUntilOwned_76 ?_
    refine lv_iload_n hx hb dX3_hoursUntilOwned_79 rfl (lv_at hl 1 rfl) ?_
    refine wt_ald hx hb hK hM (wt_aaH_17 wt_h24) i1 dX3_hoursUntilOwned_80 ?_
    refine lv_iload_n hx hb dX3_hoursUntilOwned_81 rfl (lv_at hl 2 rfl) ?_
    refine lv_dup2_11 hx hb dX3_hoursUntilOwned_82 rfl rfl ?_
    obtain ⟨i5, hf⟩ := wt_chk_of hf
    refine wt_ild hx hb hK hM (wt_rH_17 wt_h24 i1) i5 dX3_hoursUntilOwned_83 ?_
    refine lv_iload hx hb dX3_hoursUntilOwned_84 (lv_at hl 5 rfl) ?_
    refine lv_iadd hx hb dX3_hoursUntilOwned_86 ?_
    refine wt_ist hx hb hK hM (wt_rH_17 wt_h24 i1) i5 dX3_hoursUntilOwned_87 hf (fun s6 H locs hf hM => ?_)
    refine lv_iinc (v := (x4 + (1 : Int32))) (lv' := [(4, .int (x4 + (1 : Int32))), (0, .ref (B + 0)), (1, .int x1), (2, .int x2), (3, .int x3), (5, .int x5), (6, .int x6)]) hx hb dX3_hoursUntilOwned_88 hl (k := 4) rfl rfl (by decide) rfl (fun ls hl => ?_)
    refine lv_aload_n hx hb dX3_hoursUntilOwned_91 rfl (lv_at hl 1 rfl) ?_
    refine gf_X3_mind  hx hb hts hown hK hM tw_115 dX3_hoursUntilOwned_92 ?_
    refine lv_iload_n hx hb dX3_hoursUntilOwned_95 rfl (lv_at hl 3 rfl) ?_
    refine lv_iload_n hx hb dX3_hoursUntilOwned_96 rfl (lv_at hl 4 rfl) ?_
    refine wt_callVi (As := [.int x2, .int x3]) (rest := []) hx hb hml hts hown hK hM (wt_rc_X0 wt_h24) cw_X3_223 hd_X0_holder rfl ⟨qz_b rfl, qz_b rfl⟩ ⟨rfl, rfl⟩ hl.1 rfl (qz_b rfl) dX3_hoursUntilOwned_97 hf (fun _ _ h9 => c_X0_holder wt_h24 h9) (fun r7 s8 H locs hf hM => ?_)
    refine lv_iload_n hx hb dX3_hoursUntilOwned_100 rfl (lv_at hl 2 rfl) ?_
    refine wq_icmp_ne (tgt := 107) hx hb dX3_hoursUntilOwned_101 (by decide) hf (fun hf => ?_) (fun hf => ?_)
    · exact w_X3_hoursUntilOwned_107 C hk25 ih hf hM (lv_sub hl [1, 2, 3, 4, 0, 5, 6] rfl)
    refine lv_iload hx hb dX3_hoursUntilOwned_104 (lv_at hl 0 rfl) ?_
    exact wt_iret hx hb hr hlk hK hM hf dX3_hoursUntilOwned_106
set_option maxHeartbeats 4000000 in
set_option maxRecDepth 100000 in
theorem w_X3_hoursUntilOwned_25 (C : wt_C p s m args meth c RX3 cX3_hoursUntilOwned 7 (some .int) D tI tII) {F : Nat} {x1 : Int32} {x2 : Int32} {x3 : Int32} {r : Int32} {σ' : Mem} : ∀ (N : Nat) (x4 : Int32) (x5 : Int32) (σ : Mem) (H : Heap) (locs : List Loc) (ls : Array Slot), lp_X3_hoursUntilOwned_25 F x1 x2 x3 N x4 x5 σ = some (r, σ') → wt_St D tI tII B σ s H locs → lv_has ls 7 [(0, .ref (B + 0)), (1, .int x1), (2, .int x2), (3, .int x3), (4, .int x4), (5, .int x5)] → W p l e rm_X3_hoursUntilOwned s m args below meth c H locs 0 0 (MQ below (wt_Qi D tI tII B r σ') args s 0 0 (fun q => B ≤ q)) (F0 m 25 ls []) := by
  obtain ⟨hx, hb, hts, hown, hml, hr, hlk, hK⟩ := id C
  intro N
  induction N with
  | zero => intro x4 x5 σ H locs ls hf; exact wt_none (show (none : Option (Int32 × Mem)) = some (r, σ') from hf)
  | succ N ih =>
    intro x4 x5 σ H locs ls hf hM hl
    replace hf := Eq.trans lp_X3_hoursUntilOwned_25_s.symm hf
    refine lv_iload hx hb dX3_hoursUntilOwned_25 (lv_at hl 5 rfl) ?_
    refine wq_if_le (tgt := 119) hx hb dX3_hoursUntilOwned_27 (by decide) hf (fun hf => ?_) (fun hf => ?_)
    · refine lv_bipush (v := -9) hx hb dX3_hoursUntilOwned_119 (by decide) ?_
      exact wt_iret hx hb hr hlk hK hM hf dX3_hoursUntilOwned_121
    refine lv_iconst (v := 0) hx hb dX3_hoursUntilOwned_30 (by decide) ?_
    refine lv_istore (lv' := [(6, .int (0 : Int32)), (0, .ref (B + 0)), (1, .int x1), (2, .int x2), (3, .int x3), (4, .int x4), (5, .int x5)]) hx hb dX3_hoursUntilOwned_31 hl (by decide) rfl (fun ls hl => ?_)
    exact w_X3_hoursUntilOwned_33 C ih _ _ _ _ _ _ _ hf hM (lv_sub hl [1, 2, 3, 4, 5, 6, 0] rfl)
set_option maxHeartbeats 4000000 in
set_option maxRecDepth 100000 in
theorem w_X3_hoursUntilOwned_0 (C : wt_C p s m args meth c RX3 cX3_hoursUntilOwned 7 (some .int) D tI tII) {F : Nat} {x1 : Int32} {x2 : Int32} {x3 : Int32} {σ : Mem} {r : Int32} {σ' : Mem} {H : Heap} {locs : List Loc} {ls : Array Slot} (hf : f_X3_hoursUntilOwned F x1 x2 x3 σ = some (r, σ')) (hM : wt_St D tI tII B σ s H locs) (hl : lv_has ls 7 [(0, .ref (B + 0)), (1, .int x1), (2, .int x2), (3, .int x3)]) : W p l e rm_X3_hoursUntilOwned s m args below meth c H locs 0 0 (MQ below (wt_Qi D tI tII B r σ') args s 0 0 (fun q => B ≤ q)) (F0 m 0 ls []) := by
  obtain ⟨hx, hb, hts, hown, hml, hr, hlk, hK⟩ := id C
  replace hf := Eq.trans f_X3_hoursUntilOwned_e.symm hf
  refine lv_aload_n hx hb dX3_hoursUntilOwned_0 rfl (lv_at hl 0 rfl) ?_
  refine gf_X3_mind  hx hb hts hown hK hM tw_115 dX3_hoursUntilOwned_1 ?_
  refine lv_aload_n hx hb dX3_hoursUntilOwned_4 rfl (lv_at hl 0 rfl) ?_
  refine gf_X3_house  hx hb hts hown hK hM tw_114 dX3_hoursUntilOwned_5 ?_
  refine wt_callVv (As := [.ref (B + 1)]) (rest := []) hx hb hml hts hown hK hM (wt_rc_X0 wt_h24) cw_X3_106 hd_X0_takeFrom rfl ⟨qz_b rfl, qz_b rfl⟩ ⟨rfl, rfl⟩ hl.1 rfl (qz_b rfl) dX3_hoursUntilOwned_8 hf (fun _ _ h9 => c_X0_takeFrom wt_h24 wt_h1 h9) (fun r9 s10 H locs hf hM => ?_)
  refine lv_aload_n hx hb dX3_hoursUntilOwned_11 rfl (lv_at hl 0 rfl) ?_
  refine gf_X3_mind  hx hb hts hown hK hM tw_115 dX3_hoursUntilOwned_12 ?_
  refine wt_callVv (As := []) (rest := []) hx hb hml hts hown hK hM (wt_rc_X0 wt_h24) cw_X3_141 hd_X0_reckon rfl ⟨qz_b rfl, qz_b rfl⟩ ⟨rfl, rfl⟩ hl.1 rfl (qz_b rfl) dX3_hoursUntilOwned_15 hf (fun _ _ h9 => c_X0_reckon wt_h24 h9) (fun r11 s12 H locs hf hM => ?_)
  refine lv_iconst (v := 0) hx hb dX3_hoursUntilOwned_18 (by decide) ?_
  refine lv_istore (lv' := [(4, .int (0 : Int32)), (0, .ref (B + 0)), (1, .int x1), (2, .int x2), (3, .int x3)]) hx hb dX3_hoursUntilOwned_19 hl (by decide) rfl (fun ls hl => ?_)
  refine lv_bipush (v := 10) hx hb dX3_hoursUntilOwned_21 (by decide) ?_
  refine lv_istore (lv' := [(5, .int (10 : Int32)), (4, .int (0 : Int32)), (0, .ref (B + 0)), (1, .int x1), (2, .int x2), (3, .int x3)]) hx hb dX3_hoursUntilOwned_23 hl (by decide) rfl (fun ls hl => ?_)
  exact w_X3_hoursUntilOwned_25 C _ _ _ _ _ _ _ hf hM (lv_sub hl [2, 3, 4, 5, 1, 0] rfl)
end
set_option maxHeartbeats 4000000 in
set_option maxRecDepth 100000 in
theorem c_X3_hoursUntilOwned {l : Launch} {D : va_G} {tI tII : ClassId} {B F : Nat} {x1 : Int32} {x2 : Int32} {x3 : Int32} {σ σ' : Mem} {r : Int32} (hf : f_X3_hoursUntilOwned F x1 x2 x3 σ = some (r, σ')) : wt_Mi l yX3_hoursUntilOwned cX3_hoursUntilOwned 7 (some .int) rm_X3_hoursUntilOwned [.ref (B + 0), .int x1, .int x2, .int x3] D tI tII B σ r σ' := by
  refine Met.ofW (cc := cX3_hoursUntilOwned) (maxL := 7) (ret := (some .int)) (by decide) rfl ?_
  intro p e s m args below meth c s₁ B9 hml hv
  obtain ⟨rfl, hP, hK⟩ := hv
  have hl := lv_entry ([.ref (B + 0), .int x1, .int x2, .int x3]) (n := 7) (qz_b rfl)
  rw [lg_entry_eq]
  generalize (lg_sl ([.ref (B + 0), .int x1, .int x2, .int x3]) ++ List.replicate (7 - (lg_sl ([.ref (B + 0), .int x1, .int x2, .int x3])).length) Slot.unset).toArray = ls at hl ⊢
  exact w_X3_hoursUntilOwned_0 (wt_C_of B9 hml hK) hf ⟨hP, va_S.rf⟩ hl
section
variable {p : Program} {l : Launch} {e : Env} {s : State} {m : MethodId} {args : Array Value} {below : List Frame} {meth : Method} {c : Code} {D : va_G} {tI tII : ClassId} {B : Nat}
set_option maxHeartbeats 4000000 in
set_option maxRecDepth 100000 in
theorem w_X3_moreHours_83 (C : wt_C p s m args meth c RX3 cX3_moreHours 5 (some .int) D tI tII) {F : Nat} {σ : Mem} {r : Int32} {σ' : Mem} {H : Heap} {locs : List Loc} {ls : Array Slot} (hf : j_X3_moreHours_83 F σ = some (r, σ')) (hM : wt_St D tI tII B σ s H locs) (hl : lv_has ls 5 []) : W p l e rm_X3_moreHours s m args below meth c H locs 0 0 (MQ below (wt_Qi D tI tII B r σ') args s 0 0 (fun q => B ≤ q)) (F0 m 83 ls []) := by
  obtain ⟨hx, hb, hts, hown, hml, hr, hlk, hK⟩ := id C
  replace hf := Eq.trans j_X3_moreHours_83_e.symm hf
  refine lv_bipush (v := -9) hx hb dX3_moreHours_83 (by decide) ?_
  exact wt_iret hx hb hr hlk hK hM hf dX3_moreHours_85
set_option maxHeartbeats 4000000 in
set_option maxRecDepth 100000 in
theorem w_X3_moreHours_0 (C : wt_C p s m args meth c RX3 cX3_moreHours 5 (some .int) D tI tII) {F : Nat} {x1 : Int32} {x2 : Int32} {x3 : Int32} {σ : Mem} {r : Int32} {σ' : Mem} {H : Heap} {locs : List Loc} {ls : Array Slot} (hf : f_X3_moreHours F x1 x2 x3 σ = some (r, σ')) (hM : wt_St D tI tII B σ s H locs) (hl : lv_has ls 5 [(0, .ref (B + 0)), (1, .int x1), (2, .int x2), (3, .int x3)]) : W p l e rm_X3_moreHours s m args below meth c H locs 0 0 (MQ below (wt_Qi D tI tII B r σ') args s 0 0 (fun q => B ≤ q)) (F0 m 0 ls []) := by
  obtain ⟨hx, hb, hts, hown, hml, hr, hlk, hK⟩ := id C
  replace hf := Eq.trans f_X3_moreHours_e.symm hf
  refine lv_aload_n hx hb dX3_moreHours_0 rfl (lv_at hl 0 rfl) ?_
  refine lv_iload_n hx hb dX3_moreHours_1 rfl (lv_at hl 1 rfl) ?_
  refine wt_callVi (As := [.int x1]) (rest := []) hx hb hml hts hown hK hM wt_rc_X3 cw_X3_78 hd_X3_noLooker rfl ⟨qz_b rfl, qz_b rfl⟩ ⟨rfl, rfl⟩ hl.1 rfl (qz_b rfl) dX3_moreHours_2 hf (fun _ _ h9 => c_X3_noLooker h9) (fun r1 s2 H locs hf hM => ?_)
  refine lv_iload_n hx hb dX3_moreHours_5 rfl (lv_at hl 2 rfl) ?_
  refine wt_callSi (As := [.int x2]) (rest := [.int r1]) hx hb hml hts hown hK hM cw_X3_174 hd_X3_noView rfl ⟨qz_b rfl, qz_b rfl⟩ ⟨rfl, rfl⟩ hl.1 rfl (qz_b rfl) dX3_moreHours_6 hf (fun _ _ h9 => c_X3_noView h9) (fun r3 s4 H locs hf hM => ?_)
  refine wt_callSi (As := [.int r1, .int r3]) (rest := []) hx hb hml hts hown hK hM cw_X3_85 hd_X3_firstOf rfl ⟨qz_b rfl, qz_b rfl⟩ ⟨rfl, rfl⟩ hl.1 rfl (qz_b rfl) dX3_moreHours_9 hf (fun _ _ h9 => c_X3_firstOf h9) (fun r5 s6 H locs hf hM => ?_)
  refine lv_iload_n hx hb dX3_moreHours_12 rfl (lv_at hl 3 rfl) ?_
  refine lv_iconst (v := 1) hx hb dX3_moreHours_13 (by decide) ?_
  refine lv_sipush (v := 999) hx hb dX3_moreHours_14 (by decide) ?_
  refine wt_callSi (As := [.int x3, .int (1 : Int32), .int (999 : Int32)]) (rest := [.int r5]) hx hb hml hts hown hK hM cw_X3_81 hd_X3_outside rfl ⟨qz_b rfl, qz_b rfl⟩ ⟨rfl, rfl⟩ hl.1 rfl (qz_b rfl) dX3_moreHours_17 hf (fun _ _ h9 => c_X3_outside h9) (fun r7 s8 H locs hf hM => ?_)
  refine wt_callSi (As := [.int r5, .int r7]) (rest := []) hx hb hml hts hown hK hM cw_X3_85 hd_X3_firstOf rfl ⟨qz_b rfl, qz_b rfl⟩ ⟨rfl, rfl⟩ hl.1 rfl (qz_b rfl) dX3_moreHours_20 hf (fun _ _ h9 => c_X3_firstOf h9) (fun r9 s10 H locs hf hM => ?_)
  refine lv_istore (lv' := [(4, .int r9), (0, .ref (B + 0)), (1, .int x1), (2, .int x2), (3, .int x3)]) hx hb dX3_moreHours_23 hl (by decide) rfl (fun ls hl => ?_)
  refine lv_iload hx hb dX3_moreHours_25 (lv_at hl 0 rfl) ?_
  refine wq_if_eq (tgt := 37) hx hb dX3_moreHours_27 (by decide) hf (fun hf => ?_) (fun hf => ?_)
  · refine lv_aload_n hx hb dX3_moreHours_37 rfl (lv_at hl 1 rfl) ?_
    refine gf_X3_house  hx hb hts hown hK hM tw_114 dX3_moreHours_38 ?_
    refine wt_callVv (As := []) (rest := []) hx hb hml hts hown hK hM (wt_rc_X0 wt_h1) cw_X3_141 hd_X0_reckon rfl ⟨qz_b rfl, qz_b rfl⟩ ⟨rfl, rfl⟩ hl.1 rfl (qz_b rfl) dX3_moreHours_41 hf (fun _ _ h9 => c_X0_reckon wt_h1 h9) (fun r11 s12 H locs hf hM => ?_)
    refine lv_aload_n hx hb dX3_moreHours_44 rfl (lv_at hl 1 rfl) ?_
    refine gf_X3_house  hx hb hts hown hK hM tw_114 dX3_moreHours_45 ?_
    refine lv_iload_n hx hb dX3_moreHours_48 rfl (lv_at hl 3 rfl) ?_
    refine lv_iload_n hx hb dX3_moreHours_49 rfl (lv_at hl 4 rfl) ?_
    refine wt_callVi (As := [.int x2, .int x3]) (rest := []) hx hb hml hts hown hK hM (wt_rc_X0 wt_h1) cw_X3_223 hd_X0_holder rfl ⟨qz_b rfl, qz_b rfl⟩ ⟨rfl, rfl⟩ hl.1 rfl (qz_b rfl) dX3_moreHours_50 hf (fun _ _ h9 => c_X0_holder wt_h1 h9) (fun r13 s14 H locs hf hM => ?_)
    refine lv_iload_n hx hb dX3_moreHours_53 rfl (lv_at hl 2 rfl) ?_
    refine wq_icmp_ne (tgt := 59) hx hb dX3_moreHours_54 (by decide) hf (fun hf => ?_) (fun hf => ?_)
    · refine lv_aload_n hx hb dX3_moreHours_59 rfl (lv_at hl 1 rfl) ?_
      refine gf_X3_house  hx hb hts hown hK hM tw_114 dX3_moreHours_60 ?_
      refine lv_iload_n hx hb dX3_moreHours_63 rfl (lv_at hl 3 rfl) ?_
      refine wt_callVi (As := [.int x2]) (rest := []) hx hb hml hts hown hK hM (wt_rc_X0 wt_h1) cw_X3_238 hd_X0_timesShown rfl ⟨qz_b rfl, qz_b rfl⟩ ⟨rfl, rfl⟩ hl.1 rfl (qz_b rfl) dX3_moreHours_64 hf (fun _ _ h9 => c_X0_timesShown wt_h1 h9) (fun r15 s16 H locs hf hM => ?_)
      refine wq_if_eq (tgt := 83) hx hb dX3_moreHours_67 (by decide) hf (fun hf => ?_) (fun hf => ?_)
      · exact w_X3_moreHours_83 C hf hM (lv_sub hl [] rfl)
      refine lv_aload_n hx hb dX3_moreHours_70 rfl (lv_at hl 1 rfl) ?_
      refine gf_X3_house  hx hb hts hown hK hM tw_114 dX3_moreHours_71 ?_
      refine gf_X0_kinds wt_h1 hx hb hts hown hK hM tw_33 dX3_moreHours_74 ?_
      refine lv_iload_n hx hb dX3_moreHours_77 rfl (lv_at hl 2 rfl) ?_
      obtain ⟨i17, hf⟩ := wt_chk_of hf
      refine wt_ild hx hb hK hM (wt_aH_2 wt_h1) i17 dX3_moreHours_78 ?_
      refine lv_iconst (v := 2) hx hb dX3_moreHours_79 (by decide) ?_
      refine wq_icmp_ne (tgt := 86) hx hb dX3_moreHours_80 (by decide) hf (fun hf => ?_) (fun hf => ?_)
      · refine lv_aload_n hx hb dX3_moreHours_86 rfl (lv_at hl 1 rfl) ?_
        refine lv_iload_n hx hb dX3_moreHours_87 rfl (lv_at hl 2 rfl) ?_
        refine lv_iload_n hx hb dX3_moreHours_88 rfl (lv_at hl 3 rfl) ?_
        refine lv_iload_n hx hb dX3_moreHours_89 rfl (lv_at hl 4 rfl) ?_
        refine wt_callVi (As := [.int x1, .int x2, .int x3]) (rest := []) hx hb hml hts hown hK hM wt_rc_X3 cw_X3_241 hd_X3_hoursUntilOwned rfl ⟨qz_b rfl, qz_b rfl⟩ ⟨rfl, rfl⟩ hl.1 rfl (qz_b rfl) dX3_moreHours_90 hf (fun _ _ h9 => c_X3_hoursUntilOwned h9) (fun r18 s19 H locs hf hM => ?_)
        exact wt_iret hx hb hr hlk hK hM hf dX3_moreHours_93
      exact w_X3_moreHours_83 C hf hM (lv_sub hl [] rfl)
    refine lv_iconst (v := 0) hx hb dX3_moreHours_57 (by decide) ?_
    exact wt_iret hx hb hr hlk hK hM hf dX3_moreHours_58
  refine lv_aload_n hx hb dX3_moreHours_30 rfl (lv_at hl 1 rfl) ?_
  refine lv_iload hx hb dX3_moreHours_31 (lv_at hl 0 rfl) ?_
  refine wt_callVi (As := [.int r9]) (rest := []) hx hb hml hts hown hK hM wt_rc_X3 cw_X3_61 hd_X3_refuse rfl ⟨qz_b rfl, qz_b rfl⟩ ⟨rfl, rfl⟩ hl.1 rfl (qz_b rfl) dX3_moreHours_33 hf (fun _ _ h9 => c_X3_refuse h9) (fun r20 s21 H locs hf hM => ?_)
  exact wt_iret hx hb hr hlk hK hM hf dX3_moreHours_36
end
set_option maxHeartbeats 4000000 in
set_option maxRecDepth 100000 in
theorem c_X3_moreHours {l : Launch} {D : va_G} {tI tII : ClassId} {B F : Nat} {x1 : Int32} {x2 : Int32} {x3 : Int32} {σ σ' : Mem} {r : Int32} (hf : f_X3_moreHours F x1 x2 x3 σ = some (r, σ')) : wt_Mi l yX3_moreHours cX3_moreHours 5 (some .int) rm_X3_moreHours [.ref (B + 0), .int x1, .int x2, .int x3] D tI tII B σ r σ' := by
  refine Met.ofW (cc := cX3_moreHours) (maxL := 5) (ret := (some .int)) (by decide) rfl ?_
  intro p e s m args below meth c s₁ B9 hml hv
  obtain ⟨rfl, hP, hK⟩ := hv
  have hl := lv_entry ([.ref (B + 0), .int x1, .int x2, .int x3]) (n := 5) (qz_b rfl)
  rw [lg_entry_eq]
  generalize (lg_sl ([.ref (B + 0), .int x1, .int x2, .int x3]) ++ List.replicate (5 - (lg_sl ([.ref (B + 0), .int x1, .int x2, .int x3])).length) Slot.unset).toArray = ls at hl ⊢
  exact w_X3_moreHours_0 (wt_C_of B9 hml hK) hf ⟨hP, va_S.rf⟩ hl
section
variable {p : Program} {l : Launch} {e : Env} {s : State} {m : MethodId} {args : Array Value} {below : List Frame} {meth : Method} {c : Code} {D : va_G} {tI tII : ClassId} {B : Nat}
set_option maxHeartbeats 4000000 in
set_option maxRecDepth 100000 in
theorem w_X3_wealthAt_0 (C : wt_C p s m args meth c RX3 cX3_wealthAt 5 (some .int) D tI tII) {F : Nat} {x1 : Int32} {x2 : Int32} {x3 : Int32} {x4 : Int32} {σ : Mem} {r : Int32} {σ' : Mem} {H : Heap} {locs : List Loc} {ls : Array Slot} (hf : f_X3_wealthAt F x1 x2 x3 x4 σ = some (r, σ')) (hM : wt_St D tI tII B σ s H locs) (hl : lv_has ls 5 [(0, .ref (B + 0)), (1, .int x1), (2, .int x2), (3, .int x3), (4, .int x4)]) : W p l e rm_X3_wealthAt s m args below meth c H locs 0 0 (MQ below (wt_Qi D tI tII B r σ') args s 0 0 (fun q => B ≤ q)) (F0 m 0 ls []) := by
  obtain ⟨hx, hb, hts, hown, hml, hr, hlk, hK⟩ := id C
  replace hf := Eq.trans f_X3_wealthAt_e.symm hf
  refine lv_aload_n hx hb dX3_wealthAt_0 rfl (lv_at hl 0 rfl) ?_
  refine gf_X3_mind  hx hb hts hown hK hM tw_115 dX3_wealthAt_1 ?_
  refine lv_iload_n hx hb dX3_wealthAt_4 rfl (lv_at hl 1 rfl) ?_
  refine lv_iload_n hx hb dX3_wealthAt_5 rfl (lv_at hl 2 rfl) ?_
  refine lv_iload_n hx hb dX3_wealthAt_6 rfl (lv_at hl 2 rfl) ?_
  refine lv_iload_n hx hb dX3_wealthAt_7 rfl (lv_at hl 3 rfl) ?_
  refine wt_callVi (As := [.int x1, .int x2, .int x2, .int x3]) (rest := []) hx hb hml hts hown hK hM (wt_rc_X0 wt_h24) cw_X3_170 hd_X0_post rfl ⟨qz_b rfl, qz_b rfl⟩ ⟨rfl, rfl⟩ hl.1 rfl (qz_b rfl) dX3_wealthAt_8 hf (fun _ _ h9 => c_X0_post wt_h24 h9) (fun r1 s2 H locs hf hM => ?_)
  refine lv_pop hx hb dX3_wealthAt_11 rfl ?_
  refine lv_aload_n hx hb dX3_wealthAt_12 rfl (lv_at hl 0 rfl) ?_
  refine gf_X3_mind  hx hb hts hown hK hM tw_115 dX3_wealthAt_13 ?_
  refine wt_callVv (As := []) (rest := []) hx hb hml hts hown hK hM (wt_rc_X0 wt_h24) cw_X3_141 hd_X0_reckon rfl ⟨qz_b rfl, qz_b rfl⟩ ⟨rfl, rfl⟩ hl.1 rfl (qz_b rfl) dX3_wealthAt_16 hf (fun _ _ h9 => c_X0_reckon wt_h24 h9) (fun r3 s4 H locs hf hM => ?_)
  refine lv_aload_n hx hb dX3_wealthAt_19 rfl (lv_at hl 0 rfl) ?_
  refine gf_X3_mind  hx hb hts hown hK hM tw_115 dX3_wealthAt_20 ?_
  refine lv_iload_n hx hb dX3_wealthAt_23 rfl (lv_at hl 1 rfl) ?_
  refine lv_iload hx hb dX3_wealthAt_24 (lv_at hl 4 rfl) ?_
  refine wt_callVi (As := [.int x1, .int x4]) (rest := []) hx hb hml hts hown hK hM (wt_rc_X0 wt_h24) cw_X3_229 hd_X0_wealth rfl ⟨qz_b rfl, qz_b rfl⟩ ⟨rfl, rfl⟩ hl.1 rfl (qz_b rfl) dX3_wealthAt_26 hf (fun _ _ h9 => c_X0_wealth wt_h24 h9) (fun r5 s6 H locs hf hM => ?_)
  exact wt_iret hx hb hr hlk hK hM hf dX3_wealthAt_29
end
set_option maxHeartbeats 4000000 in
set_option maxRecDepth 100000 in
theorem c_X3_wealthAt {l : Launch} {D : va_G} {tI tII : ClassId} {B F : Nat} {x1 : Int32} {x2 : Int32} {x3 : Int32} {x4 : Int32} {σ σ' : Mem} {r : Int32} (hf : f_X3_wealthAt F x1 x2 x3 x4 σ = some (r, σ')) : wt_Mi l yX3_wealthAt cX3_wealthAt 5 (some .int) rm_X3_wealthAt [.ref (B + 0), .int x1, .int x2, .int x3, .int x4] D tI tII B σ r σ' := by
  refine Met.ofW (cc := cX3_wealthAt) (maxL := 5) (ret := (some .int)) (by decide) rfl ?_
  intro p e s m args below meth c s₁ B9 hml hv
  obtain ⟨rfl, hP, hK⟩ := hv
  have hl := lv_entry ([.ref (B + 0), .int x1, .int x2, .int x3, .int x4]) (n := 5) (qz_b rfl)
  rw [lg_entry_eq]
  generalize (lg_sl ([.ref (B + 0), .int x1, .int x2, .int x3, .int x4]) ++ List.replicate (5 - (lg_sl ([.ref (B + 0), .int x1, .int x2, .int x3, .int x4])).length) Slot.unset).toArray = ls at hl ⊢
  exact w_X3_wealthAt_0 (wt_C_of B9 hml hK) hf ⟨hP, va_S.rf⟩ hl
section
variable {p : Program} {l : Launch} {e : Env} {s : State} {m : MethodId} {args : Array Value} {below : List Frame} {meth : Method} {c : Code} {D : va_G} {tI tII : ClassId} {B : Nat}
set_option maxHeartbeats 4000000 in
set_option maxRecDepth 100000 in
theorem w_X3_bestPane_130 (C : wt_C p s m args meth c RX3 cX3_bestPane 11 (some .int) D tI tII) {F : Nat} {k71 : Int32 → Int32 → Int32 → Mem → Option (Int32 × Mem)} {x1 : Int32} {x2 : Int32} {x3 : Int32} {x4 : Int32} {x6 : Int32} {x7 : Int32} {x8 : Int32} {σ : Mem} {r : Int32} {σ' : Mem} {H : Heap} {locs : List Loc} {ls : Array Slot} (hk71 : ∀ (x6 : Int32) (x7 : Int32) (x8 : Int32) (σ : Mem) (H : Heap) (locs : List Loc) (ls : Array Slot), k71 x6 x7 x8 σ = some (r, σ') → wt_St D tI tII B σ s H locs → lv_has ls 11 [(0, .ref (B + 0)), (1, .int x1), (2, .int x2), (3, .int x3), (4, .int x4), (6, .int x6), (7, .int x7), (8, .int x8)] → W p l e rm_X3_bestPane s m args below meth c H locs 0 0 (MQ below (wt_Qi D tI tII B r σ') args s 0 0 (fun q => B ≤ q)) (F0 m 71 ls [])) (hf : j_X3_bestPane_130 F k71 x1 x2 x3 x4 x6 x7 x8 σ = some (r, σ')) (hM : wt_St D tI tII B σ s H locs) (hl : lv_has ls 11 [(0, .ref (B + 0)), (1, .int x1), (2, .int x2), (3, .int x3), (4, .int x4), (6, .int x6), (7, .int x7), (8, .int x8)]) : W p l e rm_X3_bestPane s m args below meth c H locs 0 0 (MQ below (wt_Qi D tI tII B r σ') args s 0 0 (fun q => B ≤ q)) (F0 m 130 ls []) := by
  obtain ⟨hx, hb, hts, hown, hml, hr, hlk, hK⟩ := id C
  replace hf := Eq.trans j_X3_bestPane_130_e.symm hf
  refine lv_iinc (v := (x8 + (1 : Int32))) (lv' := [(8, .int (x8 + (1 : Int32))), (0, .ref (B + 0)), (1, .int x1), (2, .int x2), (3, .int x3), (4, .int x4), (6, .int x6), (7, .int x7)]) hx hb dX3_bestPane_130 hl (k := 7) rfl rfl (by decide) rfl (fun ls hl => ?_)
  refine lv_goto (tgt := 71) hx hb dX3_bestPane_133 (by decide) ?_
  exact hk71 _ _ _ _ _ _ _ hf hM (lv_sub hl [1, 2, 3, 4, 5, 6, 7, 0] rfl)
set_option maxHeartbeats 4000000 in
set_option maxRecDepth 100000 in
theorem w_X3_bestPane_102 (C : wt_C p s m args meth c RX3 cX3_bestPane 11 (some .int) D tI tII) {F : Nat} {k71 : Int32 → Int32 → Int32 → Mem → Option (Int32 × Mem)} {x1 : Int32} {x2 : Int32} {x3 : Int32} {x4 : Int32} {x6 : Int32} {x7 : Int32} {x8 : Int32} {t0 : Int32} {σ : Mem} {r : Int32} {σ' : Mem} {H : Heap} {locs : List Loc} {ls : Array Slot} (hk71 : ∀ (x6 : Int32) (x7 : Int32) (x8 : Int32) (σ : Mem) (H : Heap) (locs : List Loc) (ls : Array Slot), k71 x6 x7 x8 σ = some (r, σ') → wt_St D tI tII B σ s H locs → lv_has ls 11 [(0, .ref (B + 0)), (1, .int x1), (2, .int x2), (3, .int x3), (4, .int x4), (6, .int x6), (7, .int x7), (8, .int x8)] → W p l e rm_X3_bestPane s m args below meth c H locs 0 0 (MQ below (wt_Qi D tI tII B r σ') args s 0 0 (fun q => B ≤ q)) (F0 m 71 ls [])) (hf : j_X3_bestPane_102 F k71 x1 x2 x3 x4 x6 x7 x8 t0 σ = some (r, σ')) (hM : wt_St D tI tII B σ s H locs) (hl : lv_has ls 11 [(0, .ref (B + 0)), (1, .int x1), (2, .int x2), (3, .int x3), (4, .int x4), (6, .int x6), (7, .int x7), (8, .int x8)]) : W p l e rm_X3_bestPane s m args below meth c H locs 0 0 (MQ below (wt_Qi D tI tII B r σ') args s 0 0 (fun q => B ≤ q)) (F0 m 102 ls [.int t0]) := by
  obtain ⟨hx, hb, hts, hown, hml, hr, hlk, hK⟩ := id C
  replace hf := Eq.trans j_X3_bestPane_102_e.symm hf
  refine lv_istore (lv' := [(9, .int t0), (0, .ref (B + 0)), (1, .int x1), (2, .int x2), (3, .int x3), (4, .int x4), (6, .int x6), (7, .int x7), (8, .int x8)]) hx hb dX3_bestPane_102 hl (by decide) rfl (fun ls hl => ?_)
  refine lv_aload_n hx hb dX3_bestPane_104 rfl (lv_at hl 1 rfl) ?_
  refine lv_iload_n hx hb dX3_bestPane_105 rfl (lv_at hl 2 rfl) ?_
  refine lv_iload_n hx hb dX3_bestPane_106 rfl (lv_at hl 3 rfl) ?_
  refine lv_iload hx hb dX3_bestPane_107 (lv_at hl 0 rfl) ?_
  refine lv_iload_n hx hb dX3_bestPane_109 rfl (lv_at hl 4 rfl) ?_
  refine wt_callVi (As := [.int x1, .int x2, .int t0, .int x3]) (rest := []) hx hb hml hts hown hK hM wt_rc_X3 cw_X3_247 hd_X3_wealthAt rfl ⟨qz_b rfl, qz_b rfl⟩ ⟨rfl, rfl⟩ hl.1 rfl (qz_b rfl) dX3_bestPane_110 hf (fun _ _ h9 => c_X3_wealthAt h9) (fun r1 s2 H locs hf hM => ?_)
  refine lv_istore (lv' := [(10, .int r1), (9, .int t0), (0, .ref (B + 0)), (1, .int x1), (2, .int x2), (3, .int x3), (4, .int x4), (6, .int x6), (7, .int x7), (8, .int x8)]) hx hb dX3_bestPane_113 hl (by decide) rfl (fun ls hl => ?_)
  refine lv_iload hx hb dX3_bestPane_115 (lv_at hl 0 rfl) ?_
  refine lv_iload hx hb dX3_bestPane_117 (lv_at hl 8 rfl) ?_
  refine wq_icmp_le (tgt := 130) hx hb dX3_bestPane_119 (by decide) hf (fun hf => ?_) (fun hf => ?_)
  · exact w_X3_bestPane_130 C hk71 hf hM (lv_sub hl [2, 3, 4, 5, 6, 7, 8, 9] rfl)
  refine lv_iload hx hb dX3_bestPane_122 (lv_at hl 0 rfl) ?_
  refine lv_istore (lv' := [(7, .int r1), (10, .int r1), (9, .int t0), (0, .ref (B + 0)), (1, .int x1), (2, .int x2), (3, .int x3), (4, .int x4), (6, .int x6), (8, .int x8)]) hx hb dX3_bestPane_124 hl (by decide) rfl (fun ls hl => ?_)
  refine lv_iload hx hb dX3_bestPane_126 (lv_at hl 2 rfl) ?_
  refine lv_istore (lv' := [(6, .int t0), (7, .int r1), (10, .int r1), (9, .int t0), (0, .ref (B + 0)), (1, .int x1), (2, .int x2), (3, .int x3), (4, .int x4), (8, .int x8)]) hx hb dX3_bestPane_128 hl (by decide) rfl (fun ls hl => ?_)
  exact w_X3_bestPane_130 C hk71 hf hM (lv_sub hl [4, 5, 6, 7, 8, 0, 1, 9] rfl)
set_option maxHeartbeats 4000000 in
set_option maxRecDepth 100000 in
theorem w_X3_bestPane_71 (C : wt_C p s m args meth c RX3 cX3_bestPane 11 (some .int) D tI tII) {F : Nat} {x1 : Int32} {x2 : Int32} {x3 : Int32} {x4 : Int32} {r : Int32} {σ' : Mem} : ∀ (N : Nat) (x6 : Int32) (x7 : Int32) (x8 : Int32) (σ : Mem) (H : Heap) (locs : List Loc) (ls : Array Slot), lp_X3_bestPane_71 F x1 x2 x3 x4 N x6 x7 x8 σ = some (r, σ') → wt_St D tI tII B σ s H locs → lv_has ls 11 [(0, .ref (B + 0)), (1, .int x1), (2, .int x2), (3, .int x3), (4, .int x4), (6, .int x6), (7, .int x7), (8, .int x8)] → W p l e rm_X3_bestPane s m args below meth c H locs 0 0 (MQ below (wt_Qi D tI tII B r σ') args s 0 0 (fun q => B ≤ q)) (F0 m 71 ls []) := by
  obtain ⟨hx, hb, hts, hown, hml, hr, hlk, hK⟩ := id C
  intro N
  induction N with
  | zero => intro x6 x7 x8 σ H locs ls hf; exact wt_none (show (none : Option (Int32 × Mem)) = some (r, σ') from hf)
  | succ N ih =>
    intro x6 x7 x8 σ H locs ls hf hM hl
    replace hf := Eq.trans lp_X3_bestPane_71_s.symm hf
    refine lv_iload hx hb dX3_bestPane_71 (lv_at hl 7 rfl) ?_
    refine lv_aload_n hx hb dX3_bestPane_73 rfl (lv_at hl 0 rfl) ?_
    refine gf_X3_house  hx hb hts hown hK hM tw_114 dX3_bestPane_74 ?_
    refine gf_X0_paneCount wt_h1 hx hb hts hown hK hM tw_26 dX3_bestPane_77 ?_
    refine wq_icmp_gt (tgt := 136) hx hb dX3_bestPane_80 (by decide) hf (fun hf => ?_) (fun hf => ?_)
    · refine lv_iload hx hb dX3_bestPane_136 (lv_at hl 4 rfl) ?_
      refine wq_if_ne (tgt := 146) hx hb dX3_bestPane_138 (by decide) hf (fun hf => ?_) (fun hf => ?_)
      · refine lv_iload hx hb dX3_bestPane_146 (lv_at hl 6 rfl) ?_
        exact wt_iret hx hb hr hlk hK hM hf dX3_bestPane_148
      refine lv_iload hx hb dX3_bestPane_141 (lv_at hl 5 rfl) ?_
      refine lv_goto (tgt := 148) hx hb dX3_bestPane_143 (by decide) ?_
      exact wt_iret hx hb hr hlk hK hM hf dX3_bestPane_148
    refine lv_iload hx hb dX3_bestPane_83 (lv_at hl 7 rfl) ?_
    refine lv_aload_n hx hb dX3_bestPane_85 rfl (lv_at hl 0 rfl) ?_
    refine gf_X3_house  hx hb hts hown hK hM tw_114 dX3_bestPane_86 ?_
    refine gf_X0_paneCount wt_h1 hx hb hts hown hK hM tw_26 dX3_bestPane_89 ?_
    refine wq_icmp_ge (tgt := 100) hx hb dX3_bestPane_92 (by decide) hf (fun hf => ?_) (fun hf => ?_)
    · refine lv_bipush (v := 9) hx hb dX3_bestPane_100 (by decide) ?_
      exact w_X3_bestPane_102 C ih hf hM hl
    refine lv_iload hx hb dX3_bestPane_95 (lv_at hl 7 rfl) ?_
    refine lv_goto (tgt := 102) hx hb dX3_bestPane_97 (by decide) ?_
    exact w_X3_bestPane_102 C ih hf hM hl
set_option maxHeartbeats 4000000 in
set_option maxRecDepth 100000 in
theorem w_X3_bestPane_0 (C : wt_C p s m args meth c RX3 cX3_bestPane 11 (some .int) D tI tII) {F : Nat} {x1 : Int32} {x2 : Int32} {x3 : Int32} {x4 : Int32} {σ : Mem} {r : Int32} {σ' : Mem} {H : Heap} {locs : List Loc} {ls : Array Slot} (hf : f_X3_bestPane F x1 x2 x3 x4 σ = some (r, σ')) (hM : wt_St D tI tII B σ s H locs) (hl : lv_has ls 11 [(0, .ref (B + 0)), (1, .int x1), (2, .int x2), (3, .int x3), (4, .int x4)]) : W p l e rm_X3_bestPane s m args below meth c H locs 0 0 (MQ below (wt_Qi D tI tII B r σ') args s 0 0 (fun q => B ≤ q)) (F0 m 0 ls []) := by
  obtain ⟨hx, hb, hts, hown, hml, hr, hlk, hK⟩ := id C
  replace hf := Eq.trans f_X3_bestPane_e.symm hf
  refine lv_aload_n hx hb dX3_bestPane_0 rfl (lv_at hl 0 rfl) ?_
  refine lv_iload_n hx hb dX3_bestPane_1 rfl (lv_at hl 1 rfl) ?_
  refine wt_callVi (As := [.int x1]) (rest := []) hx hb hml hts hown hK hM wt_rc_X3 cw_X3_78 hd_X3_noLooker rfl ⟨qz_b rfl, qz_b rfl⟩ ⟨rfl, rfl⟩ hl.1 rfl (qz_b rfl) dX3_bestPane_2 hf (fun _ _ h9 => c_X3_noLooker h9) (fun r3 s4 H locs hf hM => ?_)
  refine lv_iload_n hx hb dX3_bestPane_5 rfl (lv_at hl 2 rfl) ?_
  refine wt_callSi (As := [.int x2]) (rest := [.int r3]) hx hb hml hts hown hK hM cw_X3_160 hd_X3_noHour rfl ⟨qz_b rfl, qz_b rfl⟩ ⟨rfl, rfl⟩ hl.1 rfl (qz_b rfl) dX3_bestPane_6 hf (fun _ _ h9 => c_X3_noHour h9) (fun r5 s6 H locs hf hM => ?_)
  refine wt_callSi (As := [.int r3, .int r5]) (rest := []) hx hb hml hts hown hK hM cw_X3_85 hd_X3_firstOf rfl ⟨qz_b rfl, qz_b rfl⟩ ⟨rfl, rfl⟩ hl.1 rfl (qz_b rfl) dX3_bestPane_9 hf (fun _ _ h9 => c_X3_firstOf h9) (fun r7 s8 H locs hf hM => ?_)
  refine lv_iload_n hx hb dX3_bestPane_12 rfl (lv_at hl 3 rfl) ?_
  refine lv_iconst (v := 0) hx hb dX3_bestPane_13 (by decide) ?_
  refine lv_sipush (v := 999) hx hb dX3_bestPane_14 (by decide) ?_
  refine wt_callSi (As := [.int x3, .int (0 : Int32), .int (999 : Int32)]) (rest := [.int r7]) hx hb hml hts hown hK hM cw_X3_81 hd_X3_outside rfl ⟨qz_b rfl, qz_b rfl⟩ ⟨rfl, rfl⟩ hl.1 rfl (qz_b rfl) dX3_bestPane_17 hf (fun _ _ h9 => c_X3_outside h9) (fun r9 s10 H locs hf hM => ?_)
  refine wt_callSi (As := [.int r7, .int r9]) (rest := []) hx hb hml hts hown hK hM cw_X3_85 hd_X3_firstOf rfl ⟨qz_b rfl, qz_b rfl⟩ ⟨rfl, rfl⟩ hl.1 rfl (qz_b rfl) dX3_bestPane_20 hf (fun _ _ h9 => c_X3_firstOf h9) (fun r11 s12 H locs hf hM => ?_)
  refine lv_istore (lv' := [(5, .int r11), (0, .ref (B + 0)), (1, .int x1), (2, .int x2), (3, .int x3), (4, .int x4)]) hx hb dX3_bestPane_23 hl (by decide) rfl (fun ls hl => ?_)
  refine lv_iload hx hb dX3_bestPane_25 (lv_at hl 0 rfl) ?_
  refine lv_iload hx hb dX3_bestPane_27 (lv_at hl 5 rfl) ?_
  refine lv_iconst (v := 2) hx hb dX3_bestPane_29 (by decide) ?_
  refine wt_callSi (As := [.int x4, .int (2 : Int32)]) (rest := [.int r11]) hx hb hml hts hown hK hM cw_X3_123 hd_X3_notBelow rfl ⟨qz_b rfl, qz_b rfl⟩ ⟨rfl, rfl⟩ hl.1 rfl (qz_b rfl) dX3_bestPane_30 hf (fun _ _ h9 => c_X3_notBelow h9) (fun r13 s14 H locs hf hM => ?_)
  refine wt_callSi (As := [.int r11, .int r13]) (rest := []) hx hb hml hts hown hK hM cw_X3_85 hd_X3_firstOf rfl ⟨qz_b rfl, qz_b rfl⟩ ⟨rfl, rfl⟩ hl.1 rfl (qz_b rfl) dX3_bestPane_33 hf (fun _ _ h9 => c_X3_firstOf h9) (fun r15 s16 H locs hf hM => ?_)
  refine lv_istore (lv' := [(5, .int r15), (0, .ref (B + 0)), (1, .int x1), (2, .int x2), (3, .int x3), (4, .int x4)]) hx hb dX3_bestPane_36 hl (by decide) rfl (fun ls hl => ?_)
  refine lv_iload hx hb dX3_bestPane_38 (lv_at hl 0 rfl) ?_
  refine wq_if_eq (tgt := 50) hx hb dX3_bestPane_40 (by decide) hf (fun hf => ?_) (fun hf => ?_)
  · refine lv_aload_n hx hb dX3_bestPane_50 rfl (lv_at hl 1 rfl) ?_
    refine gf_X3_mind  hx hb hts hown hK hM tw_115 dX3_bestPane_51 ?_
    refine lv_aload_n hx hb dX3_bestPane_54 rfl (lv_at hl 1 rfl) ?_
    refine gf_X3_house  hx hb hts hown hK hM tw_114 dX3_bestPane_55 ?_
    refine wt_callVv (As := [.ref (B + 1)]) (rest := []) hx hb hml hts hown hK hM (wt_rc_X0 wt_h24) cw_X3_106 hd_X0_takeFrom rfl ⟨qz_b rfl, qz_b rfl⟩ ⟨rfl, rfl⟩ hl.1 rfl (qz_b rfl) dX3_bestPane_58 hf (fun _ _ h9 => c_X0_takeFrom wt_h24 wt_h1 h9) (fun r17 s18 H locs hf hM => ?_)
    refine lv_bipush (v := 9) hx hb dX3_bestPane_61 (by decide) ?_
    refine lv_istore (lv' := [(6, .int (9 : Int32)), (5, .int r15), (0, .ref (B + 0)), (1, .int x1), (2, .int x2), (3, .int x3), (4, .int x4)]) hx hb dX3_bestPane_63 hl (by decide) rfl (fun ls hl => ?_)
    refine lv_iconst (v := -1) hx hb dX3_bestPane_65 (by decide) ?_
    refine lv_istore (lv' := [(7, .int (-1 : Int32)), (6, .int (9 : Int32)), (5, .int r15), (0, .ref (B + 0)), (1, .int x1), (2, .int x2), (3, .int x3), (4, .int x4)]) hx hb dX3_bestPane_66 hl (by decide) rfl (fun ls hl => ?_)
    refine lv_iconst (v := 0) hx hb dX3_bestPane_68 (by decide) ?_
    refine lv_istore (lv' := [(8, .int (0 : Int32)), (7, .int (-1 : Int32)), (6, .int (9 : Int32)), (5, .int r15), (0, .ref (B + 0)), (1, .int x1), (2, .int x2), (3, .int x3), (4, .int x4)]) hx hb dX3_bestPane_69 hl (by decide) rfl (fun ls hl => ?_)
    exact w_X3_bestPane_71 C _ _ _ _ _ _ _ _ hf hM (lv_sub hl [4, 5, 6, 7, 8, 2, 1, 0] rfl)
  refine lv_aload_n hx hb dX3_bestPane_43 rfl (lv_at hl 1 rfl) ?_
  refine lv_iload hx hb dX3_bestPane_44 (lv_at hl 0 rfl) ?_
  refine wt_callVi (As := [.int r15]) (rest := []) hx hb hml hts hown hK hM wt_rc_X3 cw_X3_61 hd_X3_refuse rfl ⟨qz_b rfl, qz_b rfl⟩ ⟨rfl, rfl⟩ hl.1 rfl (qz_b rfl) dX3_bestPane_46 hf (fun _ _ h9 => c_X3_refuse h9) (fun r19 s20 H locs hf hM => ?_)
  exact wt_iret hx hb hr hlk hK hM hf dX3_bestPane_49
end
set_option maxHeartbeats 4000000 in
set_option maxRecDepth 100000 in
theorem c_X3_bestPane {l : Launch} {D : va_G} {tI tII : ClassId} {B F : Nat} {x1 : Int32} {x2 : Int32} {x3 : Int32} {x4 : Int32} {σ σ' : Mem} {r : Int32} (hf : f_X3_bestPane F x1 x2 x3 x4 σ = some (r, σ')) : wt_Mi l yX3_bestPane cX3_bestPane 11 (some .int) rm_X3_bestPane [.ref (B + 0), .int x1, .int x2, .int x3, .int x4] D tI tII B σ r σ' := by
  refine Met.ofW (cc := cX3_bestPane) (maxL := 11) (ret := (some .int)) (by decide) rfl ?_
  intro p e s m args below meth c s₁ B9 hml hv
  obtain ⟨rfl, hP, hK⟩ := hv
  have hl := lv_entry ([.ref (B + 0), .int x1, .int x2, .int x3, .int x4]) (n := 11) (qz_b rfl)
  rw [lg_entry_eq]
  generalize (lg_sl ([.ref (B + 0), .int x1, .int x2, .int x3, .int x4]) ++ List.replicate (11 - (lg_sl ([.ref (B + 0), .int x1, .int x2, .int x3, .int x4])).length) Slot.unset).toArray = ls at hl ⊢
  exact w_X3_bestPane_0 (wt_C_of B9 hml hK) hf ⟨hP, va_S.rf⟩ hl
section
variable {p : Program} {l : Launch} {e : Env} {s : State} {m : MethodId} {args : Array Value} {below : List Frame} {meth : Method} {c : Code} {D : va_G} {tI tII : ClassId} {B : Nat}
set_option maxHeartbeats 4000000 in
set_option maxRecDepth 100000 in
theorem w_X3_freeHours_140 (C : wt_C p s m args meth c RX3 cX3_freeHours 8 (some .int) D tI tII) {F : Nat} {k52 : Int32 → Int32 → Mem → Option (Int32 × Mem)} {x1 : Int32} {x2 : Int32} {x4 : Int32} {x5 : Int32} {x6 : Int32} {σ : Mem} {r : Int32} {σ' : Mem} {H : Heap} {locs : List Loc} {ls : Array Slot} (hk52 : ∀ (x5 : Int32) (x6 : Int32) (σ : Mem) (H : Heap) (locs : List Loc) (ls : Array Slot), k52 x5 x6 σ = some (r, σ') → wt_St D tI tII B σ s H locs → lv_has ls 8 [(0, .ref (B + 0)), (1, .int x1), (2, .int x2), (4, .int x4), (5, .int x5), (6, .int x6)] → W p l e rm_X3_freeHours s m args below meth c H locs 0 0 (MQ below (wt_Qi D tI tII B r σ') args s 0 0 (fun q => B ≤ q)) (F0 m 52 ls [])) (hf : j_X3_freeHours_140 F k52 x1 x2 x4 x5 x6 σ = some (r, σ')) (hM : wt_St D tI tII B σ s H locs) (hl : lv_has ls 8 [(0, .ref (B + 0)), (1, .int x1), (2, .int x2), (4, .int x4), (5, .int x5), (6, .int x6)]) : W p l e rm_X3_freeHours s m args below meth c H locs 0 0 (MQ below (wt_Qi D tI tII B r σ') args s 0 0 (fun q => B ≤ q)) (F0 m 140 ls []) := by
  obtain ⟨hx, hb, hts, hown, hml, hr, hlk, hK⟩ := id C
  replace hf := Eq.trans j_X3_freeHours_140_e.symm hf
  refine lv_iinc (v := (x6 + (1 : Int32))) (lv' := [(6, .int (x6 + (1 : Int32))), (0, .ref (B + 0)), (1, .int x1), (2, .int x2), (4, .int x4), (5, .int x5)]) hx hb dX3_freeHours_140 hl (k := 5) rfl rfl (by decide) rfl (fun ls hl => ?_)
  refine lv_goto (tgt := 52) hx hb dX3_freeHours_143 (by decide) ?_
  exact hk52 _ _ _ _ _ _ hf hM (lv_sub hl [1, 2, 3, 4, 5, 0] rfl)
set_option maxHeartbeats 4000000 in
set_option maxRecDepth 100000 in
theorem w_X3_freeHours_125 (C : wt_C p s m args meth c RX3 cX3_freeHours 8 (some .int) D tI tII) {F : Nat} {k52 : Int32 → Int32 → Mem → Option (Int32 × Mem)} {x1 : Int32} {x2 : Int32} {x4 : Int32} {x5 : Int32} {x6 : Int32} {x7 : Int32} {σ : Mem} {r : Int32} {σ' : Mem} {H : Heap} {locs : List Loc} {ls : Array Slot} (hk52 : ∀ (x5 : Int32) (x6 : Int32) (σ : Mem) (H : Heap) (locs : List Loc) (ls : Array Slot), k52 x5 x6 σ = some (r, σ') → wt_St D tI tII B σ s H locs → lv_has ls 8 [(0, .ref (B + 0)), (1, .int x1), (2, .int x2), (4, .int x4), (5, .int x5), (6, .int x6)] → W p l e rm_X3_freeHours s m args below meth c H locs 0 0 (MQ below (wt_Qi D tI tII B r σ') args s 0 0 (fun q => B ≤ q)) (F0 m 52 ls [])) (hf : j_X3_freeHours_125 F k52 x1 x2 x4 x5 x6 x7 σ = some (r, σ')) (hM : wt_St D tI tII B σ s H locs) (hl : lv_has ls 8 [(0, .ref (B + 0)), (1, .int x1), (2, .int x2), (4, .int x4), (5, .int x5), (6, .int x6), (7, .int x7)]) : W p l e rm_X3_freeHours s m args below meth c H locs 0 0 (MQ below (wt_Qi D tI tII B r σ') args s 0 0 (fun q => B ≤ q)) (F0 m 125 ls []) := by
  obtain ⟨hx, hb, hts, hown, hml, hr, hlk, hK⟩ := id C
  replace hf := Eq.trans j_X3_freeHours_125_e.symm hf
  refine lv_aload_n hx hb dX3_freeHours_125 rfl (lv_at hl 0 rfl) ?_
  refine gf_X3_mind  hx hb hts hown hK hM tw_115 dX3_freeHours_126 ?_
  refine lv_iload_n hx hb dX3_freeHours_129 rfl (lv_at hl 1 rfl) ?_
  refine lv_iload hx hb dX3_freeHours_130 (lv_at hl 5 rfl) ?_
  refine lv_iload hx hb dX3_freeHours_132 (lv_at hl 5 rfl) ?_
  refine lv_iload hx hb dX3_freeHours_134 (lv_at hl 6 rfl) ?_
  refine wt_callVi (As := [.int x1, .int x6, .int x6, .int x7]) (rest := []) hx hb hml hts hown hK hM (wt_rc_X0 wt_h24) cw_X3_170 hd_X0_post rfl ⟨qz_b rfl, qz_b rfl⟩ ⟨rfl, rfl⟩ hl.1 rfl (qz_b rfl) dX3_freeHours_136 hf (fun _ _ h9 => c_X0_post wt_h24 h9) (fun r1 s2 H locs hf hM => ?_)
  refine lv_pop hx hb dX3_freeHours_139 rfl ?_
  exact w_X3_freeHours_140 C hk52 hf hM (lv_sub hl [0, 1, 2, 3, 4, 5] rfl)
set_option maxHeartbeats 4000000 in
set_option maxRecDepth 100000 in
theorem w_X3_freeHours_52 (C : wt_C p s m args meth c RX3 cX3_freeHours 8 (some .int) D tI tII) {F : Nat} {x1 : Int32} {x2 : Int32} {x4 : Int32} {r : Int32} {σ' : Mem} : ∀ (N : Nat) (x5 : Int32) (x6 : Int32) (σ : Mem) (H : Heap) (locs : List Loc) (ls : Array Slot), lp_X3_freeHours_52 F x1 x2 x4 N x5 x6 σ = some (r, σ') → wt_St D tI tII B σ s H locs → lv_has ls 8 [(0, .ref (B + 0)), (1, .int x1), (2, .int x2), (4, .int x4), (5, .int x5), (6, .int x6)] → W p l e rm_X3_freeHours s m args below meth c H locs 0 0 (MQ below (wt_Qi D tI tII B r σ') args s 0 0 (fun q => B ≤ q)) (F0 m 52 ls []) := by
  obtain ⟨hx, hb, hts, hown, hml, hr, hlk, hK⟩ := id C
  intro N
  induction N with
  | zero => intro x5 x6 σ H locs ls hf; exact wt_none (show (none : Option (Int32 × Mem)) = some (r, σ') from hf)
  | succ N ih =>
    intro x5 x6 σ H locs ls hf hM hl
    replace hf := Eq.trans lp_X3_freeHours_52_s.symm hf
    refine lv_iload hx hb dX3_freeHours_52 (lv_at hl 5 rfl) ?_
    refine lv_bipush (v := 24) hx hb dX3_freeHours_54 (by decide) ?_
    refine wq_icmp_ge (tgt := 146) hx hb dX3_freeHours_56 (by decide) hf (fun hf => ?_) (fun hf => ?_)
    · refine lv_iload hx hb dX3_freeHours_146 (lv_at hl 4 rfl) ?_
      exact wt_iret hx hb hr hlk hK hM hf dX3_freeHours_148
    refine lv_aload_n hx hb dX3_freeHours_59 rfl (lv_at hl 0 rfl) ?_
    refine gf_X3_house  hx hb hts hown hK hM tw_114 dX3_freeHours_60 ?_
    refine gf_X0_rosters wt_h1 hx hb hts hown hK hM tw_37 dX3_freeHours_63 ?_
    refine lv_iload_n hx hb dX3_freeHours_66 rfl (lv_at hl 1 rfl) ?_
    obtain ⟨i3, hf⟩ := wt_chk_of hf
    refine wt_ald hx hb hK hM (wt_aaH_4 wt_h1) i3 dX3_freeHours_67 ?_
    refine lv_iload hx hb dX3_freeHours_68 (lv_at hl 5 rfl) ?_
    obtain ⟨i4, hf⟩ := wt_chk_of hf
    refine wt_ild hx hb hK hM (wt_rH_4 wt_h1 i3) i4 dX3_freeHours_70 ?_
    refine wt_leti hf (fun z5 hf => ?_)
    refine lv_istore (lv' := [(7, .int z5), (0, .ref (B + 0)), (1, .int x1), (2, .int x2), (4, .int x4), (5, .int x5), (6, .int x6)]) hx hb dX3_freeHours_71 hl (by decide) rfl (fun ls hl => ?_)
    refine lv_iload hx hb dX3_freeHours_73 (lv_at hl 0 rfl) ?_
    refine lv_bipush (v := 9) hx hb dX3_freeHours_75 (by decide) ?_
    refine wq_icmp_eq (tgt := 140) hx hb dX3_freeHours_77 (by decide) hf (fun hf => ?_) (fun hf => ?_)
    · exact w_X3_freeHours_140 C ih hf hM (lv_sub hl [1, 2, 3, 4, 5, 6] rfl)
    refine lv_aload_n hx hb dX3_freeHours_80 rfl (lv_at hl 1 rfl) ?_
    refine gf_X3_mind  hx hb hts hown hK hM tw_115 dX3_freeHours_81 ?_
    refine lv_iload_n hx hb dX3_freeHours_84 rfl (lv_at hl 2 rfl) ?_
    refine lv_iload hx hb dX3_freeHours_85 (lv_at hl 6 rfl) ?_
    refine lv_iload hx hb dX3_freeHours_87 (lv_at hl 6 rfl) ?_
    refine lv_bipush (v := 9) hx hb dX3_freeHours_89 (by decide) ?_
    refine wt_callVi (As := [.int x1, .int x6, .int x6, .int (9 : Int32)]) (rest := []) hx hb hml hts hown hK hM (wt_rc_X0 wt_h24) cw_X3_170 hd_X0_post rfl ⟨qz_b rfl, qz_b rfl⟩ ⟨rfl, rfl⟩ hl.1 rfl (qz_b rfl) dX3_freeHours_91 hf (fun _ _ h9 => c_X0_post wt_h24 h9) (fun r6 s7 H locs hf hM => ?_)
    refine lv_pop hx hb dX3_freeHours_94 rfl ?_
    refine lv_aload_n hx hb dX3_freeHours_95 rfl (lv_at hl 1 rfl) ?_
    refine gf_X3_mind  hx hb hts hown hK hM tw_115 dX3_freeHours_96 ?_
    refine wt_callVv (As := []) (rest := []) hx hb hml hts hown hK hM (wt_rc_X0 wt_h24) cw_X3_141 hd_X0_reckon rfl ⟨qz_b rfl, qz_b rfl⟩ ⟨rfl, rfl⟩ hl.1 rfl (qz_b rfl) dX3_freeHours_99 hf (fun _ _ h9 => c_X0_reckon wt_h24 h9) (fun r8 s9 H locs hf hM => ?_)
    refine lv_aload_n hx hb dX3_freeHours_102 rfl (lv_at hl 1 rfl) ?_
    refine gf_X3_mind  hx hb hts hown hK hM tw_115 dX3_freeHours_103 ?_
    refine lv_iload_n hx hb dX3_freeHours_106 rfl (lv_at hl 2 rfl) ?_
    refine lv_iload_n hx hb dX3_freeHours_107 rfl (lv_at hl 3 rfl) ?_
    refine wt_callVi (As := [.int x1, .int x2]) (rest := []) hx hb hml hts hown hK hM (wt_rc_X0 wt_h24) cw_X3_144 hd_X0_holdings rfl ⟨qz_b rfl, qz_b rfl⟩ ⟨rfl, rfl⟩ hl.1 rfl (qz_b rfl) dX3_freeHours_108 hf (fun _ _ h9 => c_X0_holdings wt_h24 h9) (fun r10 s11 H locs hf hM => ?_)
    refine lv_iload hx hb dX3_freeHours_111 (lv_at hl 4 rfl) ?_
    refine wq_icmp_ne (tgt := 125) hx hb dX3_freeHours_113 (by decide) hf (fun hf => ?_) (fun hf => ?_)
    · exact w_X3_freeHours_125 C ih hf hM (lv_sub hl [1, 2, 3, 4, 5, 6, 0] rfl)
    refine lv_iload hx hb dX3_freeHours_116 (lv_at hl 5 rfl) ?_
    refine lv_iconst (v := 1) hx hb dX3_freeHours_118 (by decide) ?_
    refine lv_iload hx hb dX3_freeHours_119 (lv_at hl 6 rfl) ?_
    refine lv_ishl hx hb dX3_freeHours_121 ?_
    refine lv_ior hx hb dX3_freeHours_122 ?_
    refine wt_leti hf (fun z12 hf => ?_)
    refine lv_istore (lv' := [(5, .int z12), (7, .int z5), (0, .ref (B + 0)), (1, .int x1), (2, .int x2), (4, .int x4), (6, .int x6)]) hx hb dX3_freeHours_123 hl (by decide) rfl (fun ls hl => ?_)
    exact w_X3_freeHours_125 C ih hf hM (lv_sub hl [2, 3, 4, 5, 0, 6, 1] rfl)
set_option maxHeartbeats 4000000 in
set_option maxRecDepth 100000 in
theorem w_X3_freeHours_0 (C : wt_C p s m args meth c RX3 cX3_freeHours 8 (some .int) D tI tII) {F : Nat} {x1 : Int32} {x2 : Int32} {σ : Mem} {r : Int32} {σ' : Mem} {H : Heap} {locs : List Loc} {ls : Array Slot} (hf : f_X3_freeHours F x1 x2 σ = some (r, σ')) (hM : wt_St D tI tII B σ s H locs) (hl : lv_has ls 8 [(0, .ref (B + 0)), (1, .int x1), (2, .int x2)]) : W p l e rm_X3_freeHours s m args below meth c H locs 0 0 (MQ below (wt_Qi D tI tII B r σ') args s 0 0 (fun q => B ≤ q)) (F0 m 0 ls []) := by
  obtain ⟨hx, hb, hts, hown, hml, hr, hlk, hK⟩ := id C
  replace hf := Eq.trans f_X3_freeHours_e.symm hf
  refine lv_aload_n hx hb dX3_freeHours_0 rfl (lv_at hl 0 rfl) ?_
  refine lv_iload_n hx hb dX3_freeHours_1 rfl (lv_at hl 1 rfl) ?_
  refine lv_iload_n hx hb dX3_freeHours_2 rfl (lv_at hl 2 rfl) ?_
  refine wt_callVi (As := [.int x1, .int x2]) (rest := []) hx hb hml hts hown hK hM wt_rc_X3 cw_X3_226 hd_X3_noLookerFar rfl ⟨qz_b rfl, qz_b rfl⟩ ⟨rfl, rfl⟩ hl.1 rfl (qz_b rfl) dX3_freeHours_3 hf (fun _ _ h9 => c_X3_noLookerFar h9) (fun r13 s14 H locs hf hM => ?_)
  refine lv_istore_n (lv' := [(3, .int r13), (0, .ref (B + 0)), (1, .int x1), (2, .int x2)]) hx hb dX3_freeHours_6 rfl hl (by decide) rfl (fun ls hl => ?_)
  refine lv_iload_n hx hb dX3_freeHours_7 rfl (lv_at hl 0 rfl) ?_
  refine wq_if_eq (tgt := 17) hx hb dX3_freeHours_8 (by decide) hf (fun hf => ?_) (fun hf => ?_)
  · refine lv_aload_n hx hb dX3_freeHours_17 rfl (lv_at hl 1 rfl) ?_
    refine gf_X3_house  hx hb hts hown hK hM tw_114 dX3_freeHours_18 ?_
    refine wt_callVv (As := []) (rest := []) hx hb hml hts hown hK hM (wt_rc_X0 wt_h1) cw_X3_141 hd_X0_reckon rfl ⟨qz_b rfl, qz_b rfl⟩ ⟨rfl, rfl⟩ hl.1 rfl (qz_b rfl) dX3_freeHours_21 hf (fun _ _ h9 => c_X0_reckon wt_h1 h9) (fun r15 s16 H locs hf hM => ?_)
    refine lv_aload_n hx hb dX3_freeHours_24 rfl (lv_at hl 1 rfl) ?_
    refine gf_X3_mind  hx hb hts hown hK hM tw_115 dX3_freeHours_25 ?_
    refine lv_aload_n hx hb dX3_freeHours_28 rfl (lv_at hl 1 rfl) ?_
    refine gf_X3_house  hx hb hts hown hK hM tw_114 dX3_freeHours_29 ?_
    refine wt_callVv (As := [.ref (B + 1)]) (rest := []) hx hb hml hts hown hK hM (wt_rc_X0 wt_h24) cw_X3_106 hd_X0_takeFrom rfl ⟨qz_b rfl, qz_b rfl⟩ ⟨rfl, rfl⟩ hl.1 rfl (qz_b rfl) dX3_freeHours_32 hf (fun _ _ h9 => c_X0_takeFrom wt_h24 wt_h1 h9) (fun r17 s18 H locs hf hM => ?_)
    refine lv_aload_n hx hb dX3_freeHours_35 rfl (lv_at hl 1 rfl) ?_
    refine gf_X3_house  hx hb hts hown hK hM tw_114 dX3_freeHours_36 ?_
    refine lv_iload_n hx hb dX3_freeHours_39 rfl (lv_at hl 2 rfl) ?_
    refine lv_iload_n hx hb dX3_freeHours_40 rfl (lv_at hl 3 rfl) ?_
    refine wt_callVi (As := [.int x1, .int x2]) (rest := []) hx hb hml hts hown hK hM (wt_rc_X0 wt_h1) cw_X3_144 hd_X0_holdings rfl ⟨qz_b rfl, qz_b rfl⟩ ⟨rfl, rfl⟩ hl.1 rfl (qz_b rfl) dX3_freeHours_41 hf (fun _ _ h9 => c_X0_holdings wt_h1 h9) (fun r19 s20 H locs hf hM => ?_)
    refine lv_istore (lv' := [(4, .int r19), (3, .int r13), (0, .ref (B + 0)), (1, .int x1), (2, .int x2)]) hx hb dX3_freeHours_44 hl (by decide) rfl (fun ls hl => ?_)
    refine lv_iconst (v := 0) hx hb dX3_freeHours_46 (by decide) ?_
    refine lv_istore (lv' := [(5, .int (0 : Int32)), (4, .int r19), (3, .int r13), (0, .ref (B + 0)), (1, .int x1), (2, .int x2)]) hx hb dX3_freeHours_47 hl (by decide) rfl (fun ls hl => ?_)
    refine lv_iconst (v := 0) hx hb dX3_freeHours_49 (by decide) ?_
    refine lv_istore (lv' := [(6, .int (0 : Int32)), (5, .int (0 : Int32)), (4, .int r19), (3, .int r13), (0, .ref (B + 0)), (1, .int x1), (2, .int x2)]) hx hb dX3_freeHours_50 hl (by decide) rfl (fun ls hl => ?_)
    exact w_X3_freeHours_52 C _ _ _ _ _ _ _ hf hM (lv_sub hl [4, 5, 6, 2, 1, 0] rfl)
  refine lv_aload_n hx hb dX3_freeHours_11 rfl (lv_at hl 1 rfl) ?_
  refine lv_iload_n hx hb dX3_freeHours_12 rfl (lv_at hl 0 rfl) ?_
  refine wt_callVi (As := [.int r13]) (rest := []) hx hb hml hts hown hK hM wt_rc_X3 cw_X3_61 hd_X3_refuse rfl ⟨qz_b rfl, qz_b rfl⟩ ⟨rfl, rfl⟩ hl.1 rfl (qz_b rfl) dX3_freeHours_13 hf (fun _ _ h9 => c_X3_refuse h9) (fun r21 s22 H locs hf hM => ?_)
  exact wt_iret hx hb hr hlk hK hM hf dX3_freeHours_16
end
set_option maxHeartbeats 4000000 in
set_option maxRecDepth 100000 in
theorem c_X3_freeHours {l : Launch} {D : va_G} {tI tII : ClassId} {B F : Nat} {x1 : Int32} {x2 : Int32} {σ σ' : Mem} {r : Int32} (hf : f_X3_freeHours F x1 x2 σ = some (r, σ')) : wt_Mi l yX3_freeHours cX3_freeHours 8 (some .int) rm_X3_freeHours [.ref (B + 0), .int x1, .int x2] D tI tII B σ r σ' := by
  refine Met.ofW (cc := cX3_freeHours) (maxL := 8) (ret := (some .int)) (by decide) rfl ?_
  intro p e s m args below meth c s₁ B9 hml hv
  obtain ⟨rfl, hP, hK⟩ := hv
  have hl := lv_entry ([.ref (B + 0), .int x1, .int x2]) (n := 8) (qz_b rfl)
  rw [lg_entry_eq]
  generalize (lg_sl ([.ref (B + 0), .int x1, .int x2]) ++ List.replicate (8 - (lg_sl ([.ref (B + 0), .int x1, .int x2])).length) Slot.unset).toArray = ls at hl ⊢
  exact w_X3_freeHours_0 (wt_C_of B9 hml hK) hf ⟨hP, va_S.rf⟩ hl
section
variable {p : Program} {l : Launch} {e : Env} {s : State} {m : MethodId} {args : Array Value} {below : List Frame} {meth : Method} {c : Code} {D : va_G} {tI tII : ClassId} {B : Nat}
set_option maxHeartbeats 4000000 in
set_option maxRecDepth 100000 in
theorem w_X3_cover_60 (C : wt_C p s m args meth c RX3 cX3_cover 4 (some .int) D tI tII) {F : Nat} {k22 : Int32 → Int32 → Mem → Option (Int32 × Mem)} {x1 : Int32} {x2 : Int32} {x3 : Int32} {σ : Mem} {r : Int32} {σ' : Mem} {H : Heap} {locs : List Loc} {ls : Array Slot} (hk22 : ∀ (x2 : Int32) (x3 : Int32) (σ : Mem) (H : Heap) (locs : List Loc) (ls : Array Slot), k22 x2 x3 σ = some (r, σ') → wt_St D tI tII B σ s H locs → lv_has ls 4 [(0, .ref (B + 0)), (1, .int x1), (2, .int x2), (3, .int x3)] → W p l e rm_X3_cover s m args below meth c H locs 0 0 (MQ below (wt_Qi D tI tII B r σ') args s 0 0 (fun q => B ≤ q)) (F0 m 22 ls [])) (hf : j_X3_cover_60 F k22 x1 x2 x3 σ = some (r, σ')) (hM : wt_St D tI tII B σ s H locs) (hl : lv_has ls 4 [(0, .ref (B + 0)), (1, .int x1), (2, .int x2), (3, .int x3)]) : W p l e rm_X3_cover s m args below meth c H locs 0 0 (MQ below (wt_Qi D tI tII B r σ') args s 0 0 (fun q => B ≤ q)) (F0 m 60 ls []) := by
  obtain ⟨hx, hb, hts, hown, hml, hr, hlk, hK⟩ := id C
  replace hf := Eq.trans j_X3_cover_60_e.symm hf
  refine lv_iinc (v := (x3 + (1 : Int32))) (lv' := [(3, .int (x3 + (1 : Int32))), (0, .ref (B + 0)), (1, .int x1), (2, .int x2)]) hx hb dX3_cover_60 hl (k := 3) rfl rfl (by decide) rfl (fun ls hl => ?_)
  refine lv_goto (tgt := 22) hx hb dX3_cover_63 (by decide) ?_
  exact hk22 _ _ _ _ _ _ hf hM (lv_sub hl [1, 2, 3, 0] rfl)
set_option maxHeartbeats 4000000 in
set_option maxRecDepth 100000 in
theorem w_X3_cover_22 (C : wt_C p s m args meth c RX3 cX3_cover 4 (some .int) D tI tII) {F : Nat} {x1 : Int32} {r : Int32} {σ' : Mem} : ∀ (N : Nat) (x2 : Int32) (x3 : Int32) (σ : Mem) (H : Heap) (locs : List Loc) (ls : Array Slot), lp_X3_cover_22 F x1 N x2 x3 σ = some (r, σ') → wt_St D tI tII B σ s H locs → lv_has ls 4 [(0, .ref (B + 0)), (1, .int x1), (2, .int x2), (3, .int x3)] → W p l e rm_X3_cover s m args below meth c H locs 0 0 (MQ below (wt_Qi D tI tII B r σ') args s 0 0 (fun q => B ≤ q)) (F0 m 22 ls []) := by
  obtain ⟨hx, hb, hts, hown, hml, hr, hlk, hK⟩ := id C
  intro N
  induction N with
  | zero => intro x2 x3 σ H locs ls hf; exact wt_none (show (none : Option (Int32 × Mem)) = some (r, σ') from hf)
  | succ N ih =>
    intro x2 x3 σ H locs ls hf hM hl
    replace hf := Eq.trans lp_X3_cover_22_s.symm hf
    refine lv_iload_n hx hb dX3_cover_22 rfl (lv_at hl 3 rfl) ?_
    refine lv_iconst (v := 1) hx hb dX3_cover_23 (by decide) ?_
    refine lv_aload_n hx hb dX3_cover_24 rfl (lv_at hl 0 rfl) ?_
    refine gf_X3_house  hx hb hts hown hK hM tw_114 dX3_cover_25 ?_
    refine gf_X0_paneCount wt_h1 hx hb hts hown hK hM tw_26 dX3_cover_28 ?_
    refine lv_ishl hx hb dX3_cover_31 ?_
    refine wq_icmp_ge (tgt := 66) hx hb dX3_cover_32 (by decide) hf (fun hf => ?_) (fun hf => ?_)
    · refine lv_iload_n hx hb dX3_cover_66 rfl (lv_at hl 2 rfl) ?_
      exact wt_iret hx hb hr hlk hK hM hf dX3_cover_67
    refine lv_iload_n hx hb dX3_cover_35 rfl (lv_at hl 3 rfl) ?_
    refine wt_callSi (As := [.int x3]) (rest := []) hx hb hml hts hown hK hM cw_X3_208 hd_J6_bitCount_0f7a4 rfl ⟨qz_b rfl, qz_b rfl⟩ ⟨rfl, rfl⟩ hl.1 rfl (qz_b rfl) dX3_cover_36 hf (fun _ _ h9 => c_J6_bitCount_0f7a4 h9) (fun r1 s2 H locs hf hM => ?_)
    refine lv_iload_n hx hb dX3_cover_39 rfl (lv_at hl 2 rfl) ?_
    refine wt_callSi (As := [.int x2]) (rest := [.int r1]) hx hb hml hts hown hK hM cw_X3_208 hd_J6_bitCount_0f7a4 rfl ⟨qz_b rfl, qz_b rfl⟩ ⟨rfl, rfl⟩ hl.1 rfl (qz_b rfl) dX3_cover_40 hf (fun _ _ h9 => c_J6_bitCount_0f7a4 h9) (fun r3 s4 H locs hf hM => ?_)
    refine wq_icmp_ge (tgt := 60) hx hb dX3_cover_43 (by decide) hf (fun hf => ?_) (fun hf => ?_)
    · exact w_X3_cover_60 C ih hf hM hl
    refine lv_aload_n hx hb dX3_cover_46 rfl (lv_at hl 0 rfl) ?_
    refine gf_X3_house  hx hb hts hown hK hM tw_114 dX3_cover_47 ?_
    refine lv_iload_n hx hb dX3_cover_50 rfl (lv_at hl 3 rfl) ?_
    refine wt_callVi (As := [.int x3]) (rest := []) hx hb hml hts hown hK hM (wt_rc_X0 wt_h1) cw_X3_254 hd_X0_shownBy rfl ⟨qz_b rfl, qz_b rfl⟩ ⟨rfl, rfl⟩ hl.1 rfl (qz_b rfl) dX3_cover_51 hf (fun _ _ h9 => c_X0_shownBy wt_h1 h9) (fun r5 s6 H locs hf hM => ?_)
    refine lv_iload_n hx hb dX3_cover_54 rfl (lv_at hl 1 rfl) ?_
    refine wq_icmp_ne (tgt := 60) hx hb dX3_cover_55 (by decide) hf (fun hf => ?_) (fun hf => ?_)
    · exact w_X3_cover_60 C ih hf hM hl
    refine lv_iload_n hx hb dX3_cover_58 rfl (lv_at hl 3 rfl) ?_
    refine lv_istore_n (lv' := [(2, .int x3), (0, .ref (B + 0)), (1, .int x1), (3, .int x3)]) hx hb dX3_cover_59 rfl hl (by decide) rfl (fun ls hl => ?_)
    exact w_X3_cover_60 C ih hf hM (lv_sub hl [1, 2, 0, 3] rfl)
set_option maxHeartbeats 4000000 in
set_option maxRecDepth 100000 in
theorem w_X3_cover_0 (C : wt_C p s m args meth c RX3 cX3_cover 4 (some .int) D tI tII) {F : Nat} {σ : Mem} {r : Int32} {σ' : Mem} {H : Heap} {locs : List Loc} {ls : Array Slot} (hf : f_X3_cover F σ = some (r, σ')) (hM : wt_St D tI tII B σ s H locs) (hl : lv_has ls 4 [(0, .ref (B + 0))]) : W p l e rm_X3_cover s m args below meth c H locs 0 0 (MQ below (wt_Qi D tI tII B r σ') args s 0 0 (fun q => B ≤ q)) (F0 m 0 ls []) := by
  obtain ⟨hx, hb, hts, hown, hml, hr, hlk, hK⟩ := id C
  replace hf := Eq.trans f_X3_cover_e.symm hf
  refine lv_aload_n hx hb dX3_cover_0 rfl (lv_at hl 0 rfl) ?_
  refine gf_X3_house  hx hb hts hown hK hM tw_114 dX3_cover_1 ?_
  refine wt_callVi (As := []) (rest := []) hx hb hml hts hown hK hM (wt_rc_X0 wt_h1) cw_X3_251 hd_X0_allShown rfl ⟨qz_b rfl, qz_b rfl⟩ ⟨rfl, rfl⟩ hl.1 rfl (qz_b rfl) dX3_cover_4 hf (fun _ _ h9 => c_X0_allShown wt_h1 h9) (fun r7 s8 H locs hf hM => ?_)
  refine lv_istore_n (lv' := [(1, .int r7), (0, .ref (B + 0))]) hx hb dX3_cover_7 rfl hl (by decide) rfl (fun ls hl => ?_)
  refine lv_iconst (v := 1) hx hb dX3_cover_8 (by decide) ?_
  refine lv_aload_n hx hb dX3_cover_9 rfl (lv_at hl 1 rfl) ?_
  refine gf_X3_house  hx hb hts hown hK hM tw_114 dX3_cover_10 ?_
  refine gf_X0_paneCount wt_h1 hx hb hts hown hK hM tw_26 dX3_cover_13 ?_
  refine lv_ishl hx hb dX3_cover_16 ?_
  refine lv_iconst (v := 1) hx hb dX3_cover_17 (by decide) ?_
  refine lv_isub hx hb dX3_cover_18 ?_
  refine wt_leti hf (fun z9 hf => ?_)
  refine lv_istore_n (lv' := [(2, .int z9), (1, .int r7), (0, .ref (B + 0))]) hx hb dX3_cover_19 rfl hl (by decide) rfl (fun ls hl => ?_)
  refine lv_iconst (v := 0) hx hb dX3_cover_20 (by decide) ?_
  refine lv_istore_n (lv' := [(3, .int (0 : Int32)), (2, .int z9), (1, .int r7), (0, .ref (B + 0))]) hx hb dX3_cover_21 rfl hl (by decide) rfl (fun ls hl => ?_)
  exact w_X3_cover_22 C _ _ _ _ _ _ _ hf hM (lv_sub hl [3, 2, 1, 0] rfl)
end
set_option maxHeartbeats 4000000 in
set_option maxRecDepth 100000 in
theorem c_X3_cover {l : Launch} {D : va_G} {tI tII : ClassId} {B F : Nat} {σ σ' : Mem} {r : Int32} (hf : f_X3_cover F σ = some (r, σ')) : wt_Mi l yX3_cover cX3_cover 4 (some .int) rm_X3_cover [.ref (B + 0)] D tI tII B σ r σ' := by
  refine Met.ofW (cc := cX3_cover) (maxL := 4) (ret := (some .int)) (by decide) rfl ?_
  intro p e s m args below meth c s₁ B9 hml hv
  obtain ⟨rfl, hP, hK⟩ := hv
  have hl := lv_entry ([.ref (B + 0)]) (n := 4) (qz_b rfl)
  rw [lg_entry_eq]
  generalize (lg_sl ([.ref (B + 0)]) ++ List.replicate (4 - (lg_sl ([.ref (B + 0)])).length) Slot.unset).toArray = ls at hl ⊢
  exact w_X3_cover_0 (wt_C_of B9 hml hK) hf ⟨hP, va_S.rf⟩ hl
section
variable {p : Program} {l : Launch} {e : Env} {s : State} {m : MethodId} {args : Array Value} {below : List Frame} {meth : Method} {c : Code} {D : va_G} {tI tII : ClassId} {B : Nat}
set_option maxHeartbeats 4000000 in
set_option maxRecDepth 100000 in
theorem w_X3_shown_0 (C : wt_C p s m args meth c RX3 cX3_shown 2 (some .int) D tI tII) {F : Nat} {x1 : Int32} {σ : Mem} {r : Int32} {σ' : Mem} {H : Heap} {locs : List Loc} {ls : Array Slot} (hf : f_X3_shown F x1 σ = some (r, σ')) (hM : wt_St D tI tII B σ s H locs) (hl : lv_has ls 2 [(0, .ref (B + 0)), (1, .int x1)]) : W p l e rm_X3_shown s m args below meth c H locs 0 0 (MQ below (wt_Qi D tI tII B r σ') args s 0 0 (fun q => B ≤ q)) (F0 m 0 ls []) := by
  obtain ⟨hx, hb, hts, hown, hml, hr, hlk, hK⟩ := id C
  replace hf := Eq.trans f_X3_shown_e.symm hf
  refine lv_iload_n hx hb dX3_shown_0 rfl (lv_at hl 1 rfl) ?_
  refine wt_callSi (As := [.int x1]) (rest := []) hx hb hml hts hown hK hM cw_X3_65 hd_X0_isView rfl ⟨qz_b rfl, qz_b rfl⟩ ⟨rfl, rfl⟩ hl.1 rfl (qz_b rfl) dX3_shown_1 hf (fun _ _ h9 => c_X0_isView h9) (fun r1 s2 H locs hf hM => ?_)
  refine wq_if_ne (tgt := 13) hx hb dX3_shown_4 (by decide) hf (fun hf => ?_) (fun hf => ?_)
  · refine lv_aload_n hx hb dX3_shown_13 rfl (lv_at hl 0 rfl) ?_
    refine gf_X3_house  hx hb hts hown hK hM tw_114 dX3_shown_14 ?_
    refine lv_iload_n hx hb dX3_shown_17 rfl (lv_at hl 1 rfl) ?_
    refine wt_callVi (As := [.int x1]) (rest := []) hx hb hml hts hown hK hM (wt_rc_X0 wt_h1) cw_X3_238 hd_X0_timesShown rfl ⟨qz_b rfl, qz_b rfl⟩ ⟨rfl, rfl⟩ hl.1 rfl (qz_b rfl) dX3_shown_18 hf (fun _ _ h9 => c_X0_timesShown wt_h1 h9) (fun r3 s4 H locs hf hM => ?_)
    exact wt_iret hx hb hr hlk hK hM hf dX3_shown_21
  refine lv_aload_n hx hb dX3_shown_7 rfl (lv_at hl 0 rfl) ?_
  refine lv_iconst (v := -1) hx hb dX3_shown_8 (by decide) ?_
  refine wt_callVi (As := [.int (-1 : Int32)]) (rest := []) hx hb hml hts hown hK hM wt_rc_X3 cw_X3_61 hd_X3_refuse rfl ⟨qz_b rfl, qz_b rfl⟩ ⟨rfl, rfl⟩ hl.1 rfl (qz_b rfl) dX3_shown_9 hf (fun _ _ h9 => c_X3_refuse h9) (fun r5 s6 H locs hf hM => ?_)
  exact wt_iret hx hb hr hlk hK hM hf dX3_shown_12
end
set_option maxHeartbeats 4000000 in
set_option maxRecDepth 100000 in
theorem c_X3_shown {l : Launch} {D : va_G} {tI tII : ClassId} {B F : Nat} {x1 : Int32} {σ σ' : Mem} {r : Int32} (hf : f_X3_shown F x1 σ = some (r, σ')) : wt_Mi l yX3_shown cX3_shown 2 (some .int) rm_X3_shown [.ref (B + 0), .int x1] D tI tII B σ r σ' := by
  refine Met.ofW (cc := cX3_shown) (maxL := 2) (ret := (some .int)) (by decide) rfl ?_
  intro p e s m args below meth c s₁ B9 hml hv
  obtain ⟨rfl, hP, hK⟩ := hv
  have hl := lv_entry ([.ref (B + 0), .int x1]) (n := 2) (qz_b rfl)
  rw [lg_entry_eq]
  generalize (lg_sl ([.ref (B + 0), .int x1]) ++ List.replicate (2 - (lg_sl ([.ref (B + 0), .int x1])).length) Slot.unset).toArray = ls at hl ⊢
  exact w_X3_shown_0 (wt_C_of B9 hml hK) hf ⟨hP, va_S.rf⟩ hl
section
variable {p : Program} {l : Launch} {e : Env} {s : State} {m : MethodId} {args : Array Value} {below : List Frame} {meth : Method} {c : Code} {D : va_G} {tI tII : ClassId} {B : Nat}
set_option maxHeartbeats 4000000 in
set_option maxRecDepth 100000 in
theorem w_X3_wealthWalled_0 (C : wt_C p s m args meth c RX3 cX3_wealthWalled 6 (some .int) D tI tII) {F : Nat} {x1 : Int32} {x2 : Int32} {x3 : Int32} {x4 : Int32} {σ : Mem} {r : Int32} {σ' : Mem} {H : Heap} {locs : List Loc} {ls : Array Slot} (hf : f_X3_wealthWalled F x1 x2 x3 x4 σ = some (r, σ')) (hM : wt_St D tI tII B σ s H locs) (hl : lv_has ls 6 [(0, .ref (B + 0)), (1, .int x1), (2, .int x2), (3, .int x3), (4, .int x4)]) : W p l e rm_X3_wealthWalled s m args below meth c H locs 0 0 (MQ below (wt_Qi D tI tII B r σ') args s 0 0 (fun q => B ≤ q)) (F0 m 0 ls []) := by
  obtain ⟨hx, hb, hts, hown, hml, hr, hlk, hK⟩ := id C
  replace hf := Eq.trans f_X3_wealthWalled_e.symm hf
  refine lv_aload_n hx hb dX3_wealthWalled_0 rfl (lv_at hl 0 rfl) ?_
  refine gf_X3_mind  hx hb hts hown hK hM tw_115 dX3_wealthWalled_1 ?_
  refine lv_iload_n hx hb dX3_wealthWalled_4 rfl (lv_at hl 2 rfl) ?_
  refine lv_iload_n hx hb dX3_wealthWalled_5 rfl (lv_at hl 3 rfl) ?_
  refine wt_callVi (As := [.int x2, .int x3]) (rest := []) hx hb hml hts hown hK hM (wt_rc_X0 wt_h24) cw_X3_181 hd_X0_flip rfl ⟨qz_b rfl, qz_b rfl⟩ ⟨rfl, rfl⟩ hl.1 rfl (qz_b rfl) dX3_wealthWalled_6 hf (fun _ _ h9 => c_X0_flip wt_h24 h9) (fun r1 s2 H locs hf hM => ?_)
  refine lv_pop hx hb dX3_wealthWalled_9 rfl ?_
  refine lv_aload_n hx hb dX3_wealthWalled_10 rfl (lv_at hl 0 rfl) ?_
  refine gf_X3_mind  hx hb hts hown hK hM tw_115 dX3_wealthWalled_11 ?_
  refine wt_callVv (As := []) (rest := []) hx hb hml hts hown hK hM (wt_rc_X0 wt_h24) cw_X3_141 hd_X0_reckon rfl ⟨qz_b rfl, qz_b rfl⟩ ⟨rfl, rfl⟩ hl.1 rfl (qz_b rfl) dX3_wealthWalled_14 hf (fun _ _ h9 => c_X0_reckon wt_h24 h9) (fun r3 s4 H locs hf hM => ?_)
  refine lv_aload_n hx hb dX3_wealthWalled_17 rfl (lv_at hl 0 rfl) ?_
  refine gf_X3_mind  hx hb hts hown hK hM tw_115 dX3_wealthWalled_18 ?_
  refine lv_iload_n hx hb dX3_wealthWalled_21 rfl (lv_at hl 1 rfl) ?_
  refine lv_iload hx hb dX3_wealthWalled_22 (lv_at hl 4 rfl) ?_
  refine wt_callVi (As := [.int x1, .int x4]) (rest := []) hx hb hml hts hown hK hM (wt_rc_X0 wt_h24) cw_X3_229 hd_X0_wealth rfl ⟨qz_b rfl, qz_b rfl⟩ ⟨rfl, rfl⟩ hl.1 rfl (qz_b rfl) dX3_wealthWalled_24 hf (fun _ _ h9 => c_X0_wealth wt_h24 h9) (fun r5 s6 H locs hf hM => ?_)
  refine lv_istore (lv' := [(5, .int r5), (0, .ref (B + 0)), (1, .int x1), (2, .int x2), (3, .int x3), (4, .int x4)]) hx hb dX3_wealthWalled_27 hl (by decide) rfl (fun ls hl => ?_)
  refine lv_aload_n hx hb dX3_wealthWalled_29 rfl (lv_at hl 1 rfl) ?_
  refine gf_X3_mind  hx hb hts hown hK hM tw_115 dX3_wealthWalled_30 ?_
  refine lv_iload_n hx hb dX3_wealthWalled_33 rfl (lv_at hl 3 rfl) ?_
  refine lv_iload_n hx hb dX3_wealthWalled_34 rfl (lv_at hl 4 rfl) ?_
  refine wt_callVi (As := [.int x2, .int x3]) (rest := []) hx hb hml hts hown hK hM (wt_rc_X0 wt_h24) cw_X3_181 hd_X0_flip rfl ⟨qz_b rfl, qz_b rfl⟩ ⟨rfl, rfl⟩ hl.1 rfl (qz_b rfl) dX3_wealthWalled_35 hf (fun _ _ h9 => c_X0_flip wt_h24 h9) (fun r7 s8 H locs hf hM => ?_)
  refine lv_pop hx hb dX3_wealthWalled_38 rfl ?_
  refine lv_iload hx hb dX3_wealthWalled_39 (lv_at hl 0 rfl) ?_
  exact wt_iret hx hb hr hlk hK hM hf dX3_wealthWalled_41
end
set_option maxHeartbeats 4000000 in
set_option maxRecDepth 100000 in
theorem c_X3_wealthWalled {l : Launch} {D : va_G} {tI tII : ClassId} {B F : Nat} {x1 : Int32} {x2 : Int32} {x3 : Int32} {x4 : Int32} {σ σ' : Mem} {r : Int32} (hf : f_X3_wealthWalled F x1 x2 x3 x4 σ = some (r, σ')) : wt_Mi l yX3_wealthWalled cX3_wealthWalled 6 (some .int) rm_X3_wealthWalled [.ref (B + 0), .int x1, .int x2, .int x3, .int x4] D tI tII B σ r σ' := by
  refine Met.ofW (cc := cX3_wealthWalled) (maxL := 6) (ret := (some .int)) (by decide) rfl ?_
  intro p e s m args below meth c s₁ B9 hml hv
  obtain ⟨rfl, hP, hK⟩ := hv
  have hl := lv_entry ([.ref (B + 0), .int x1, .int x2, .int x3, .int x4]) (n := 6) (qz_b rfl)
  rw [lg_entry_eq]
  generalize (lg_sl ([.ref (B + 0), .int x1, .int x2, .int x3, .int x4]) ++ List.replicate (6 - (lg_sl ([.ref (B + 0), .int x1, .int x2, .int x3, .int x4])).length) Slot.unset).toArray = ls at hl ⊢
  exact w_X3_wealthWalled_0 (wt_C_of B9 hml hK) hf ⟨hP, va_S.rf⟩ hl
