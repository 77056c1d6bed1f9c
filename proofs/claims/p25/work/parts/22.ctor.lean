theorem dX0_init_0 : decode cX0_init 0 = .ok (.aload_n 0, 1) := qd_p qo_42 (by decide +kernel)
theorem dX0_init_1 : decode cX0_init 1 = .ok (.invokespecial 3, 3) := qz_2 .invokespecial 0 3 qo_183 (by decide +kernel) rfl
theorem dX0_init_4 : decode cX0_init 4 = .ok (.aload_n 0, 1) := qd_p qo_42 (by decide +kernel)
theorem dX0_init_5 : decode cX0_init 5 = .ok (.iconst 0, 1) := qd_p qo_3 (by decide +kernel)
theorem dX0_init_6 : decode cX0_init 6 = .ok (.putfield 9, 3) := qz_2 .putfield 0 9 qo_181 (by decide +kernel) rfl
theorem dX0_init_9 : decode cX0_init 9 = .ok (.aload_n 0, 1) := qd_p qo_42 (by decide +kernel)
theorem dX0_init_10 : decode cX0_init 10 = .ok (.bipush 6, 2) := qz_s1 .bipush 6 qo_16 (by decide +kernel) rfl
theorem dX0_init_12 : decode cX0_init 12 = .ok (.newarray .int, 2) := by decide +kernel
theorem dX0_init_14 : decode cX0_init 14 = .ok (.putfield 15, 3) := qz_2 .putfield 0 15 qo_181 (by decide +kernel) rfl
theorem dX0_init_17 : decode cX0_init 17 = .ok (.aload_n 0, 1) := qd_p qo_42 (by decide +kernel)
theorem dX0_init_18 : decode cX0_init 18 = .ok (.iconst 0, 1) := qd_p qo_3 (by decide +kernel)
theorem dX0_init_19 : decode cX0_init 19 = .ok (.putfield 19, 3) := qz_2 .putfield 0 19 qo_181 (by decide +kernel) rfl
theorem dX0_init_22 : decode cX0_init 22 = .ok (.aload_n 0, 1) := qd_p qo_42 (by decide +kernel)
theorem dX0_init_23 : decode cX0_init 23 = .ok (.iconst 5, 1) := qd_p qo_8 (by decide +kernel)
theorem dX0_init_24 : decode cX0_init 24 = .ok (.newarray .int, 2) := by decide +kernel
theorem dX0_init_26 : decode cX0_init 26 = .ok (.putfield 22, 3) := qz_2 .putfield 0 22 qo_181 (by decide +kernel) rfl
theorem dX0_init_29 : decode cX0_init 29 = .ok (.aload_n 0, 1) := qd_p qo_42 (by decide +kernel)
theorem dX0_init_30 : decode cX0_init 30 = .ok (.iconst 5, 1) := qd_p qo_8 (by decide +kernel)
theorem dX0_init_31 : decode cX0_init 31 = .ok (.newarray .int, 2) := by decide +kernel
theorem dX0_init_33 : decode cX0_init 33 = .ok (.putfield 25, 3) := qz_2 .putfield 0 25 qo_181 (by decide +kernel) rfl
theorem dX0_init_36 : decode cX0_init 36 = .ok (.aload_n 0, 1) := qd_p qo_42 (by decide +kernel)
theorem dX0_init_37 : decode cX0_init 37 = .ok (.iconst 5, 1) := qd_p qo_8 (by decide +kernel)
theorem dX0_init_38 : decode cX0_init 38 = .ok (.bipush 24, 2) := qz_s1 .bipush 24 qo_16 (by decide +kernel) rfl
theorem dX0_init_40 : decode cX0_init 40 = .ok (.multianewarray 28 2, 4) := by decide +kernel
theorem dX0_init_44 : decode cX0_init 44 = .ok (.putfield 30, 3) := qz_2 .putfield 0 30 qo_181 (by decide +kernel) rfl
theorem dX0_init_47 : decode cX0_init 47 = .ok (.aload_n 0, 1) := qd_p qo_42 (by decide +kernel)
theorem dX0_init_48 : decode cX0_init 48 = .ok (.iconst 5, 1) := qd_p qo_8 (by decide +kernel)
theorem dX0_init_49 : decode cX0_init 49 = .ok (.bipush 8, 2) := qz_s1 .bipush 8 qo_16 (by decide +kernel) rfl
theorem dX0_init_51 : decode cX0_init 51 = .ok (.multianewarray 28 2, 4) := by decide +kernel
theorem dX0_init_55 : decode cX0_init 55 = .ok (.putfield 33, 3) := qz_2 .putfield 0 33 qo_181 (by decide +kernel) rfl
theorem dX0_init_58 : decode cX0_init 58 = .ok (.aload_n 0, 1) := qd_p qo_42 (by decide +kernel)
theorem dX0_init_59 : decode cX0_init 59 = .ok (.bipush 8, 2) := qz_s1 .bipush 8 qo_16 (by decide +kernel) rfl
theorem dX0_init_61 : decode cX0_init 61 = .ok (.newarray .int, 2) := by decide +kernel
theorem dX0_init_63 : decode cX0_init 63 = .ok (.putfield 36, 3) := qz_2 .putfield 0 36 qo_181 (by decide +kernel) rfl
theorem dX0_init_66 : decode cX0_init 66 = .ok (.aload_n 0, 1) := qd_p qo_42 (by decide +kernel)
theorem dX0_init_67 : decode cX0_init 67 = .ok (.iconst 0, 1) := qd_p qo_3 (by decide +kernel)
theorem dX0_init_68 : decode cX0_init 68 = .ok (.putfield 39, 3) := qz_2 .putfield 0 39 qo_181 (by decide +kernel) rfl
theorem dX0_init_71 : decode cX0_init 71 = .ok (.aload_n 0, 1) := qd_p qo_42 (by decide +kernel)
theorem dX0_init_72 : decode cX0_init 72 = .ok (.iconst 0, 1) := qd_p qo_3 (by decide +kernel)
theorem dX0_init_73 : decode cX0_init 73 = .ok (.putfield 42, 3) := qz_2 .putfield 0 42 qo_181 (by decide +kernel) rfl
theorem dX0_init_76 : decode cX0_init 76 = .ok (.aload_n 0, 1) := qd_p qo_42 (by decide +kernel)
theorem dX0_init_77 : decode cX0_init 77 = .ok (.iconst 5, 1) := qd_p qo_8 (by decide +kernel)
theorem dX0_init_78 : decode cX0_init 78 = .ok (.bipush 8, 2) := qz_s1 .bipush 8 qo_16 (by decide +kernel) rfl
theorem dX0_init_80 : decode cX0_init 80 = .ok (.multianewarray 28 2, 4) := by decide +kernel
theorem dX0_init_84 : decode cX0_init 84 = .ok (.putfield 45, 3) := qz_2 .putfield 0 45 qo_181 (by decide +kernel) rfl
theorem dX0_init_87 : decode cX0_init 87 = .ok (.iconst 0, 1) := qd_p qo_3 (by decide +kernel)
theorem dX0_init_88 : decode cX0_init 88 = .ok (.istore_n 1, 1) := qd_p qo_60 (by decide +kernel)
theorem dX0_init_89 : decode cX0_init 89 = .ok (.iload_n 1, 1) := qd_p qo_27 (by decide +kernel)
theorem dX0_init_90 : decode cX0_init 90 = .ok (.bipush 8, 2) := qz_s1 .bipush 8 qo_16 (by decide +kernel) rfl
theorem dX0_init_92 : decode cX0_init 92 = .ok (.if_icmp .ge 16, 3) := qz_s2 (.if_icmp .ge) 0 16 qo_162 (by decide +kernel) rfl
theorem dX0_init_95 : decode cX0_init 95 = .ok (.aload_n 0, 1) := qd_p qo_42 (by decide +kernel)
theorem dX0_init_96 : decode cX0_init 96 = .ok (.getfield 36, 3) := qz_2 .getfield 0 36 qo_180 (by decide +kernel) rfl
theorem dX0_init_99 : decode cX0_init 99 = .ok (.iload_n 1, 1) := qd_p qo_27 (by decide +kernel)
theorem dX0_init_100 : decode cX0_init 100 = .ok (.iconst 1, 1) := qd_p qo_4 (by decide +kernel)
theorem dX0_init_101 : decode cX0_init 101 = .ok (.iastore, 1) := qd_p qo_79 (by decide +kernel)
theorem dX0_init_102 : decode cX0_init 102 = .ok (.iinc 1 1, 3) := qd_i (x := 1) (y := 1) qo_132 (by decide +kernel) rfl
theorem dX0_init_105 : decode cX0_init 105 = .ok (.goto (-16), 3) := qz_s2 .goto 255 240 qo_167 (by decide +kernel) rfl
theorem dX0_init_108 : decode cX0_init 108 = .ok (.return_, 1) := qd_p qo_177 (by decide +kernel)
theorem dX1_init_0 : decode cX1_init 0 = .ok (.aload_n 0, 1) := qd_p qo_42 (by decide +kernel)
theorem dX1_init_1 : decode cX1_init 1 = .ok (.invokespecial 3, 3) := qz_2 .invokespecial 0 3 qo_183 (by decide +kernel) rfl
theorem dX1_init_4 : decode cX1_init 4 = .ok (.aload_n 0, 1) := qd_p qo_42 (by decide +kernel)
theorem dX1_init_5 : decode cX1_init 5 = .ok (.bipush 96, 2) := qz_s1 .bipush 96 qo_16 (by decide +kernel) rfl
theorem dX1_init_7 : decode cX1_init 7 = .ok (.newarray .int, 2) := by decide +kernel
theorem dX1_init_9 : decode cX1_init 9 = .ok (.putfield 9, 3) := qz_2 .putfield 0 9 qo_181 (by decide +kernel) rfl
theorem dX1_init_12 : decode cX1_init 12 = .ok (.aload_n 0, 1) := qd_p qo_42 (by decide +kernel)
theorem dX1_init_13 : decode cX1_init 13 = .ok (.iconst 0, 1) := qd_p qo_3 (by decide +kernel)
theorem dX1_init_14 : decode cX1_init 14 = .ok (.putfield 15, 3) := qz_2 .putfield 0 15 qo_181 (by decide +kernel) rfl
theorem dX1_init_17 : decode cX1_init 17 = .ok (.return_, 1) := qd_p qo_177 (by decide +kernel)
theorem dX2_init_0 : decode cX2_init 0 = .ok (.aload_n 0, 1) := qd_p qo_42 (by decide +kernel)
theorem dX2_init_1 : decode cX2_init 1 = .ok (.invokespecial 3, 3) := qz_2 .invokespecial 0 3 qo_183 (by decide +kernel) rfl
theorem dX2_init_4 : decode cX2_init 4 = .ok (.aload_n 0, 1) := qd_p qo_42 (by decide +kernel)
theorem dX2_init_5 : decode cX2_init 5 = .ok (.bipush 8, 2) := qz_s1 .bipush 8 qo_16 (by decide +kernel) rfl
theorem dX2_init_7 : decode cX2_init 7 = .ok (.newarray .int, 2) := by decide +kernel
theorem dX2_init_9 : decode cX2_init 9 = .ok (.putfield 9, 3) := qz_2 .putfield 0 9 qo_181 (by decide +kernel) rfl
theorem dX2_init_12 : decode cX2_init 12 = .ok (.aload_n 0, 1) := qd_p qo_42 (by decide +kernel)
theorem dX2_init_13 : decode cX2_init 13 = .ok (.bipush 8, 2) := qz_s1 .bipush 8 qo_16 (by decide +kernel) rfl
theorem dX2_init_15 : decode cX2_init 15 = .ok (.newarray .int, 2) := by decide +kernel
theorem dX2_init_17 : decode cX2_init 17 = .ok (.putfield 15, 3) := qz_2 .putfield 0 15 qo_181 (by decide +kernel) rfl
theorem dX2_init_20 : decode cX2_init 20 = .ok (.aload_n 0, 1) := qd_p qo_42 (by decide +kernel)
theorem dX2_init_21 : decode cX2_init 21 = .ok (.bipush 8, 2) := qz_s1 .bipush 8 qo_16 (by decide +kernel) rfl
theorem dX2_init_23 : decode cX2_init 23 = .ok (.newarray .int, 2) := by decide +kernel
theorem dX2_init_25 : decode cX2_init 25 = .ok (.putfield 18, 3) := qz_2 .putfield 0 18 qo_181 (by decide +kernel) rfl
theorem dX2_init_28 : decode cX2_init 28 = .ok (.aload_n 0, 1) := qd_p qo_42 (by decide +kernel)
theorem dX2_init_29 : decode cX2_init 29 = .ok (.bipush 8, 2) := qz_s1 .bipush 8 qo_16 (by decide +kernel) rfl
theorem dX2_init_31 : decode cX2_init 31 = .ok (.bipush 24, 2) := qz_s1 .bipush 24 qo_16 (by decide +kernel) rfl
theorem dX2_init_33 : decode cX2_init 33 = .ok (.multianewarray 21 2, 4) := by decide +kernel
theorem dX2_init_37 : decode cX2_init 37 = .ok (.putfield 23, 3) := qz_2 .putfield 0 23 qo_181 (by decide +kernel) rfl
theorem dX2_init_40 : decode cX2_init 40 = .ok (.aload_n 0, 1) := qd_p qo_42 (by decide +kernel)
theorem dX2_init_41 : decode cX2_init 41 = .ok (.iconst 0, 1) := qd_p qo_3 (by decide +kernel)
theorem dX2_init_42 : decode cX2_init 42 = .ok (.putfield 26, 3) := qz_2 .putfield 0 26 qo_181 (by decide +kernel) rfl
theorem dX2_init_45 : decode cX2_init 45 = .ok (.aload_n 0, 1) := qd_p qo_42 (by decide +kernel)
theorem dX2_init_46 : decode cX2_init 46 = .ok (.iconst 0, 1) := qd_p qo_3 (by decide +kernel)
theorem dX2_init_47 : decode cX2_init 47 = .ok (.putfield 30, 3) := qz_2 .putfield 0 30 qo_181 (by decide +kernel) rfl
theorem dX2_init_50 : decode cX2_init 50 = .ok (.return_, 1) := qd_p qo_177 (by decide +kernel)
theorem dX3_init_0 : decode cX3_init 0 = .ok (.aload_n 0, 1) := qd_p qo_42 (by decide +kernel)
theorem dX3_init_1 : decode cX3_init 1 = .ok (.invokespecial 1, 3) := qz_2 .invokespecial 0 1 qo_183 (by decide +kernel) rfl
theorem dX3_init_4 : decode cX3_init 4 = .ok (.aload_n 0, 1) := qd_p qo_42 (by decide +kernel)
theorem dX3_init_5 : decode cX3_init 5 = .ok (.new 7, 3) := qz_2 .new 0 7 qo_187 (by decide +kernel) rfl
theorem dX3_init_8 : decode cX3_init 8 = .ok (.dup, 1) := qd_p qo_89 (by decide +kernel)
theorem dX3_init_9 : decode cX3_init 9 = .ok (.invokespecial 9, 3) := qz_2 .invokespecial 0 9 qo_183 (by decide +kernel) rfl
theorem dX3_init_12 : decode cX3_init 12 = .ok (.putfield 10, 3) := qz_2 .putfield 0 10 qo_181 (by decide +kernel) rfl
theorem dX3_init_15 : decode cX3_init 15 = .ok (.aload_n 0, 1) := qd_p qo_42 (by decide +kernel)
theorem dX3_init_16 : decode cX3_init 16 = .ok (.new 7, 3) := qz_2 .new 0 7 qo_187 (by decide +kernel) rfl
theorem dX3_init_19 : decode cX3_init 19 = .ok (.dup, 1) := qd_p qo_89 (by decide +kernel)
theorem dX3_init_20 : decode cX3_init 20 = .ok (.invokespecial 9, 3) := qz_2 .invokespecial 0 9 qo_183 (by decide +kernel) rfl
theorem dX3_init_23 : decode cX3_init 23 = .ok (.putfield 16, 3) := qz_2 .putfield 0 16 qo_181 (by decide +kernel) rfl
theorem dX3_init_26 : decode cX3_init 26 = .ok (.aload_n 0, 1) := qd_p qo_42 (by decide +kernel)
theorem dX3_init_27 : decode cX3_init 27 = .ok (.new 7, 3) := qz_2 .new 0 7 qo_187 (by decide +kernel) rfl
theorem dX3_init_30 : decode cX3_init 30 = .ok (.dup, 1) := qd_p qo_89 (by decide +kernel)
theorem dX3_init_31 : decode cX3_init 31 = .ok (.invokespecial 9, 3) := qz_2 .invokespecial 0 9 qo_183 (by decide +kernel) rfl
theorem dX3_init_34 : decode cX3_init 34 = .ok (.putfield 19, 3) := qz_2 .putfield 0 19 qo_181 (by decide +kernel) rfl
theorem dX3_init_37 : decode cX3_init 37 = .ok (.aload_n 0, 1) := qd_p qo_42 (by decide +kernel)
theorem dX3_init_38 : decode cX3_init 38 = .ok (.iconst 0, 1) := qd_p qo_3 (by decide +kernel)
theorem dX3_init_39 : decode cX3_init 39 = .ok (.putfield 22, 3) := qz_2 .putfield 0 22 qo_181 (by decide +kernel) rfl
theorem dX3_init_42 : decode cX3_init 42 = .ok (.aload_n 0, 1) := qd_p qo_42 (by decide +kernel)
theorem dX3_init_43 : decode cX3_init 43 = .ok (.new 26, 3) := qz_2 .new 0 26 qo_187 (by decide +kernel) rfl
theorem dX3_init_46 : decode cX3_init 46 = .ok (.dup, 1) := qd_p qo_89 (by decide +kernel)
theorem dX3_init_47 : decode cX3_init 47 = .ok (.invokespecial 28, 3) := qz_2 .invokespecial 0 28 qo_183 (by decide +kernel) rfl
theorem dX3_init_50 : decode cX3_init 50 = .ok (.putfield 29, 3) := qz_2 .putfield 0 29 qo_181 (by decide +kernel) rfl
theorem dX3_init_53 : decode cX3_init 53 = .ok (.aload_n 0, 1) := qd_p qo_42 (by decide +kernel)
theorem dX3_init_54 : decode cX3_init 54 = .ok (.new 33, 3) := qz_2 .new 0 33 qo_187 (by decide +kernel) rfl
theorem dX3_init_57 : decode cX3_init 57 = .ok (.dup, 1) := qd_p qo_89 (by decide +kernel)
theorem dX3_init_58 : decode cX3_init 58 = .ok (.invokespecial 35, 3) := qz_2 .invokespecial 0 35 qo_183 (by decide +kernel) rfl
theorem dX3_init_61 : decode cX3_init 61 = .ok (.putfield 36, 3) := qz_2 .putfield 0 36 qo_181 (by decide +kernel) rfl
theorem dX3_init_64 : decode cX3_init 64 = .ok (.aload_n 0, 1) := qd_p qo_42 (by decide +kernel)
theorem dX3_init_65 : decode cX3_init 65 = .ok (.bipush 12, 2) := qz_s1 .bipush 12 qo_16 (by decide +kernel) rfl
theorem dX3_init_67 : decode cX3_init 67 = .ok (.newarray .int, 2) := by decide +kernel
theorem dX3_init_69 : decode cX3_init 69 = .ok (.putfield 40, 3) := qz_2 .putfield 0 40 qo_181 (by decide +kernel) rfl
theorem dX3_init_72 : decode cX3_init 72 = .ok (.aload_n 0, 1) := qd_p qo_42 (by decide +kernel)
theorem dX3_init_73 : decode cX3_init 73 = .ok (.iconst 0, 1) := qd_p qo_3 (by decide +kernel)
theorem dX3_init_74 : decode cX3_init 74 = .ok (.putfield 44, 3) := qz_2 .putfield 0 44 qo_181 (by decide +kernel) rfl
theorem dX3_init_77 : decode cX3_init 77 = .ok (.aload_n 0, 1) := qd_p qo_42 (by decide +kernel)
theorem dX3_init_78 : decode cX3_init 78 = .ok (.bipush 7, 2) := qz_s1 .bipush 7 qo_16 (by decide +kernel) rfl
theorem dX3_init_80 : decode cX3_init 80 = .ok (.newarray .int, 2) := by decide +kernel
theorem dX3_init_82 : decode cX3_init 82 = .ok (.putfield 48, 3) := qz_2 .putfield 0 48 qo_181 (by decide +kernel) rfl
theorem dX3_init_85 : decode cX3_init 85 = .ok (.aload_n 0, 1) := qd_p qo_42 (by decide +kernel)
theorem dX3_init_86 : decode cX3_init 86 = .ok (.bipush 6, 2) := qz_s1 .bipush 6 qo_16 (by decide +kernel) rfl
theorem dX3_init_88 : decode cX3_init 88 = .ok (.bipush 6, 2) := qz_s1 .bipush 6 qo_16 (by decide +kernel) rfl
theorem dX3_init_90 : decode cX3_init 90 = .ok (.multianewarray 51 2, 4) := by decide +kernel
theorem dX3_init_94 : decode cX3_init 94 = .ok (.putfield 53, 3) := qz_2 .putfield 0 53 qo_181 (by decide +kernel) rfl
theorem dX3_init_97 : decode cX3_init 97 = .ok (.aload_n 0, 1) := qd_p qo_42 (by decide +kernel)
theorem dX3_init_98 : decode cX3_init 98 = .ok (.bipush 6, 2) := qz_s1 .bipush 6 qo_16 (by decide +kernel) rfl
theorem dX3_init_100 : decode cX3_init 100 = .ok (.bipush 6, 2) := qz_s1 .bipush 6 qo_16 (by decide +kernel) rfl
theorem dX3_init_102 : decode cX3_init 102 = .ok (.multianewarray 51 2, 4) := by decide +kernel
theorem dX3_init_106 : decode cX3_init 106 = .ok (.putfield 56, 3) := qz_2 .putfield 0 56 qo_181 (by decide +kernel) rfl
theorem dX3_init_109 : decode cX3_init 109 = .ok (.return_, 1) := qd_p qo_177 (by decide +kernel)
theorem dX4_init_0 : decode cX4_init 0 = .ok (.aload_n 0, 1) := qd_p qo_42 (by decide +kernel)
theorem dX4_init_1 : decode cX4_init 1 = .ok (.invokespecial 1, 3) := qz_2 .invokespecial 0 1 qo_183 (by decide +kernel) rfl
theorem dX4_init_4 : decode cX4_init 4 = .ok (.aload_n 0, 1) := qd_p qo_42 (by decide +kernel)
theorem dX4_init_5 : decode cX4_init 5 = .ok (.bipush 8, 2) := qz_s1 .bipush 8 qo_16 (by decide +kernel) rfl
theorem dX4_init_7 : decode cX4_init 7 = .ok (.newarray .int, 2) := by decide +kernel
theorem dX4_init_9 : decode cX4_init 9 = .ok (.dup, 1) := qd_p qo_89 (by decide +kernel)
theorem dX4_init_10 : decode cX4_init 10 = .ok (.iconst 0, 1) := qd_p qo_3 (by decide +kernel)
theorem dX4_init_11 : decode cX4_init 11 = .ok (.iconst 1, 1) := qd_p qo_4 (by decide +kernel)
theorem dX4_init_12 : decode cX4_init 12 = .ok (.iastore, 1) := qd_p qo_79 (by decide +kernel)
theorem dX4_init_13 : decode cX4_init 13 = .ok (.dup, 1) := qd_p qo_89 (by decide +kernel)
theorem dX4_init_14 : decode cX4_init 14 = .ok (.iconst 1, 1) := qd_p qo_4 (by decide +kernel)
theorem dX4_init_15 : decode cX4_init 15 = .ok (.iconst 1, 1) := qd_p qo_4 (by decide +kernel)
theorem dX4_init_16 : decode cX4_init 16 = .ok (.iastore, 1) := qd_p qo_79 (by decide +kernel)
theorem dX4_init_17 : decode cX4_init 17 = .ok (.dup, 1) := qd_p qo_89 (by decide +kernel)
theorem dX4_init_18 : decode cX4_init 18 = .ok (.iconst 2, 1) := qd_p qo_5 (by decide +kernel)
theorem dX4_init_19 : decode cX4_init 19 = .ok (.iconst 1, 1) := qd_p qo_4 (by decide +kernel)
theorem dX4_init_20 : decode cX4_init 20 = .ok (.iastore, 1) := qd_p qo_79 (by decide +kernel)
theorem dX4_init_21 : decode cX4_init 21 = .ok (.dup, 1) := qd_p qo_89 (by decide +kernel)
theorem dX4_init_22 : decode cX4_init 22 = .ok (.iconst 3, 1) := qd_p qo_6 (by decide +kernel)
theorem dX4_init_23 : decode cX4_init 23 = .ok (.iconst 1, 1) := qd_p qo_4 (by decide +kernel)
theorem dX4_init_24 : decode cX4_init 24 = .ok (.iastore, 1) := qd_p qo_79 (by decide +kernel)
theorem dX4_init_25 : decode cX4_init 25 = .ok (.dup, 1) := qd_p qo_89 (by decide +kernel)
theorem dX4_init_26 : decode cX4_init 26 = .ok (.iconst 4, 1) := qd_p qo_7 (by decide +kernel)
theorem dX4_init_27 : decode cX4_init 27 = .ok (.iconst 1, 1) := qd_p qo_4 (by decide +kernel)
theorem dX4_init_28 : decode cX4_init 28 = .ok (.iastore, 1) := qd_p qo_79 (by decide +kernel)
theorem dX4_init_29 : decode cX4_init 29 = .ok (.dup, 1) := qd_p qo_89 (by decide +kernel)
theorem dX4_init_30 : decode cX4_init 30 = .ok (.iconst 5, 1) := qd_p qo_8 (by decide +kernel)
theorem dX4_init_31 : decode cX4_init 31 = .ok (.iconst 1, 1) := qd_p qo_4 (by decide +kernel)
theorem dX4_init_32 : decode cX4_init 32 = .ok (.iastore, 1) := qd_p qo_79 (by decide +kernel)
theorem dX4_init_33 : decode cX4_init 33 = .ok (.dup, 1) := qd_p qo_89 (by decide +kernel)
theorem dX4_init_34 : decode cX4_init 34 = .ok (.bipush 6, 2) := qz_s1 .bipush 6 qo_16 (by decide +kernel) rfl
theorem dX4_init_36 : decode cX4_init 36 = .ok (.iconst 1, 1) := qd_p qo_4 (by decide +kernel)
theorem dX4_init_37 : decode cX4_init 37 = .ok (.iastore, 1) := qd_p qo_79 (by decide +kernel)
theorem dX4_init_38 : decode cX4_init 38 = .ok (.dup, 1) := qd_p qo_89 (by decide +kernel)
theorem dX4_init_39 : decode cX4_init 39 = .ok (.bipush 7, 2) := qz_s1 .bipush 7 qo_16 (by decide +kernel) rfl
theorem dX4_init_41 : decode cX4_init 41 = .ok (.iconst 1, 1) := qd_p qo_4 (by decide +kernel)
theorem dX4_init_42 : decode cX4_init 42 = .ok (.iastore, 1) := qd_p qo_79 (by decide +kernel)
theorem dX4_init_43 : decode cX4_init 43 = .ok (.putfield 7, 3) := qz_2 .putfield 0 7 qo_181 (by decide +kernel) rfl
theorem dX4_init_46 : decode cX4_init 46 = .ok (.aload_n 0, 1) := qd_p qo_42 (by decide +kernel)
theorem dX4_init_47 : decode cX4_init 47 = .ok (.bipush 6, 2) := qz_s1 .bipush 6 qo_16 (by decide +kernel) rfl
theorem dX4_init_49 : decode cX4_init 49 = .ok (.newarray .int, 2) := by decide +kernel
theorem dX4_init_51 : decode cX4_init 51 = .ok (.putfield 13, 3) := qz_2 .putfield 0 13 qo_181 (by decide +kernel) rfl
theorem dX4_init_54 : decode cX4_init 54 = .ok (.aload_n 0, 1) := qd_p qo_42 (by decide +kernel)
theorem dX4_init_55 : decode cX4_init 55 = .ok (.iconst 5, 1) := qd_p qo_8 (by decide +kernel)
theorem dX4_init_56 : decode cX4_init 56 = .ok (.newarray .int, 2) := by decide +kernel
theorem dX4_init_58 : decode cX4_init 58 = .ok (.putfield 16, 3) := qz_2 .putfield 0 16 qo_181 (by decide +kernel) rfl
theorem dX4_init_61 : decode cX4_init 61 = .ok (.aload_n 0, 1) := qd_p qo_42 (by decide +kernel)
theorem dX4_init_62 : decode cX4_init 62 = .ok (.iconst 5, 1) := qd_p qo_8 (by decide +kernel)
theorem dX4_init_63 : decode cX4_init 63 = .ok (.newarray .int, 2) := by decide +kernel
theorem dX4_init_65 : decode cX4_init 65 = .ok (.putfield 19, 3) := qz_2 .putfield 0 19 qo_181 (by decide +kernel) rfl
theorem dX4_init_68 : decode cX4_init 68 = .ok (.aload_n 0, 1) := qd_p qo_42 (by decide +kernel)
theorem dX4_init_69 : decode cX4_init 69 = .ok (.bipush 120, 2) := qz_s1 .bipush 120 qo_16 (by decide +kernel) rfl
theorem dX4_init_71 : decode cX4_init 71 = .ok (.newarray .int, 2) := by decide +kernel
theorem dX4_init_73 : decode cX4_init 73 = .ok (.putfield 22, 3) := qz_2 .putfield 0 22 qo_181 (by decide +kernel) rfl
theorem dX4_init_76 : decode cX4_init 76 = .ok (.aload_n 0, 1) := qd_p qo_42 (by decide +kernel)
theorem dX4_init_77 : decode cX4_init 77 = .ok (.bipush 40, 2) := qz_s1 .bipush 40 qo_16 (by decide +kernel) rfl
theorem dX4_init_79 : decode cX4_init 79 = .ok (.newarray .int, 2) := by decide +kernel
theorem dX4_init_81 : decode cX4_init 81 = .ok (.putfield 25, 3) := qz_2 .putfield 0 25 qo_181 (by decide +kernel) rfl
theorem dX4_init_84 : decode cX4_init 84 = .ok (.aload_n 0, 1) := qd_p qo_42 (by decide +kernel)
theorem dX4_init_85 : decode cX4_init 85 = .ok (.bipush 7, 2) := qz_s1 .bipush 7 qo_16 (by decide +kernel) rfl
theorem dX4_init_87 : decode cX4_init 87 = .ok (.newarray .int, 2) := by decide +kernel
theorem dX4_init_89 : decode cX4_init 89 = .ok (.putfield 28, 3) := qz_2 .putfield 0 28 qo_181 (by decide +kernel) rfl
theorem dX4_init_92 : decode cX4_init 92 = .ok (.aload_n 0, 1) := qd_p qo_42 (by decide +kernel)
theorem dX4_init_93 : decode cX4_init 93 = .ok (.bipush 40, 2) := qz_s1 .bipush 40 qo_16 (by decide +kernel) rfl
theorem dX4_init_95 : decode cX4_init 95 = .ok (.newarray .int, 2) := by decide +kernel
theorem dX4_init_97 : decode cX4_init 97 = .ok (.putfield 31, 3) := qz_2 .putfield 0 31 qo_181 (by decide +kernel) rfl
theorem dX4_init_100 : decode cX4_init 100 = .ok (.aload_n 0, 1) := qd_p qo_42 (by decide +kernel)
theorem dX4_init_101 : decode cX4_init 101 = .ok (.iconst 5, 1) := qd_p qo_8 (by decide +kernel)
theorem dX4_init_102 : decode cX4_init 102 = .ok (.newarray .int, 2) := by decide +kernel
theorem dX4_init_104 : decode cX4_init 104 = .ok (.putfield 34, 3) := qz_2 .putfield 0 34 qo_181 (by decide +kernel) rfl
theorem dX4_init_107 : decode cX4_init 107 = .ok (.aload_n 0, 1) := qd_p qo_42 (by decide +kernel)
theorem dX4_init_108 : decode cX4_init 108 = .ok (.bipush 96, 2) := qz_s1 .bipush 96 qo_16 (by decide +kernel) rfl
theorem dX4_init_110 : decode cX4_init 110 = .ok (.newarray .int, 2) := by decide +kernel
theorem dX4_init_112 : decode cX4_init 112 = .ok (.putfield 37, 3) := qz_2 .putfield 0 37 qo_181 (by decide +kernel) rfl
theorem dX4_init_115 : decode cX4_init 115 = .ok (.aload_n 0, 1) := qd_p qo_42 (by decide +kernel)
theorem dX4_init_116 : decode cX4_init 116 = .ok (.bipush 49, 2) := qz_s1 .bipush 49 qo_16 (by decide +kernel) rfl
theorem dX4_init_118 : decode cX4_init 118 = .ok (.newarray .int, 2) := by decide +kernel
theorem dX4_init_120 : decode cX4_init 120 = .ok (.putfield 40, 3) := qz_2 .putfield 0 40 qo_181 (by decide +kernel) rfl
theorem dX4_init_123 : decode cX4_init 123 = .ok (.aload_n 0, 1) := qd_p qo_42 (by decide +kernel)
theorem dX4_init_124 : decode cX4_init 124 = .ok (.bipush 49, 2) := qz_s1 .bipush 49 qo_16 (by decide +kernel) rfl
theorem dX4_init_126 : decode cX4_init 126 = .ok (.newarray .int, 2) := by decide +kernel
theorem dX4_init_128 : decode cX4_init 128 = .ok (.putfield 43, 3) := qz_2 .putfield 0 43 qo_181 (by decide +kernel) rfl
theorem dX4_init_131 : decode cX4_init 131 = .ok (.aload_n 0, 1) := qd_p qo_42 (by decide +kernel)
theorem dX4_init_132 : decode cX4_init 132 = .ok (.sipush 196, 3) := qz_s2 .sipush 0 196 qo_17 (by decide +kernel) rfl
theorem dX4_init_135 : decode cX4_init 135 = .ok (.newarray .int, 2) := by decide +kernel
theorem dX4_init_137 : decode cX4_init 137 = .ok (.putfield 46, 3) := qz_2 .putfield 0 46 qo_181 (by decide +kernel) rfl
theorem dX4_init_140 : decode cX4_init 140 = .ok (.aload_n 0, 1) := qd_p qo_42 (by decide +kernel)
theorem dX4_init_141 : decode cX4_init 141 = .ok (.sipush 188, 3) := qz_s2 .sipush 0 188 qo_17 (by decide +kernel) rfl
theorem dX4_init_144 : decode cX4_init 144 = .ok (.newarray .int, 2) := by decide +kernel
theorem dX4_init_146 : decode cX4_init 146 = .ok (.putfield 49, 3) := qz_2 .putfield 0 49 qo_181 (by decide +kernel) rfl
theorem dX4_init_149 : decode cX4_init 149 = .ok (.aload_n 0, 1) := qd_p qo_42 (by decide +kernel)
theorem dX4_init_150 : decode cX4_init 150 = .ok (.sipush 188, 3) := qz_s2 .sipush 0 188 qo_17 (by decide +kernel) rfl
theorem dX4_init_153 : decode cX4_init 153 = .ok (.newarray .int, 2) := by decide +kernel
theorem dX4_init_155 : decode cX4_init 155 = .ok (.putfield 52, 3) := qz_2 .putfield 0 52 qo_181 (by decide +kernel) rfl
theorem dX4_init_158 : decode cX4_init 158 = .ok (.aload_n 0, 1) := qd_p qo_42 (by decide +kernel)
theorem dX4_init_159 : decode cX4_init 159 = .ok (.sipush 1504, 3) := qz_s2 .sipush 5 224 qo_17 (by decide +kernel) rfl
theorem dX4_init_162 : decode cX4_init 162 = .ok (.newarray .int, 2) := by decide +kernel
theorem dX4_init_164 : decode cX4_init 164 = .ok (.putfield 55, 3) := qz_2 .putfield 0 55 qo_181 (by decide +kernel) rfl
theorem dX4_init_167 : decode cX4_init 167 = .ok (.aload_n 0, 1) := qd_p qo_42 (by decide +kernel)
theorem dX4_init_168 : decode cX4_init 168 = .ok (.sipush 188, 3) := qz_s2 .sipush 0 188 qo_17 (by decide +kernel) rfl
theorem dX4_init_171 : decode cX4_init 171 = .ok (.newarray .int, 2) := by decide +kernel
theorem dX4_init_173 : decode cX4_init 173 = .ok (.putfield 58, 3) := qz_2 .putfield 0 58 qo_181 (by decide +kernel) rfl
theorem dX4_init_176 : decode cX4_init 176 = .ok (.aload_n 0, 1) := qd_p qo_42 (by decide +kernel)
theorem dX4_init_177 : decode cX4_init 177 = .ok (.bipush 36, 2) := qz_s1 .bipush 36 qo_16 (by decide +kernel) rfl
theorem dX4_init_179 : decode cX4_init 179 = .ok (.newarray .int, 2) := by decide +kernel
theorem dX4_init_181 : decode cX4_init 181 = .ok (.putfield 61, 3) := qz_2 .putfield 0 61 qo_181 (by decide +kernel) rfl
theorem dX4_init_184 : decode cX4_init 184 = .ok (.aload_n 0, 1) := qd_p qo_42 (by decide +kernel)
theorem dX4_init_185 : decode cX4_init 185 = .ok (.bipush 36, 2) := qz_s1 .bipush 36 qo_16 (by decide +kernel) rfl
theorem dX4_init_187 : decode cX4_init 187 = .ok (.newarray .int, 2) := by decide +kernel
theorem dX4_init_189 : decode cX4_init 189 = .ok (.putfield 64, 3) := qz_2 .putfield 0 64 qo_181 (by decide +kernel) rfl
theorem dX4_init_192 : decode cX4_init 192 = .ok (.aload_n 0, 1) := qd_p qo_42 (by decide +kernel)
theorem dX4_init_193 : decode cX4_init 193 = .ok (.bipush 12, 2) := qz_s1 .bipush 12 qo_16 (by decide +kernel) rfl
theorem dX4_init_195 : decode cX4_init 195 = .ok (.newarray .int, 2) := by decide +kernel
theorem dX4_init_197 : decode cX4_init 197 = .ok (.putfield 67, 3) := qz_2 .putfield 0 67 qo_181 (by decide +kernel) rfl
theorem dX4_init_200 : decode cX4_init 200 = .ok (.aload_n 0, 1) := qd_p qo_42 (by decide +kernel)
theorem dX4_init_201 : decode cX4_init 201 = .ok (.iconst 0, 1) := qd_p qo_3 (by decide +kernel)
theorem dX4_init_202 : decode cX4_init 202 = .ok (.putfield 70, 3) := qz_2 .putfield 0 70 qo_181 (by decide +kernel) rfl
theorem dX4_init_205 : decode cX4_init 205 = .ok (.iconst 0, 1) := qd_p qo_3 (by decide +kernel)
theorem dX4_init_206 : decode cX4_init 206 = .ok (.istore_n 1, 1) := qd_p qo_60 (by decide +kernel)
theorem dX4_init_207 : decode cX4_init 207 = .ok (.iload_n 1, 1) := qd_p qo_27 (by decide +kernel)
theorem dX4_init_208 : decode cX4_init 208 = .ok (.bipush 120, 2) := qz_s1 .bipush 120 qo_16 (by decide +kernel) rfl
theorem dX4_init_210 : decode cX4_init 210 = .ok (.if_icmp .ge 17, 3) := qz_s2 (.if_icmp .ge) 0 17 qo_162 (by decide +kernel) rfl
theorem dX4_init_213 : decode cX4_init 213 = .ok (.aload_n 0, 1) := qd_p qo_42 (by decide +kernel)
theorem dX4_init_214 : decode cX4_init 214 = .ok (.getfield 22, 3) := qz_2 .getfield 0 22 qo_180 (by decide +kernel) rfl
theorem dX4_init_217 : decode cX4_init 217 = .ok (.iload_n 1, 1) := qd_p qo_27 (by decide +kernel)
theorem dX4_init_218 : decode cX4_init 218 = .ok (.bipush (-9), 2) := qz_s1 .bipush 247 qo_16 (by decide +kernel) rfl
theorem dX4_init_220 : decode cX4_init 220 = .ok (.iastore, 1) := qd_p qo_79 (by decide +kernel)
theorem dX4_init_221 : decode cX4_init 221 = .ok (.iinc 1 1, 3) := qd_i (x := 1) (y := 1) qo_132 (by decide +kernel) rfl
theorem dX4_init_224 : decode cX4_init 224 = .ok (.goto (-17), 3) := qz_s2 .goto 255 239 qo_167 (by decide +kernel) rfl
theorem dX4_init_227 : decode cX4_init 227 = .ok (.return_, 1) := qd_p qo_177 (by decide +kernel)
abbrev rm_X0_init : Room := { frames := 1, cells := 22, slots := 239, locals := 20 }
theorem hd_X0_init : yX0_init.cls ≠ "java/lang/invoke/MethodHandle" ∧ yX0_init.cls ≠ "java/lang/invoke/VarHandle" ∧ (parseMethodDescriptor yX0_init.desc).map (fun d => d.parameters.length) = some 0 := by decide +kernel
abbrev rm_X1_init : Room := { frames := 1, cells := 1, slots := 96, locals := 20 }
theorem hd_X1_init : yX1_init.cls ≠ "java/lang/invoke/MethodHandle" ∧ yX1_init.cls ≠ "java/lang/invoke/VarHandle" ∧ (parseMethodDescriptor yX1_init.desc).map (fun d => d.parameters.length) = some 0 := by decide +kernel
abbrev rm_X2_init : Room := { frames := 1, cells := 12, slots := 224, locals := 20 }
theorem hd_X2_init : yX2_init.cls ≠ "java/lang/invoke/MethodHandle" ∧ yX2_init.cls ≠ "java/lang/invoke/VarHandle" ∧ (parseMethodDescriptor yX2_init.desc).map (fun d => d.parameters.length) = some 0 := by decide +kernel
abbrev rm_X3_init : Room := { frames := 2, cells := 100, slots := 1181, locals := 41 }
theorem hd_X3_init : yX3_init.cls ≠ "java/lang/invoke/MethodHandle" ∧ yX3_init.cls ≠ "java/lang/invoke/VarHandle" ∧ (parseMethodDescriptor yX3_init.desc).map (fun d => d.parameters.length) = some 0 := by decide +kernel
abbrev rm_X4_init : Room := { frames := 1, cells := 20, slots := 2778, locals := 20 }
theorem hd_X4_init : yX4_init.cls ≠ "java/lang/invoke/MethodHandle" ∧ yX4_init.cls ≠ "java/lang/invoke/VarHandle" ∧ (parseMethodDescriptor yX4_init.desc).map (fun d => d.parameters.length) = some 0 := by decide +kernel
/-- the memory of a system just born -/
def wt_m0 : Mem := fun k => if k = 17 ∨ k = 40 ∨ k = 63 ∨ k = 102 then (fun _ => 1) else if k = 106 then (fun _ => -9) else (fun _ => 0)
theorem tc_71 : Cond.arrayClass .int ∈ wt_tbl := wt_tC1 (List.mem_of_getElem? (i := 71) rfl) rfl
theorem tc_23 : Cond.classLink RX0 28 "[[I" ∈ wt_tbl := wt_tC1 (List.mem_of_getElem? (i := 23) rfl) rfl
theorem tc_78 : Cond.classLink RX2 21 "[[I" ∈ wt_tbl := wt_tC1 (List.mem_of_getElem? (i := 78) rfl) rfl
theorem tc_72 : Cond.classLink RX3 26 RX2 ∈ wt_tbl := wt_tC1 (List.mem_of_getElem? (i := 72) rfl) rfl
theorem tc_99 : Cond.classLink RX3 33 RX1 ∈ wt_tbl := wt_tC1 (List.mem_of_getElem? (i := 99) rfl) rfl
theorem tc_113 : Cond.classLink RX3 51 "[[I" ∈ wt_tbl := wt_tC1 (List.mem_of_getElem? (i := 113) rfl) rfl
theorem tc_17 : Cond.classLink RX3 7 RX0 ∈ wt_tbl := wt_tC1 (List.mem_of_getElem? (i := 17) rfl) rfl
theorem tc_21 : Cond.code yX0_init cX0_init 2 none ∈ wt_tbl := wt_tC1 (List.mem_of_getElem? (i := 21) rfl) rfl
theorem tc_103 : Cond.code yX1_init cX1_init 1 none ∈ wt_tbl := wt_tC1 (List.mem_of_getElem? (i := 103) rfl) rfl
theorem tc_76 : Cond.code yX2_init cX2_init 1 none ∈ wt_tbl := wt_tC1 (List.mem_of_getElem? (i := 76) rfl) rfl
theorem tc_16 : Cond.code Lib.objectInit ⟨#[0xb1]⟩ 1 none ∈ wt_tbl := wt_tC1 (List.mem_of_getElem? (i := 16) rfl) rfl
theorem tc_27 : Cond.fieldLink RX0 15 "WindowTaken$House" "paneViews" "[I" ∈ wt_tbl := wt_tC1 (List.mem_of_getElem? (i := 27) rfl) rfl
theorem tc_30 : Cond.fieldLink RX0 19 "WindowTaken$House" "lookerCount" "I" ∈ wt_tbl := wt_tC1 (List.mem_of_getElem? (i := 30) rfl) rfl
theorem tc_32 : Cond.fieldLink RX0 22 "WindowTaken$House" "kinds" "[I" ∈ wt_tbl := wt_tC1 (List.mem_of_getElem? (i := 32) rfl) rfl
theorem tc_34 : Cond.fieldLink RX0 25 "WindowTaken$House" "figures" "[I" ∈ wt_tbl := wt_tC1 (List.mem_of_getElem? (i := 34) rfl) rfl
theorem tc_36 : Cond.fieldLink RX0 30 "WindowTaken$House" "rosters" "[[I" ∈ wt_tbl := wt_tC1 (List.mem_of_getElem? (i := 36) rfl) rfl
theorem tc_38 : Cond.fieldLink RX0 33 "WindowTaken$House" "counts" "[[I" ∈ wt_tbl := wt_tC1 (List.mem_of_getElem? (i := 38) rfl) rfl
theorem tc_40 : Cond.fieldLink RX0 36 "WindowTaken$House" "worths" "[I" ∈ wt_tbl := wt_tC1 (List.mem_of_getElem? (i := 40) rfl) rfl
theorem tc_42 : Cond.fieldLink RX0 39 "WindowTaken$House" "law" "I" ∈ wt_tbl := wt_tC1 (List.mem_of_getElem? (i := 42) rfl) rfl
theorem tc_44 : Cond.fieldLink RX0 42 "WindowTaken$House" "day" "I" ∈ wt_tbl := wt_tC1 (List.mem_of_getElem? (i := 44) rfl) rfl
theorem tc_46 : Cond.fieldLink RX0 45 "WindowTaken$House" "gains" "[[I" ∈ wt_tbl := wt_tC1 (List.mem_of_getElem? (i := 46) rfl) rfl
theorem tc_25 : Cond.fieldLink RX0 9 "WindowTaken$House" "paneCount" "I" ∈ wt_tbl := wt_tC1 (List.mem_of_getElem? (i := 25) rfl) rfl
theorem tc_106 : Cond.fieldLink RX1 15 "WindowTaken$Letters" "size" "I" ∈ wt_tbl := wt_tC1 (List.mem_of_getElem? (i := 106) rfl) rfl
theorem tc_105 : Cond.fieldLink RX1 9 "WindowTaken$Letters" "signs" "[I" ∈ wt_tbl := wt_tC1 (List.mem_of_getElem? (i := 105) rfl) rfl
theorem tc_80 : Cond.fieldLink RX2 15 "WindowTaken$Steps" "places" "[I" ∈ wt_tbl := wt_tC1 (List.mem_of_getElem? (i := 80) rfl) rfl
theorem tc_81 : Cond.fieldLink RX2 18 "WindowTaken$Steps" "olds" "[I" ∈ wt_tbl := wt_tC1 (List.mem_of_getElem? (i := 81) rfl) rfl
theorem tc_82 : Cond.fieldLink RX2 23 "WindowTaken$Steps" "oldRosters" "[[I" ∈ wt_tbl := wt_tC1 (List.mem_of_getElem? (i := 82) rfl) rfl
theorem tc_83 : Cond.fieldLink RX2 26 "WindowTaken$Steps" "first" "I" ∈ wt_tbl := wt_tC1 (List.mem_of_getElem? (i := 83) rfl) rfl
theorem tc_84 : Cond.fieldLink RX2 30 "WindowTaken$Steps" "size" "I" ∈ wt_tbl := wt_tC1 (List.mem_of_getElem? (i := 84) rfl) rfl
theorem tc_79 : Cond.fieldLink RX2 9 "WindowTaken$Steps" "whats" "[I" ∈ wt_tbl := wt_tC1 (List.mem_of_getElem? (i := 79) rfl) rfl
theorem tc_114 : Cond.fieldLink RX3 10 "WindowTaken" "house" "LWindowTaken$House;" ∈ wt_tbl := wt_tC1 (List.mem_of_getElem? (i := 114) rfl) rfl
theorem tc_115 : Cond.fieldLink RX3 16 "WindowTaken" "mind" "LWindowTaken$House;" ∈ wt_tbl := wt_tC1 (List.mem_of_getElem? (i := 115) rfl) rfl
theorem tc_116 : Cond.fieldLink RX3 19 "WindowTaken" "kept" "LWindowTaken$House;" ∈ wt_tbl := wt_tC1 (List.mem_of_getElem? (i := 116) rfl) rfl
theorem tc_117 : Cond.fieldLink RX3 22 "WindowTaken" "imageTaken" "Z" ∈ wt_tbl := wt_tC1 (List.mem_of_getElem? (i := 117) rfl) rfl
theorem tc_118 : Cond.fieldLink RX3 29 "WindowTaken" "steps" "LWindowTaken$Steps;" ∈ wt_tbl := wt_tC1 (List.mem_of_getElem? (i := 118) rfl) rfl
theorem tc_119 : Cond.fieldLink RX3 36 "WindowTaken" "letters" "LWindowTaken$Letters;" ∈ wt_tbl := wt_tC1 (List.mem_of_getElem? (i := 119) rfl) rfl
theorem tc_120 : Cond.fieldLink RX3 40 "WindowTaken" "rowNumbers" "[I" ∈ wt_tbl := wt_tC1 (List.mem_of_getElem? (i := 120) rfl) rfl
theorem tc_121 : Cond.fieldLink RX3 44 "WindowTaken" "rowSize" "I" ∈ wt_tbl := wt_tC1 (List.mem_of_getElem? (i := 121) rfl) rfl
theorem tc_122 : Cond.fieldLink RX3 48 "WindowTaken" "refusals" "[I" ∈ wt_tbl := wt_tC1 (List.mem_of_getElem? (i := 122) rfl) rfl
theorem tc_123 : Cond.fieldLink RX3 53 "WindowTaken" "firstPays" "[[I" ∈ wt_tbl := wt_tC1 (List.mem_of_getElem? (i := 123) rfl) rfl
theorem tc_124 : Cond.fieldLink RX3 56 "WindowTaken" "otherPays" "[[I" ∈ wt_tbl := wt_tC1 (List.mem_of_getElem? (i := 124) rfl) rfl
theorem tc_712 : Cond.fieldLink RX4 13 "WindowTakenModel" "shows" "[I" ∈ wt_tbl := wt_tC3 (List.mem_of_getElem? (i := 232) rfl) rfl
theorem tc_714 : Cond.fieldLink RX4 16 "WindowTakenModel" "kinds" "[I" ∈ wt_tbl := wt_tC3 (List.mem_of_getElem? (i := 234) rfl) rfl
theorem tc_715 : Cond.fieldLink RX4 19 "WindowTakenModel" "figures" "[I" ∈ wt_tbl := wt_tC3 (List.mem_of_getElem? (i := 235) rfl) rfl
theorem tc_716 : Cond.fieldLink RX4 22 "WindowTakenModel" "rosters" "[I" ∈ wt_tbl := wt_tC3 (List.mem_of_getElem? (i := 236) rfl) rfl
theorem tc_717 : Cond.fieldLink RX4 25 "WindowTakenModel" "counted" "[I" ∈ wt_tbl := wt_tC3 (List.mem_of_getElem? (i := 237) rfl) rfl
theorem tc_721 : Cond.fieldLink RX4 28 "WindowTakenModel" "refusals" "[I" ∈ wt_tbl := wt_tC4 (List.mem_of_getElem? (i := 1) rfl) rfl
theorem tc_722 : Cond.fieldLink RX4 31 "WindowTakenModel" "brings" "[I" ∈ wt_tbl := wt_tC4 (List.mem_of_getElem? (i := 2) rfl) rfl
theorem tc_723 : Cond.fieldLink RX4 34 "WindowTakenModel" "looked" "[I" ∈ wt_tbl := wt_tC4 (List.mem_of_getElem? (i := 3) rfl) rfl
theorem tc_724 : Cond.fieldLink RX4 37 "WindowTakenModel" "letters" "[I" ∈ wt_tbl := wt_tC4 (List.mem_of_getElem? (i := 4) rfl) rfl
theorem tc_729 : Cond.fieldLink RX4 40 "WindowTakenModel" "placeIn" "[I" ∈ wt_tbl := wt_tC4 (List.mem_of_getElem? (i := 9) rfl) rfl
theorem tc_730 : Cond.fieldLink RX4 43 "WindowTakenModel" "letterOf" "[I" ∈ wt_tbl := wt_tC4 (List.mem_of_getElem? (i := 10) rfl) rfl
theorem tc_731 : Cond.fieldLink RX4 46 "WindowTakenModel" "told" "[I" ∈ wt_tbl := wt_tC4 (List.mem_of_getElem? (i := 11) rfl) rfl
theorem tc_732 : Cond.fieldLink RX4 49 "WindowTakenModel" "kept" "[I" ∈ wt_tbl := wt_tC4 (List.mem_of_getElem? (i := 12) rfl) rfl
theorem tc_733 : Cond.fieldLink RX4 52 "WindowTakenModel" "imaged" "[I" ∈ wt_tbl := wt_tC4 (List.mem_of_getElem? (i := 13) rfl) rfl
theorem tc_738 : Cond.fieldLink RX4 55 "WindowTakenModel" "turns" "[I" ∈ wt_tbl := wt_tC4 (List.mem_of_getElem? (i := 18) rfl) rfl
theorem tc_739 : Cond.fieldLink RX4 58 "WindowTakenModel" "turnOf" "[I" ∈ wt_tbl := wt_tC4 (List.mem_of_getElem? (i := 19) rfl) rfl
theorem tc_741 : Cond.fieldLink RX4 61 "WindowTakenModel" "oneHas" "[I" ∈ wt_tbl := wt_tC4 (List.mem_of_getElem? (i := 21) rfl) rfl
theorem tc_742 : Cond.fieldLink RX4 64 "WindowTakenModel" "otherHas" "[I" ∈ wt_tbl := wt_tC4 (List.mem_of_getElem? (i := 22) rfl) rfl
theorem tc_743 : Cond.fieldLink RX4 67 "WindowTakenModel" "row" "[I" ∈ wt_tbl := wt_tC4 (List.mem_of_getElem? (i := 23) rfl) rfl
theorem tc_710 : Cond.fieldLink RX4 7 "WindowTakenModel" "worths" "[I" ∈ wt_tbl := wt_tC3 (List.mem_of_getElem? (i := 230) rfl) rfl
theorem tc_720 : Cond.fieldLink RX4 70 "WindowTakenModel" "thrown" "I" ∈ wt_tbl := wt_tC4 (List.mem_of_getElem? (i := 0) rfl) rfl
theorem tc_2 : Cond.initialized RX0 ∈ wt_tbl := wt_tC1 (List.mem_of_getElem? (i := 2) rfl) rfl
theorem tc_4 : Cond.initialized RX1 ∈ wt_tbl := wt_tC1 (List.mem_of_getElem? (i := 4) rfl) rfl
theorem tc_3 : Cond.initialized RX2 ∈ wt_tbl := wt_tC1 (List.mem_of_getElem? (i := 3) rfl) rfl
theorem tc_20 : Cond.instanceMethod yX0_init ∈ wt_tbl := wt_tC1 (List.mem_of_getElem? (i := 20) rfl) rfl
theorem tc_102 : Cond.instanceMethod yX1_init ∈ wt_tbl := wt_tC1 (List.mem_of_getElem? (i := 102) rfl) rfl
theorem tc_75 : Cond.instanceMethod yX2_init ∈ wt_tbl := wt_tC1 (List.mem_of_getElem? (i := 75) rfl) rfl
theorem tc_15 : Cond.instanceMethod Lib.objectInit ∈ wt_tbl := wt_tC1 (List.mem_of_getElem? (i := 15) rfl) rfl
theorem tc_18 : Cond.instantiable RX0 11 ∈ wt_tbl := wt_tC1 (List.mem_of_getElem? (i := 18) rfl) rfl
theorem tc_100 : Cond.instantiable RX1 2 ∈ wt_tbl := wt_tC1 (List.mem_of_getElem? (i := 100) rfl) rfl
theorem tc_73 : Cond.instantiable RX2 6 ∈ wt_tbl := wt_tC1 (List.mem_of_getElem? (i := 73) rfl) rfl
theorem tc_22 : Cond.methodLink RX0 3 Lib.objectInit ∈ wt_tbl := wt_tC1 (List.mem_of_getElem? (i := 22) rfl) rfl
theorem tc_104 : Cond.methodLink RX1 3 Lib.objectInit ∈ wt_tbl := wt_tC1 (List.mem_of_getElem? (i := 104) rfl) rfl
theorem tc_77 : Cond.methodLink RX2 3 Lib.objectInit ∈ wt_tbl := wt_tC1 (List.mem_of_getElem? (i := 77) rfl) rfl
theorem tc_14 : Cond.methodLink RX3 1 Lib.objectInit ∈ wt_tbl := wt_tC1 (List.mem_of_getElem? (i := 14) rfl) rfl
theorem tc_74 : Cond.methodLink RX3 28 yX2_init ∈ wt_tbl := wt_tC1 (List.mem_of_getElem? (i := 74) rfl) rfl
theorem tc_101 : Cond.methodLink RX3 35 yX1_init ∈ wt_tbl := wt_tC1 (List.mem_of_getElem? (i := 101) rfl) rfl
theorem tc_19 : Cond.methodLink RX3 9 yX0_init ∈ wt_tbl := wt_tC1 (List.mem_of_getElem? (i := 19) rfl) rfl
theorem tc_709 : Cond.methodLink RX4 1 Lib.objectInit ∈ wt_tbl := wt_tC3 (List.mem_of_getElem? (i := 229) rfl) rfl
set_option maxHeartbeats 4000000 in
set_option maxRecDepth 100000 in
theorem wn_X0_loop {p : Program} {l : Launch} {e : Env} {s : State} {m : MethodId} {args : Array Value} {below : List Frame} {meth : Method} {c : Code} {D : va_G} {tI tII : ClassId} {B cells slots : Nat} {h : Nat} (hh : wt_isH h) (hx : p.tables.exec = Jvm.exec) (hb : c.code = cX0_init) (hts : ∀ w ∈ wt_tbl, w.before args s = true) (hown : s.vm.findClass RX0 = some m.cls) (hml : c.maxLocals = 2) (hr : meth.sig.returnType = none) (hlk : meth.locks = false) (hK : wt_K D tI tII s) (hz : s.heap.size = B + (h + 1)) (hcc : cells ≤ 22) (hss : slots ≤ 239) : ∀ (N i : Nat) (x : Int32) (σ : Mem) (H : Heap) (locs : List Loc) (ls : Array Slot), i ≤ 8 → 9 ≤ i + N → x = nI i → (∀ q, q ≠ (h + 1 + 15) → σ q = wt_z q) → (∀ q, q < i → σ (h + 1 + 15) q = 1) → wn_St D tI tII B h 0 [.int 0, .ref (B + ((h + 1) + 0)), .int 0, .ref (B + ((h + 1) + 1)), .ref (B + ((h + 1) + 2)), .ref (B + ((h + 1) + 3)), .ref (B + ((h + 1) + 9)), .ref (B + ((h + 1) + 15)), .int 0, .int 0, .ref (B + ((h + 1) + 16))] σ (h + 1) 22 s H locs → lv_has ls 2 [(1, .int x), (0, .ref (B + h))] → W p l e rm_X0_init s m args below meth c H locs cells slots (MQ below (va_Qv (fun _ : Unit => True) (fun _ t => t.heap.size = B + (h + 23) ∧ va_P D vwCl (wn_pw tI tII B wt_m0 h 23) t.heap ∧ wt_K D tI tII t) (fun q => B + h ≤ q)) args s 22 239 (fun q => B + h ≤ q)) (F0 m 89 ls []) := by
  intro N
  induction N with
  | zero => intro i x σ H locs ls h1 h2; omega
  | succ N ih =>
    intro i x σ H locs ls h1 h2 ex h3 h4 hM hl
    refine lv_iload_n hx hb dX0_init_89 rfl (lv_at hl 0 rfl) ?_
    refine lv_bipush (v := 8) hx hb dX0_init_90 (by decide) ?_
    refine lv_icmp_ge (tgt := 108) hx hb dX0_init_92 (by decide) (fun c1 => ?_) (fun c1 => ?_)
    · have hi : i = 8 := by
        rcases Nat.lt_or_ge i 8 with q | q
        · rw [ex, show (8 : Int32) = nI 8 from rfl] at c1; exact absurd c1 (nI_ge q (by decide))
        · omega
      subst hi
      refine W.widen (k := 22) (n := 239) hcc hss ?_
      refine W.vret hx hb hr (fun t ht hW => ⟨⟨(), rfl, trivial, by rw [ht]; exact hM.2.1, ?_, wt_K.moved hW.alike hK⟩, hM.2.2.2.F ht⟩) hM.2.2.2.2.2 dX0_init_108 hlk
      rw [ht]
      refine wn_fin hM ?_ (fun q q1 q2 => ?_)
      · rcases hh with rfl | rfl | rfl <;> rfl
      · by_cases e9 : q = h + 1 + 15
        · subst e9
          refine Or.inr ⟨8, by rw [Nat.add_assoc]; exact wt_aH_16 hh, fun j hj => ?_⟩
          rw [h4 j hj]
          rcases hh with rfl | rfl | rfl <;> rfl
        · refine Or.inl ?_
          rw [h3 q e9]
          unfold wt_m0
          rw [if_neg (by rcases hh with rfl | rfl | rfl <;> omega), if_neg (by rcases hh with rfl | rfl | rfl <;> omega)]
          rfl
    · have hlt : i < 8 := by
        rcases Nat.lt_or_ge i 8 with q | q
        · exact q
        · rw [ex, show (8 : Int32) = nI 8 from rfl] at c1; exact absurd (nI_le q (by omega)) c1
      refine lv_aload_n hx hb dX0_init_95 rfl (lv_at hl 1 rfl) ?_
      refine wn_getr hx hb hts hown hK hM rfl wt_inX0 7 (by decide) tc_40 rfl dX0_init_96 ?_
      refine lv_iload_n hx hb dX0_init_99 rfl (lv_at hl 0 rfl) ?_
      refine lv_iconst (v := 1) hx hb dX0_init_100 (by decide) ?_
      refine wn_ist (j := 15) (n := 8) hx hb hK hM (by decide) (by rw [Nat.add_assoc]; exact wt_aH_16 hh) (by rw [ex]; exact nI_in hlt (by decide)) dX0_init_101 (fun H locs hM => ?_)
      refine lv_iinc (v := (x + (1 : Int32))) (lv' := [(1, .int (x + (1 : Int32))), (0, .ref (B + h))]) hx hb dX0_init_102 hl (k := 0) rfl rfl (by decide) rfl (fun ls hl => ?_)
      refine lv_goto (tgt := 89) hx hb dX0_init_105 (by decide) ?_
      refine ih (i + 1) _ _ _ _ _ hlt (by omega) (by rw [ex]; exact (nI_succ i).symm) (fun q hq => ?_) (fun q hq => ?_) hM hl
      · unfold up2; rw [if_neg hq]; exact h3 q hq
      · unfold up2 upd
        rw [if_pos rfl, ex, nI_clamp (by omega)]
        by_cases e9 : q = i
        · rw [if_pos e9]
        · rw [if_neg e9]; exact h4 q (by omega)
set_option maxHeartbeats 4000000 in
set_option maxRecDepth 100000 in
theorem wn_X4_loop {p : Program} {l : Launch} {e : Env} {s : State} {m : MethodId} {args : Array Value} {below : List Frame} {meth : Method} {c : Code} {D : va_G} {tI tII : ClassId} {B cells slots : Nat} (hx : p.tables.exec = Jvm.exec) (hb : c.code = cX4_init) (hts : ∀ w ∈ wt_tbl, w.before args s = true) (hown : s.vm.findClass RX4 = some m.cls) (hml : c.maxLocals = 2) (hr : meth.sig.returnType = none) (hlk : meth.locks = false) (hK : wt_K D tI tII s) (hz : s.heap.size = B + (101 + 1)) (hcc : cells ≤ 20) (hss : slots ≤ 2778) : ∀ (N i : Nat) (x : Int32) (σ : Mem) (H : Heap) (locs : List Loc) (ls : Array Slot), i ≤ 120 → 121 ≤ i + N → x = nI i → (∀ q, q ≠ (102 + 4) → σ q = (up2 (up2 (up2 (up2 (up2 (up2 (up2 (up2 wt_z 102 0 1) 102 1 1) 102 2 1) 102 3 1) 102 4 1) 102 5 1) 102 6 1) 102 7 1) q) → (∀ q, q < i → σ (102 + 4) q = -9) → wn_St D tI tII B 101 4 [.ref (B + (102 + 0)), .int 0, .ref (B + (102 + 1)), .int 0, .ref (B + (102 + 2)), .ref (B + (102 + 3)), .ref (B + (102 + 4)), .ref (B + (102 + 5)), .int 0, .int 0, .int 0, .ref (B + (102 + 6)), .ref (B + (102 + 7)), .ref (B + (102 + 8)), .ref (B + (102 + 9)), .int 0, .int 0, .int 0, .int 0, .ref (B + (102 + 10)), .ref (B + (102 + 11)), .ref (B + (102 + 12)), .ref (B + (102 + 13)), .ref (B + (102 + 14)), .int 0, .int 0, .int 0, .null, .ref (B + (102 + 15)), .ref (B + (102 + 16)), .int 0, .ref (B + (102 + 17)), .ref (B + (102 + 18)), .ref (B + (102 + 19)), .int 0, .int 0] σ (102) 20 s H locs → lv_has ls 2 [(1, .int x), (0, .ref (B + 101))] → W p l e rm_X4_init s m args below meth c H locs cells slots (MQ below (va_Qv (fun _ : Unit => True) (fun _ t => t.heap.size = B + (101 + 21) ∧ va_P D vwCl (wn_pw tI tII B wt_m0 101 21) t.heap ∧ wt_K D tI tII t) (fun q => B + 101 ≤ q)) args s 20 2778 (fun q => B + 101 ≤ q)) (F0 m 207 ls []) := by
  intro N
  induction N with
  | zero => intro i x σ H locs ls h1 h2; omega
  | succ N ih =>
    intro i x σ H locs ls h1 h2 ex h3 h4 hM hl
    refine lv_iload_n hx hb dX4_init_207 rfl (lv_at hl 0 rfl) ?_
    refine lv_bipush (v := 120) hx hb dX4_init_208 (by decide) ?_
    refine lv_icmp_ge (tgt := 227) hx hb dX4_init_210 (by decide) (fun c1 => ?_) (fun c1 => ?_)
    · have hi : i = 120 := by
        rcases Nat.lt_or_ge i 120 with q | q
        · rw [ex, show (120 : Int32) = nI 120 from rfl] at c1; exact absurd c1 (nI_ge q (by decide))
        · omega
      subst hi
      refine W.widen (k := 20) (n := 2778) hcc hss ?_
      refine W.vret hx hb hr (fun t ht hW => ⟨⟨(), rfl, trivial, by rw [ht]; exact hM.2.1, ?_, wt_K.moved hW.alike hK⟩, hM.2.2.2.F ht⟩) hM.2.2.2.2.2 dX4_init_227 hlk
      rw [ht]
      refine wn_fin hM rfl (fun q q1 q2 => ?_)
      · by_cases e9 : q = (102 + 4)
        · subst e9
          refine Or.inr ⟨120, wt_a106, fun j hj => ?_⟩
          rw [h4 j hj]
          rfl
        · rw [h3 q e9]
          by_cases e8 : q = 102
          · subst e8
            refine Or.inr ⟨8, wt_a102, fun j hj => ?_⟩
            rcases (show j = 0 ∨ j = 1 ∨ j = 2 ∨ j = 3 ∨ j = 4 ∨ j = 5 ∨ j = 6 ∨ j = 7 by omega) with rfl | rfl | rfl | rfl | rfl | rfl | rfl | rfl <;> rfl
          · refine Or.inl ?_
            unfold wt_m0
            rw [if_neg (by omega), if_neg e9]
            simp only [up2, e8, if_false]
            rfl
    · have hlt : i < 120 := by
        rcases Nat.lt_or_ge i 120 with q | q
        · exact q
        · rw [ex, show (120 : Int32) = nI 120 from rfl] at c1; exact absurd (nI_le q (by omega)) c1
      refine lv_aload_n hx hb dX4_init_213 rfl (lv_at hl 1 rfl) ?_
      refine wn_getr hx hb hts hown hK hM rfl wt_inX4 6 (by decide) tc_716 rfl dX4_init_214 ?_
      refine lv_iload_n hx hb dX4_init_217 rfl (lv_at hl 0 rfl) ?_
      refine lv_bipush (v := -9) hx hb dX4_init_218 (by decide) ?_
      refine wn_ist (j := 4) (n := 120) hx hb hK hM (by decide) (wt_a106) (by rw [ex]; exact nI_in hlt (by decide)) dX4_init_220 (fun H locs hM => ?_)
      refine lv_iinc (v := (x + (1 : Int32))) (lv' := [(1, .int (x + (1 : Int32))), (0, .ref (B + 101))]) hx hb dX4_init_221 hl (k := 0) rfl rfl (by decide) rfl (fun ls hl => ?_)
      refine lv_goto (tgt := 207) hx hb dX4_init_224 (by decide) ?_
      refine ih (i + 1) _ _ _ _ _ hlt (by omega) (by rw [ex]; exact (nI_succ i).symm) (fun q hq => ?_) (fun q hq => ?_) hM hl
      · unfold up2; rw [if_neg hq]; exact h3 q hq
      · unfold up2 upd
        rw [if_pos rfl, ex, nI_clamp (by omega)]
        by_cases e9 : q = i
        · rw [if_pos e9]
        · rw [if_neg e9]; exact h4 q (by omega)
set_option maxHeartbeats 4000000 in
set_option maxRecDepth 100000 in
theorem ctor_X0 {l : Launch} {h : Nat} (hh : wt_isH h) : wn_I l yX0_init cX0_init 2 rm_X0_init 0 h 23 [.int 0, .null, .int 0, .null, .null, .null, .null, .null, .int 0, .int 0, .null] wt_m0 := by
  intro D tI tII B
  refine Met.ofW (cc := cX0_init) (maxL := 2) (ret := none) (by decide) rfl ?_
  intro p e s m args below meth c s₁ B9 hml hv
  obtain ⟨rfl, hz, hP, hK, hAA⟩ := hv
  obtain ⟨hx, hb, hts, hown, hml, hr, hlk, -⟩ := wt_C_of (own := RX0) B9 hml hK
  have hin : meth.name = "<init>" := (name_of_methodNamed B9.named B9.method).1
  have hM : wn_St D tI tII B h 0 [.int 0, .null, .int 0, .null, .null, .null, .null, .null, .int 0, .int 0, .null] wt_z (h + 1) 0 s s.heap [] := ⟨hP, hz, Nat.lt_succ_self _, va_S.rf⟩
  have hl := lv_entry ([.ref (B + h)]) (n := 2) (qz_b rfl)
  rw [lg_entry_eq]
  generalize (lg_sl ([.ref (B + h)]) ++ List.replicate (2 - (lg_sl ([.ref (B + h)])).length) Slot.unset).toArray = ls at hl ⊢
  have hl : lv_has ls 2 [(0, .ref (B + h))] := hl
  refine lv_aload_n hx hb dX0_init_0 rfl (lv_at hl 0 rfl) ?_
  refine W.objInit hx hb hown (hts _ tc_22) (hts _ tc_15) (hts _ tc_16) rfl (by rw [hml]; exact hl.1) rfl dX0_init_1 (qz_b rfl) (qz_b rfl) ?_
  refine W.eq (g2 := F0 m 4 ls []) rfl ?_
  refine lv_aload_n hx hb dX0_init_4 rfl (lv_at hl 0 rfl) ?_
  refine lv_iconst (v := 0) hx hb dX0_init_5 (by decide) ?_
  refine wn_puti (v := .int 0) (ty := .int) hx hb hts hown hK hM rfl wt_inX0 tyX0 tyX0_ok nmX0 0 (by decide) tc_25 rfl rfl rfl rfl (qz_b rfl) dX0_init_6 (fun H locs hM => ?_)
  have hM : wn_St D tI tII B h 0 [.int 0, .null, .int 0, .null, .null, .null, .null, .null, .int 0, .int 0, .null] wt_z (h + 1) 0 s H locs := hM
  refine lv_aload_n hx hb dX0_init_9 rfl (lv_at hl 0 rfl) ?_
  refine lv_bipush (v := 6) hx hb dX0_init_10 (by decide) ?_
  refine wn_newa (N := 6) hx hb (hts _ tc_71) hK hM (by decide) rfl (qz_b rfl) (by rw [Nat.add_assoc]; exact wt_cH hh (j := 1 + 0) (by decide)) (qz_b rfl) (qz_b rfl) dX0_init_12 (fun H hM => ?_)
  refine wn_putF (v := .ref (B + ((h + 1) + 0))) (ty := .array .int) hx hb hts hown hin hK hM rfl wt_inX0 tyX0 tyX0_ok nmX0 1 (by decide) tc_27 rfl rfl rfl rfl rfl (qz_b rfl) dX0_init_14 (fun H locs hM => ?_)
  have hM : wn_St D tI tII B h 0 [.int 0, .ref (B + ((h + 1) + 0)), .int 0, .null, .null, .null, .null, .null, .int 0, .int 0, .null] wt_z (h + 1) 1 s H locs := hM
  refine lv_aload_n hx hb dX0_init_17 rfl (lv_at hl 0 rfl) ?_
  refine lv_iconst (v := 0) hx hb dX0_init_18 (by decide) ?_
  refine wn_puti (v := .int 0) (ty := .int) hx hb hts hown hK hM rfl wt_inX0 tyX0 tyX0_ok nmX0 2 (by decide) tc_30 rfl rfl rfl rfl (qz_b rfl) dX0_init_19 (fun H locs hM => ?_)
  have hM : wn_St D tI tII B h 0 [.int 0, .ref (B + ((h + 1) + 0)), .int 0, .null, .null, .null, .null, .null, .int 0, .int 0, .null] wt_z (h + 1) 1 s H locs := hM
  refine lv_aload_n hx hb dX0_init_22 rfl (lv_at hl 0 rfl) ?_
  refine lv_iconst (v := 5) hx hb dX0_init_23 (by decide) ?_
  refine wn_newa (N := 5) hx hb (hts _ tc_71) hK hM (by decide) rfl (qz_b rfl) (by rw [Nat.add_assoc]; exact wt_cH hh (j := 1 + 1) (by decide)) (qz_b rfl) (qz_b rfl) dX0_init_24 (fun H hM => ?_)
  refine wn_putF (v := .ref (B + ((h + 1) + 1))) (ty := .array .int) hx hb hts hown hin hK hM rfl wt_inX0 tyX0 tyX0_ok nmX0 3 (by decide) tc_32 rfl rfl rfl rfl rfl (qz_b rfl) dX0_init_26 (fun H locs hM => ?_)
  have hM : wn_St D tI tII B h 0 [.int 0, .ref (B + ((h + 1) + 0)), .int 0, .ref (B + ((h + 1) + 1)), .null, .null, .null, .null, .int 0, .int 0, .null] wt_z (h + 1) 2 s H locs := hM
  refine lv_aload_n hx hb dX0_init_29 rfl (lv_at hl 0 rfl) ?_
  refine lv_iconst (v := 5) hx hb dX0_init_30 (by decide) ?_
  refine wn_newa (N := 5) hx hb (hts _ tc_71) hK hM (by decide) rfl (qz_b rfl) (by rw [Nat.add_assoc]; exact wt_cH hh (j := 1 + 2) (by decide)) (qz_b rfl) (qz_b rfl) dX0_init_31 (fun H hM => ?_)
  refine wn_putF (v := .ref (B + ((h + 1) + 2))) (ty := .array .int) hx hb hts hown hin hK hM rfl wt_inX0 tyX0 tyX0_ok nmX0 4 (by decide) tc_34 rfl rfl rfl rfl rfl (qz_b rfl) dX0_init_33 (fun H locs hM => ?_)
  have hM : wn_St D tI tII B h 0 [.int 0, .ref (B + ((h + 1) + 0)), .int 0, .ref (B + ((h + 1) + 1)), .ref (B + ((h + 1) + 2)), .null, .null, .null, .int 0, .int 0, .null] wt_z (h + 1) 3 s H locs := hM
  refine lv_aload_n hx hb dX0_init_36 rfl (lv_at hl 0 rfl) ?_
  refine lv_iconst (v := 5) hx hb dX0_init_37 (by decide) ?_
  refine lv_bipush (v := 24) hx hb dX0_init_38 (by decide) ?_
  refine wn_mna (N := 5) (K := 24) hx hb hown (hts _ tc_23) hAA hK hM (by decide) (by decide) rfl rfl (qz_b rfl) (qz_b rfl) (by rw [Nat.add_assoc]; exact wt_cH hh (j := 1 + 3) (by decide)) (fun j hj => by rw [Nat.add_assoc]; rcases (show j = 0 ∨ j = 1 ∨ j = 2 ∨ j = 3 ∨ j = 4 by omega) with rfl | rfl | rfl | rfl | rfl <;> exact wt_cH hh (by decide)) (qz_b rfl) (qz_b rfl) dX0_init_40 (fun H locs hM => ?_)
  have hM : wn_St D tI tII B h 0 [.int 0, .ref (B + ((h + 1) + 0)), .int 0, .ref (B + ((h + 1) + 1)), .ref (B + ((h + 1) + 2)), .null, .null, .null, .int 0, .int 0, .null] wt_z (h + 1) 9 s H locs := hM
  refine wn_putF (v := .ref (B + ((h + 1) + 3))) (ty := .array (.array .int)) hx hb hts hown hin hK hM rfl wt_inX0 tyX0 tyX0_ok nmX0 5 (by decide) tc_36 rfl rfl rfl rfl rfl (qz_b rfl) dX0_init_44 (fun H locs hM => ?_)
  have hM : wn_St D tI tII B h 0 [.int 0, .ref (B + ((h + 1) + 0)), .int 0, .ref (B + ((h + 1) + 1)), .ref (B + ((h + 1) + 2)), .ref (B + ((h + 1) + 3)), .null, .null, .int 0, .int 0, .null] wt_z (h + 1) 9 s H locs := hM
  refine lv_aload_n hx hb dX0_init_47 rfl (lv_at hl 0 rfl) ?_
  refine lv_iconst (v := 5) hx hb dX0_init_48 (by decide) ?_
  refine lv_bipush (v := 8) hx hb dX0_init_49 (by decide) ?_
  refine wn_mna (N := 5) (K := 8) hx hb hown (hts _ tc_23) hAA hK hM (by decide) (by decide) rfl rfl (qz_b rfl) (qz_b rfl) (by rw [Nat.add_assoc]; exact wt_cH hh (j := 1 + 9) (by decide)) (fun j hj => by rw [Nat.add_assoc]; rcases (show j = 0 ∨ j = 1 ∨ j = 2 ∨ j = 3 ∨ j = 4 by omega) with rfl | rfl | rfl | rfl | rfl <;> exact wt_cH hh (by decide)) (qz_b rfl) (qz_b rfl) dX0_init_51 (fun H locs hM => ?_)
  have hM : wn_St D tI tII B h 0 [.int 0, .ref (B + ((h + 1) + 0)), .int 0, .ref (B + ((h + 1) + 1)), .ref (B + ((h + 1) + 2)), .ref (B + ((h + 1) + 3)), .null, .null, .int 0, .int 0, .null] wt_z (h + 1) 15 s H locs := hM
  refine wn_putF (v := .ref (B + ((h + 1) + 9))) (ty := .array (.array .int)) hx hb hts hown hin hK hM rfl wt_inX0 tyX0 tyX0_ok nmX0 6 (by decide) tc_38 rfl rfl rfl rfl rfl (qz_b rfl) dX0_init_55 (fun H locs hM => ?_)
  have hM : wn_St D tI tII B h 0 [.int 0, .ref (B + ((h + 1) + 0)), .int 0, .ref (B + ((h + 1) + 1)), .ref (B + ((h + 1) + 2)), .ref (B + ((h + 1) + 3)), .ref (B + ((h + 1) + 9)), .null, .int 0, .int 0, .null] wt_z (h + 1) 15 s H locs := hM
  refine lv_aload_n hx hb dX0_init_58 rfl (lv_at hl 0 rfl) ?_
  refine lv_bipush (v := 8) hx hb dX0_init_59 (by decide) ?_
  refine wn_newa (N := 8) hx hb (hts _ tc_71) hK hM (by decide) rfl (qz_b rfl) (by rw [Nat.add_assoc]; exact wt_cH hh (j := 1 + 15) (by decide)) (qz_b rfl) (qz_b rfl) dX0_init_61 (fun H hM => ?_)
  refine wn_putF (v := .ref (B + ((h + 1) + 15))) (ty := .array .int) hx hb hts hown hin hK hM rfl wt_inX0 tyX0 tyX0_ok nmX0 7 (by decide) tc_40 rfl rfl rfl rfl rfl (qz_b rfl) dX0_init_63 (fun H locs hM => ?_)
  have hM : wn_St D tI tII B h 0 [.int 0, .ref (B + ((h + 1) + 0)), .int 0, .ref (B + ((h + 1) + 1)), .ref (B + ((h + 1) + 2)), .ref (B + ((h + 1) + 3)), .ref (B + ((h + 1) + 9)), .ref (B + ((h + 1) + 15)), .int 0, .int 0, .null] wt_z (h + 1) 16 s H locs := hM
  refine lv_aload_n hx hb dX0_init_66 rfl (lv_at hl 0 rfl) ?_
  refine lv_iconst (v := 0) hx hb dX0_init_67 (by decide) ?_
  refine wn_puti (v := .int 0) (ty := .int) hx hb hts hown hK hM rfl wt_inX0 tyX0 tyX0_ok nmX0 8 (by decide) tc_42 rfl rfl rfl rfl (qz_b rfl) dX0_init_68 (fun H locs hM => ?_)
  have hM : wn_St D tI tII B h 0 [.int 0, .ref (B + ((h + 1) + 0)), .int 0, .ref (B + ((h + 1) + 1)), .ref (B + ((h + 1) + 2)), .ref (B + ((h + 1) + 3)), .ref (B + ((h + 1) + 9)), .ref (B + ((h + 1) + 15)), .int 0, .int 0, .null] wt_z (h + 1) 16 s H locs := hM
  refine lv_aload_n hx hb dX0_init_71 rfl (lv_at hl 0 rfl) ?_
  refine lv_iconst (v := 0) hx hb dX0_init_72 (by decide) ?_
  refine wn_puti (v := .int 0) (ty := .int) hx hb hts hown hK hM rfl wt_inX0 tyX0 tyX0_ok nmX0 9 (by decide) tc_44 rfl rfl rfl rfl (qz_b rfl) dX0_init_73 (fun H locs hM => ?_)
  have hM : wn_St D tI tII B h 0 [.int 0, .ref (B + ((h + 1) + 0)), .int 0, .ref (B + ((h + 1) + 1)), .ref (B + ((h + 1) + 2)), .ref (B + ((h + 1) + 3)), .ref (B + ((h + 1) + 9)), .ref (B + ((h + 1) + 15)), .int 0, .int 0, .null] wt_z (h + 1) 16 s H locs := hM
  refine lv_aload_n hx hb dX0_init_76 rfl (lv_at hl 0 rfl) ?_
  refine lv_iconst (v := 5) hx hb dX0_init_77 (by decide) ?_
  refine lv_bipush (v := 8) hx hb dX0_init_78 (by decide) ?_
  refine wn_mna (N := 5) (K := 8) hx hb hown (hts _ tc_23) hAA hK hM (by decide) (by decide) rfl rfl (qz_b rfl) (qz_b rfl) (by rw [Nat.add_assoc]; exact wt_cH hh (j := 1 + 16) (by decide)) (fun j hj => by rw [Nat.add_assoc]; rcases (show j = 0 ∨ j = 1 ∨ j = 2 ∨ j = 3 ∨ j = 4 by omega) with rfl | rfl | rfl | rfl | rfl <;> exact wt_cH hh (by decide)) (qz_b rfl) (qz_b rfl) dX0_init_80 (fun H locs hM => ?_)
  have hM : wn_St D tI tII B h 0 [.int 0, .ref (B + ((h + 1) + 0)), .int 0, .ref (B + ((h + 1) + 1)), .ref (B + ((h + 1) + 2)), .ref (B + ((h + 1) + 3)), .ref (B + ((h + 1) + 9)), .ref (B + ((h + 1) + 15)), .int 0, .int 0, .null] wt_z (h + 1) 22 s H locs := hM
  refine wn_putF (v := .ref (B + ((h + 1) + 16))) (ty := .array (.array .int)) hx hb hts hown hin hK hM rfl wt_inX0 tyX0 tyX0_ok nmX0 10 (by decide) tc_46 rfl rfl rfl rfl rfl (qz_b rfl) dX0_init_84 (fun H locs hM => ?_)
  have hM : wn_St D tI tII B h 0 [.int 0, .ref (B + ((h + 1) + 0)), .int 0, .ref (B + ((h + 1) + 1)), .ref (B + ((h + 1) + 2)), .ref (B + ((h + 1) + 3)), .ref (B + ((h + 1) + 9)), .ref (B + ((h + 1) + 15)), .int 0, .int 0, .ref (B + ((h + 1) + 16))] wt_z (h + 1) 22 s H locs := hM
  refine lv_iconst (v := 0) hx hb dX0_init_87 (by decide) ?_
  refine lv_istore_n (lv' := [(1, .int 0), (0, .ref (B + h))]) hx hb dX0_init_88 rfl hl (by decide) rfl (fun ls hl => ?_)
  exact wn_X0_loop hh hx hb hts hown hml hr hlk hK hz (qz_b rfl) (qz_b rfl) 9 0 _ _ _ _ _ (by decide) (by decide) rfl (fun q _ => rfl) (fun q hq => absurd hq (Nat.not_lt_zero _)) hM hl
set_option maxHeartbeats 4000000 in
set_option maxRecDepth 100000 in
theorem ctor_X1 {l : Launch} : wn_I l yX1_init cX1_init 1 rm_X1_init 1 83 2 [.null, .int 0] wt_m0 := by
  intro D tI tII B
  refine Met.ofW (cc := cX1_init) (maxL := 1) (ret := none) (by decide) rfl ?_
  intro p e s m args below meth c s₁ B9 hml hv
  obtain ⟨rfl, hz, hP, hK, hAA⟩ := hv
  obtain ⟨hx, hb, hts, hown, hml, hr, hlk, -⟩ := wt_C_of (own := RX1) B9 hml hK
  have hin : meth.name = "<init>" := (name_of_methodNamed B9.named B9.method).1
  have hM : wn_St D tI tII B 83 1 [.null, .int 0] wt_m0 84 0 s s.heap [] := ⟨hP, hz, Nat.lt_succ_self _, va_S.rf⟩
  have hl := lv_entry ([.ref (B + 83)]) (n := 1) (qz_b rfl)
  rw [lg_entry_eq]
  generalize (lg_sl ([.ref (B + 83)]) ++ List.replicate (1 - (lg_sl ([.ref (B + 83)])).length) Slot.unset).toArray = ls at hl ⊢
  have hl : lv_has ls 1 [(0, .ref (B + 83))] := hl
  refine lv_aload_n hx hb dX1_init_0 rfl (lv_at hl 0 rfl) ?_
  refine W.objInit hx hb hown (hts _ tc_104) (hts _ tc_15) (hts _ tc_16) rfl (by rw [hml]; exact hl.1) rfl dX1_init_1 (qz_b rfl) (qz_b rfl) ?_
  refine W.eq (g2 := F0 m 4 ls []) rfl ?_
  refine lv_aload_n hx hb dX1_init_4 rfl (lv_at hl 0 rfl) ?_
  refine lv_bipush (v := 96) hx hb dX1_init_5 (by decide) ?_
  refine wn_newa (N := 96) hx hb (hts _ tc_71) hK hM (by decide) rfl (qz_b rfl) rfl (qz_b rfl) (qz_b rfl) dX1_init_7 (fun H hM => ?_)
  refine wn_putF (v := .ref (B + (84 + 0))) (ty := .array .int) hx hb hts hown hin hK hM rfl wt_inX1 tyX1 tyX1_ok nmX1 0 (by decide) tc_105 rfl rfl rfl rfl rfl (qz_b rfl) dX1_init_9 (fun H locs hM => ?_)
  have hM : wn_St D tI tII B 83 1 [.ref (B + (84 + 0)), .int 0] wt_m0 84 1 s H locs := hM
  refine lv_aload_n hx hb dX1_init_12 rfl (lv_at hl 0 rfl) ?_
  refine lv_iconst (v := 0) hx hb dX1_init_13 (by decide) ?_
  refine wn_puti (v := .int 0) (ty := .int) hx hb hts hown hK hM rfl wt_inX1 tyX1 tyX1_ok nmX1 1 (by decide) tc_106 rfl rfl rfl rfl (qz_b rfl) dX1_init_14 (fun H locs hM => ?_)
  have hM : wn_St D tI tII B 83 1 [.ref (B + (84 + 0)), .int 0] wt_m0 84 1 s H locs := hM
  refine W.widen (k := 1) (n := 96) (qz_b rfl) (qz_b rfl) ?_
  have hfin := wn_fin (τ := wt_m0) hM rfl (fun q _ _ => Or.inl rfl)
  exact W.vret hx hb hr (fun t ht hW => ⟨⟨(), rfl, trivial, by rw [ht]; exact hM.2.1, by rw [ht]; exact hfin, wt_K.moved hW.alike hK⟩, hM.2.2.2.F ht⟩) hM.2.2.2.2.2 dX1_init_17 hlk
set_option maxHeartbeats 4000000 in
set_option maxRecDepth 100000 in
theorem ctor_X2 {l : Launch} : wn_I l yX2_init cX2_init 1 rm_X2_init 2 70 13 [.null, .null, .null, .null, .int 0, .int 0] wt_m0 := by
  intro D tI tII B
  refine Met.ofW (cc := cX2_init) (maxL := 1) (ret := none) (by decide) rfl ?_
  intro p e s m args below meth c s₁ B9 hml hv
  obtain ⟨rfl, hz, hP, hK, hAA⟩ := hv
  obtain ⟨hx, hb, hts, hown, hml, hr, hlk, -⟩ := wt_C_of (own := RX2) B9 hml hK
  have hin : meth.name = "<init>" := (name_of_methodNamed B9.named B9.method).1
  have hM : wn_St D tI tII B 70 2 [.null, .null, .null, .null, .int 0, .int 0] wt_m0 71 0 s s.heap [] := ⟨hP, hz, Nat.lt_succ_self _, va_S.rf⟩
  have hl := lv_entry ([.ref (B + 70)]) (n := 1) (qz_b rfl)
  rw [lg_entry_eq]
  generalize (lg_sl ([.ref (B + 70)]) ++ List.replicate (1 - (lg_sl ([.ref (B + 70)])).length) Slot.unset).toArray = ls at hl ⊢
  have hl : lv_has ls 1 [(0, .ref (B + 70))] := hl
  refine lv_aload_n hx hb dX2_init_0 rfl (lv_at hl 0 rfl) ?_
  refine W.objInit hx hb hown (hts _ tc_77) (hts _ tc_15) (hts _ tc_16) rfl (by rw [hml]; exact hl.1) rfl dX2_init_1 (qz_b rfl) (qz_b rfl) ?_
  refine W.eq (g2 := F0 m 4 ls []) rfl ?_
  refine lv_aload_n hx hb dX2_init_4 rfl (lv_at hl 0 rfl) ?_
  refine lv_bipush (v := 8) hx hb dX2_init_5 (by decide) ?_
  refine wn_newa (N := 8) hx hb (hts _ tc_71) hK hM (by decide) rfl (qz_b rfl) rfl (qz_b rfl) (qz_b rfl) dX2_init_7 (fun H hM => ?_)
  refine wn_putF (v := .ref (B + (71 + 0))) (ty := .array .int) hx hb hts hown hin hK hM rfl wt_inX2 tyX2 tyX2_ok nmX2 0 (by decide) tc_79 rfl rfl rfl rfl rfl (qz_b rfl) dX2_init_9 (fun H locs hM => ?_)
  have hM : wn_St D tI tII B 70 2 [.ref (B + (71 + 0)), .null, .null, .null, .int 0, .int 0] wt_m0 71 1 s H locs := hM
  refine lv_aload_n hx hb dX2_init_12 rfl (lv_at hl 0 rfl) ?_
  refine lv_bipush (v := 8) hx hb dX2_init_13 (by decide) ?_
  refine wn_newa (N := 8) hx hb (hts _ tc_71) hK hM (by decide) rfl (qz_b rfl) rfl (qz_b rfl) (qz_b rfl) dX2_init_15 (fun H hM => ?_)
  refine wn_putF (v := .ref (B + (71 + 1))) (ty := .array .int) hx hb hts hown hin hK hM rfl wt_inX2 tyX2 tyX2_ok nmX2 1 (by decide) tc_80 rfl rfl rfl rfl rfl (qz_b rfl) dX2_init_17 (fun H locs hM => ?_)
  have hM : wn_St D tI tII B 70 2 [.ref (B + (71 + 0)), .ref (B + (71 + 1)), .null, .null, .int 0, .int 0] wt_m0 71 2 s H locs := hM
  refine lv_aload_n hx hb dX2_init_20 rfl (lv_at hl 0 rfl) ?_
  refine lv_bipush (v := 8) hx hb dX2_init_21 (by decide) ?_
  refine wn_newa (N := 8) hx hb (hts _ tc_71) hK hM (by decide) rfl (qz_b rfl) rfl (qz_b rfl) (qz_b rfl) dX2_init_23 (fun H hM => ?_)
  refine wn_putF (v := .ref (B + (71 + 2))) (ty := .array .int) hx hb hts hown hin hK hM rfl wt_inX2 tyX2 tyX2_ok nmX2 2 (by decide) tc_81 rfl rfl rfl rfl rfl (qz_b rfl) dX2_init_25 (fun H locs hM => ?_)
  have hM : wn_St D tI tII B 70 2 [.ref (B + (71 + 0)), .ref (B + (71 + 1)), .ref (B + (71 + 2)), .null, .int 0, .int 0] wt_m0 71 3 s H locs := hM
  refine lv_aload_n hx hb dX2_init_28 rfl (lv_at hl 0 rfl) ?_
  refine lv_bipush (v := 8) hx hb dX2_init_29 (by decide) ?_
  refine lv_bipush (v := 24) hx hb dX2_init_31 (by decide) ?_
  refine wn_mna (N := 8) (K := 24) hx hb hown (hts _ tc_78) hAA hK hM (by decide) (by decide) rfl rfl (qz_b rfl) (qz_b rfl) rfl (fun j hj => by rcases (show j = 0 ∨ j = 1 ∨ j = 2 ∨ j = 3 ∨ j = 4 ∨ j = 5 ∨ j = 6 ∨ j = 7 by omega) with rfl | rfl | rfl | rfl | rfl | rfl | rfl | rfl <;> rfl) (qz_b rfl) (qz_b rfl) dX2_init_33 (fun H locs hM => ?_)
  have hM : wn_St D tI tII B 70 2 [.ref (B + (71 + 0)), .ref (B + (71 + 1)), .ref (B + (71 + 2)), .null, .int 0, .int 0] wt_m0 71 12 s H locs := hM
  refine wn_putF (v := .ref (B + (71 + 3))) (ty := .array (.array .int)) hx hb hts hown hin hK hM rfl wt_inX2 tyX2 tyX2_ok nmX2 3 (by decide) tc_82 rfl rfl rfl rfl rfl (qz_b rfl) dX2_init_37 (fun H locs hM => ?_)
  have hM : wn_St D tI tII B 70 2 [.ref (B + (71 + 0)), .ref (B + (71 + 1)), .ref (B + (71 + 2)), .ref (B + (71 + 3)), .int 0, .int 0] wt_m0 71 12 s H locs := hM
  refine lv_aload_n hx hb dX2_init_40 rfl (lv_at hl 0 rfl) ?_
  refine lv_iconst (v := 0) hx hb dX2_init_41 (by decide) ?_
  refine wn_puti (v := .int 0) (ty := .int) hx hb hts hown hK hM rfl wt_inX2 tyX2 tyX2_ok nmX2 4 (by decide) tc_83 rfl rfl rfl rfl (qz_b rfl) dX2_init_42 (fun H locs hM => ?_)
  have hM : wn_St D tI tII B 70 2 [.ref (B + (71 + 0)), .ref (B + (71 + 1)), .ref (B + (71 + 2)), .ref (B + (71 + 3)), .int 0, .int 0] wt_m0 71 12 s H locs := hM
  refine lv_aload_n hx hb dX2_init_45 rfl (lv_at hl 0 rfl) ?_
  refine lv_iconst (v := 0) hx hb dX2_init_46 (by decide) ?_
  refine wn_puti (v := .int 0) (ty := .int) hx hb hts hown hK hM rfl wt_inX2 tyX2 tyX2_ok nmX2 5 (by decide) tc_84 rfl rfl rfl rfl (qz_b rfl) dX2_init_47 (fun H locs hM => ?_)
  have hM : wn_St D tI tII B 70 2 [.ref (B + (71 + 0)), .ref (B + (71 + 1)), .ref (B + (71 + 2)), .ref (B + (71 + 3)), .int 0, .int 0] wt_m0 71 12 s H locs := hM
  refine W.widen (k := 12) (n := 224) (qz_b rfl) (qz_b rfl) ?_
  have hfin := wn_fin (τ := wt_m0) hM rfl (fun q _ _ => Or.inl rfl)
  exact W.vret hx hb hr (fun t ht hW => ⟨⟨(), rfl, trivial, by rw [ht]; exact hM.2.1, by rw [ht]; exact hfin, wt_K.moved hW.alike hK⟩, hM.2.2.2.F ht⟩) hM.2.2.2.2.2 dX2_init_50 hlk
set_option maxHeartbeats 4000000 in
set_option maxRecDepth 100000 in
theorem ctor_X3 {l : Launch} : wn_I l yX3_init cX3_init 1 rm_X3_init 3 0 101 [.null, .null, .null, .int 0, .null, .null, .null, .int 0, .null, .null, .null] wt_m0 := by
  intro D tI tII B
  refine Met.ofW (cc := cX3_init) (maxL := 1) (ret := none) (by decide) rfl ?_
  intro p e s m args below meth c s₁ B9 hml hv
  obtain ⟨rfl, hz, hP, hK, hAA⟩ := hv
  obtain ⟨hx, hb, hts, hown, hml, hr, hlk, -⟩ := wt_C_of (own := RX3) B9 hml hK
  have hin : meth.name = "<init>" := (name_of_methodNamed B9.named B9.method).1
  have hM : wn_St D tI tII B 0 3 [.null, .null, .null, .int 0, .null, .null, .null, .int 0, .null, .null, .null] wt_m0 1 0 s s.heap [] := ⟨hP, hz, Nat.lt_succ_self _, va_S.rf⟩
  have hl := lv_entry ([.ref (B + 0)]) (n := 1) (qz_b rfl)
  rw [lg_entry_eq]
  generalize (lg_sl ([.ref (B + 0)]) ++ List.replicate (1 - (lg_sl ([.ref (B + 0)])).length) Slot.unset).toArray = ls at hl ⊢
  have hl : lv_has ls 1 [(0, .ref (B + 0))] := hl
  refine lv_aload_n hx hb dX3_init_0 rfl (lv_at hl 0 rfl) ?_
  refine W.objInit hx hb hown (hts _ tc_14) (hts _ tc_15) (hts _ tc_16) rfl (by rw [hml]; exact hl.1) rfl dX3_init_1 (qz_b rfl) (qz_b rfl) ?_
  refine W.eq (g2 := F0 m 4 ls []) rfl ?_
  refine lv_aload_n hx hb dX3_init_4 rfl (lv_at hl 0 rfl) ?_
  refine wn_child (nL := 1) (h := 1) (n := 23) (ch := 0) (N := 11) hx hb hml hl.1 hts hown hK hAA hM rfl rfl wt_inX0 tyX0 tyX0_ok tc_17 tc_18 tc_2 (dfs := [.int 0, .null, .int 0, .null, .null, .null, .null, .null, .int 0, .int 0, .null]) (fun j hj => by rcases (show j = 0 ∨ j = 1 ∨ j = 2 ∨ j = 3 ∨ j = 4 ∨ j = 5 ∨ j = 6 ∨ j = 7 ∨ j = 8 ∨ j = 9 ∨ j = 10 by omega) with rfl | rfl | rfl | rfl | rfl | rfl | rfl | rfl | rfl | rfl | rfl <;> rfl) (ctor_X0 wt_h1) rfl rfl hd_X0_init tc_19 tc_20 tc_21 ⟨qz_b rfl, qz_b rfl⟩ (qz_b rfl) (qz_b rfl) (qz_b rfl) (qz_b rfl) dX3_init_5 dX3_init_8 dX3_init_9 (fun H locs hM => ?_)
  have hM : wn_St D tI tII B 0 3 [.null, .null, .null, .int 0, .null, .null, .null, .int 0, .null, .null, .null] wt_m0 1 23 s H locs := hM
  refine wn_putF (v := .ref (B + 1)) (ty := .object "WindowTaken$House") hx hb hts hown hin hK hM rfl wt_inX3 tyX3 tyX3_ok nmX3 0 (by decide) tc_114 rfl rfl rfl rfl rfl (qz_b rfl) dX3_init_12 (fun H locs hM => ?_)
  have hM : wn_St D tI tII B 0 3 [.ref (B + 1), .null, .null, .int 0, .null, .null, .null, .int 0, .null, .null, .null] wt_m0 1 23 s H locs := hM
  refine lv_aload_n hx hb dX3_init_15 rfl (lv_at hl 0 rfl) ?_
  refine wn_child (nL := 1) (h := 24) (n := 23) (ch := 0) (N := 11) hx hb hml hl.1 hts hown hK hAA hM rfl rfl wt_inX0 tyX0 tyX0_ok tc_17 tc_18 tc_2 (dfs := [.int 0, .null, .int 0, .null, .null, .null, .null, .null, .int 0, .int 0, .null]) (fun j hj => by rcases (show j = 0 ∨ j = 1 ∨ j = 2 ∨ j = 3 ∨ j = 4 ∨ j = 5 ∨ j = 6 ∨ j = 7 ∨ j = 8 ∨ j = 9 ∨ j = 10 by omega) with rfl | rfl | rfl | rfl | rfl | rfl | rfl | rfl | rfl | rfl | rfl <;> rfl) (ctor_X0 wt_h24) rfl rfl hd_X0_init tc_19 tc_20 tc_21 ⟨qz_b rfl, qz_b rfl⟩ (qz_b rfl) (qz_b rfl) (qz_b rfl) (qz_b rfl) dX3_init_16 dX3_init_19 dX3_init_20 (fun H locs hM => ?_)
  have hM : wn_St D tI tII B 0 3 [.ref (B + 1), .null, .null, .int 0, .null, .null, .null, .int 0, .null, .null, .null] wt_m0 1 46 s H locs := hM
  refine wn_putF (v := .ref (B + 24)) (ty := .object "WindowTaken$House") hx hb hts hown hin hK hM rfl wt_inX3 tyX3 tyX3_ok nmX3 1 (by decide) tc_115 rfl rfl rfl rfl rfl (qz_b rfl) dX3_init_23 (fun H locs hM => ?_)
  have hM : wn_St D tI tII B 0 3 [.ref (B + 1), .ref (B + 24), .null, .int 0, .null, .null, .null, .int 0, .null, .null, .null] wt_m0 1 46 s H locs := hM
  refine lv_aload_n hx hb dX3_init_26 rfl (lv_at hl 0 rfl) ?_
  refine wn_child (nL := 1) (h := 47) (n := 23) (ch := 0) (N := 11) hx hb hml hl.1 hts hown hK hAA hM rfl rfl wt_inX0 tyX0 tyX0_ok tc_17 tc_18 tc_2 (dfs := [.int 0, .null, .int 0, .null, .null, .null, .null, .null, .int 0, .int 0, .null]) (fun j hj => by rcases (show j = 0 ∨ j = 1 ∨ j = 2 ∨ j = 3 ∨ j = 4 ∨ j = 5 ∨ j = 6 ∨ j = 7 ∨ j = 8 ∨ j = 9 ∨ j = 10 by omega) with rfl | rfl | rfl | rfl | rfl | rfl | rfl | rfl | rfl | rfl | rfl <;> rfl) (ctor_X0 wt_h47) rfl rfl hd_X0_init tc_19 tc_20 tc_21 ⟨qz_b rfl, qz_b rfl⟩ (qz_b rfl) (qz_b rfl) (qz_b rfl) (qz_b rfl) dX3_init_27 dX3_init_30 dX3_init_31 (fun H locs hM => ?_)
  have hM : wn_St D tI tII B 0 3 [.ref (B + 1), .ref (B + 24), .null, .int 0, .null, .null, .null, .int 0, .null, .null, .null] wt_m0 1 69 s H locs := hM
  refine wn_putF (v := .ref (B + 47)) (ty := .object "WindowTaken$House") hx hb hts hown hin hK hM rfl wt_inX3 tyX3 tyX3_ok nmX3 2 (by decide) tc_116 rfl rfl rfl rfl rfl (qz_b rfl) dX3_init_34 (fun H locs hM => ?_)
  have hM : wn_St D tI tII B 0 3 [.ref (B + 1), .ref (B + 24), .ref (B + 47), .int 0, .null, .null, .null, .int 0, .null, .null, .null] wt_m0 1 69 s H locs := hM
  refine lv_aload_n hx hb dX3_init_37 rfl (lv_at hl 0 rfl) ?_
  refine lv_iconst (v := 0) hx hb dX3_init_38 (by decide) ?_
  refine wn_puti (v := .int 0) (ty := .boolean) hx hb hts hown hK hM rfl wt_inX3 tyX3 tyX3_ok nmX3 3 (by decide) tc_117 rfl rfl rfl rfl (qz_b rfl) dX3_init_39 (fun H locs hM => ?_)
  have hM : wn_St D tI tII B 0 3 [.ref (B + 1), .ref (B + 24), .ref (B + 47), .int 0, .null, .null, .null, .int 0, .null, .null, .null] wt_m0 1 69 s H locs := hM
  refine lv_aload_n hx hb dX3_init_42 rfl (lv_at hl 0 rfl) ?_
  refine wn_child (nL := 1) (h := 70) (n := 13) (ch := 2) (N := 6) hx hb hml hl.1 hts hown hK hAA hM rfl rfl wt_inX2 tyX2 tyX2_ok tc_72 tc_73 tc_3 (dfs := [.null, .null, .null, .null, .int 0, .int 0]) (fun j hj => by rcases (show j = 0 ∨ j = 1 ∨ j = 2 ∨ j = 3 ∨ j = 4 ∨ j = 5 by omega) with rfl | rfl | rfl | rfl | rfl | rfl <;> rfl) (ctor_X2) rfl rfl hd_X2_init tc_74 tc_75 tc_76 ⟨qz_b rfl, qz_b rfl⟩ (qz_b rfl) (qz_b rfl) (qz_b rfl) (qz_b rfl) dX3_init_43 dX3_init_46 dX3_init_47 (fun H locs hM => ?_)
  have hM : wn_St D tI tII B 0 3 [.ref (B + 1), .ref (B + 24), .ref (B + 47), .int 0, .null, .null, .null, .int 0, .null, .null, .null] wt_m0 1 82 s H locs := hM
  refine wn_putF (v := .ref (B + 70)) (ty := .object "WindowTaken$Steps") hx hb hts hown hin hK hM rfl wt_inX3 tyX3 tyX3_ok nmX3 4 (by decide) tc_118 rfl rfl rfl rfl rfl (qz_b rfl) dX3_init_50 (fun H locs hM => ?_)
  have hM : wn_St D tI tII B 0 3 [.ref (B + 1), .ref (B + 24), .ref (B + 47), .int 0, .ref (B + 70), .null, .null, .int 0, .null, .null, .null] wt_m0 1 82 s H locs := hM
  refine lv_aload_n hx hb dX3_init_53 rfl (lv_at hl 0 rfl) ?_
  refine wn_child (nL := 1) (h := 83) (n := 2) (ch := 1) (N := 2) hx hb hml hl.1 hts hown hK hAA hM rfl rfl wt_inX1 tyX1 tyX1_ok tc_99 tc_100 tc_4 (dfs := [.null, .int 0]) (fun j hj => by rcases (show j = 0 ∨ j = 1 by omega) with rfl | rfl <;> rfl) (ctor_X1) rfl rfl hd_X1_init tc_101 tc_102 tc_103 ⟨qz_b rfl, qz_b rfl⟩ (qz_b rfl) (qz_b rfl) (qz_b rfl) (qz_b rfl) dX3_init_54 dX3_init_57 dX3_init_58 (fun H locs hM => ?_)
  have hM : wn_St D tI tII B 0 3 [.ref (B + 1), .ref (B + 24), .ref (B + 47), .int 0, .ref (B + 70), .null, .null, .int 0, .null, .null, .null] wt_m0 1 84 s H locs := hM
  refine wn_putF (v := .ref (B + 83)) (ty := .object "WindowTaken$Letters") hx hb hts hown hin hK hM rfl wt_inX3 tyX3 tyX3_ok nmX3 5 (by decide) tc_119 rfl rfl rfl rfl rfl (qz_b rfl) dX3_init_61 (fun H locs hM => ?_)
  have hM : wn_St D tI tII B 0 3 [.ref (B + 1), .ref (B + 24), .ref (B + 47), .int 0, .ref (B + 70), .ref (B + 83), .null, .int 0, .null, .null, .null] wt_m0 1 84 s H locs := hM
  refine lv_aload_n hx hb dX3_init_64 rfl (lv_at hl 0 rfl) ?_
  refine lv_bipush (v := 12) hx hb dX3_init_65 (by decide) ?_
  refine wn_newa (N := 12) hx hb (hts _ tc_71) hK hM (by decide) rfl (qz_b rfl) rfl (qz_b rfl) (qz_b rfl) dX3_init_67 (fun H hM => ?_)
  refine wn_putF (v := .ref (B + (1 + 84))) (ty := .array .int) hx hb hts hown hin hK hM rfl wt_inX3 tyX3 tyX3_ok nmX3 6 (by decide) tc_120 rfl rfl rfl rfl rfl (qz_b rfl) dX3_init_69 (fun H locs hM => ?_)
  have hM : wn_St D tI tII B 0 3 [.ref (B + 1), .ref (B + 24), .ref (B + 47), .int 0, .ref (B + 70), .ref (B + 83), .ref (B + (1 + 84)), .int 0, .null, .null, .null] wt_m0 1 85 s H locs := hM
  refine lv_aload_n hx hb dX3_init_72 rfl (lv_at hl 0 rfl) ?_
  refine lv_iconst (v := 0) hx hb dX3_init_73 (by decide) ?_
  refine wn_puti (v := .int 0) (ty := .int) hx hb hts hown hK hM rfl wt_inX3 tyX3 tyX3_ok nmX3 7 (by decide) tc_121 rfl rfl rfl rfl (qz_b rfl) dX3_init_74 (fun H locs hM => ?_)
  have hM : wn_St D tI tII B 0 3 [.ref (B + 1), .ref (B + 24), .ref (B + 47), .int 0, .ref (B + 70), .ref (B + 83), .ref (B + (1 + 84)), .int 0, .null, .null, .null] wt_m0 1 85 s H locs := hM
  refine lv_aload_n hx hb dX3_init_77 rfl (lv_at hl 0 rfl) ?_
  refine lv_bipush (v := 7) hx hb dX3_init_78 (by decide) ?_
  refine wn_newa (N := 7) hx hb (hts _ tc_71) hK hM (by decide) rfl (qz_b rfl) rfl (qz_b rfl) (qz_b rfl) dX3_init_80 (fun H hM => ?_)
  refine wn_putF (v := .ref (B + (1 + 85))) (ty := .array .int) hx hb hts hown hin hK hM rfl wt_inX3 tyX3 tyX3_ok nmX3 8 (by decide) tc_122 rfl rfl rfl rfl rfl (qz_b rfl) dX3_init_82 (fun H locs hM => ?_)
  have hM : wn_St D tI tII B 0 3 [.ref (B + 1), .ref (B + 24), .ref (B + 47), .int 0, .ref (B + 70), .ref (B + 83), .ref (B + (1 + 84)), .int 0, .ref (B + (1 + 85)), .null, .null] wt_m0 1 86 s H locs := hM
  refine lv_aload_n hx hb dX3_init_85 rfl (lv_at hl 0 rfl) ?_
  refine lv_bipush (v := 6) hx hb dX3_init_86 (by decide) ?_
  refine lv_bipush (v := 6) hx hb dX3_init_88 (by decide) ?_
  refine wn_mna (N := 6) (K := 6) hx hb hown (hts _ tc_113) hAA hK hM (by decide) (by decide) rfl rfl (qz_b rfl) (qz_b rfl) rfl (fun j hj => by rcases (show j = 0 ∨ j = 1 ∨ j = 2 ∨ j = 3 ∨ j = 4 ∨ j = 5 by omega) with rfl | rfl | rfl | rfl | rfl | rfl <;> rfl) (qz_b rfl) (qz_b rfl) dX3_init_90 (fun H locs hM => ?_)
  have hM : wn_St D tI tII B 0 3 [.ref (B + 1), .ref (B + 24), .ref (B + 47), .int 0, .ref (B + 70), .ref (B + 83), .ref (B + (1 + 84)), .int 0, .ref (B + (1 + 85)), .null, .null] wt_m0 1 93 s H locs := hM
  refine wn_putF (v := .ref (B + (1 + 86))) (ty := .array (.array .int)) hx hb hts hown hin hK hM rfl wt_inX3 tyX3 tyX3_ok nmX3 9 (by decide) tc_123 rfl rfl rfl rfl rfl (qz_b rfl) dX3_init_94 (fun H locs hM => ?_)
  have hM : wn_St D tI tII B 0 3 [.ref (B + 1), .ref (B + 24), .ref (B + 47), .int 0, .ref (B + 70), .ref (B + 83), .ref (B + (1 + 84)), .int 0, .ref (B + (1 + 85)), .ref (B + (1 + 86)), .null] wt_m0 1 93 s H locs := hM
  refine lv_aload_n hx hb dX3_init_97 rfl (lv_at hl 0 rfl) ?_
  refine lv_bipush (v := 6) hx hb dX3_init_98 (by decide) ?_
  refine lv_bipush (v := 6) hx hb dX3_init_100 (by decide) ?_
  refine wn_mna (N := 6) (K := 6) hx hb hown (hts _ tc_113) hAA hK hM (by decide) (by decide) rfl rfl (qz_b rfl) (qz_b rfl) rfl (fun j hj => by rcases (show j = 0 ∨ j = 1 ∨ j = 2 ∨ j = 3 ∨ j = 4 ∨ j = 5 by omega) with rfl | rfl | rfl | rfl | rfl | rfl <;> rfl) (qz_b rfl) (qz_b rfl) dX3_init_102 (fun H locs hM => ?_)
  have hM : wn_St D tI tII B 0 3 [.ref (B + 1), .ref (B + 24), .ref (B + 47), .int 0, .ref (B + 70), .ref (B + 83), .ref (B + (1 + 84)), .int 0, .ref (B + (1 + 85)), .ref (B + (1 + 86)), .null] wt_m0 1 100 s H locs := hM
  refine wn_putF (v := .ref (B + (1 + 93))) (ty := .array (.array .int)) hx hb hts hown hin hK hM rfl wt_inX3 tyX3 tyX3_ok nmX3 10 (by decide) tc_124 rfl rfl rfl rfl rfl (qz_b rfl) dX3_init_106 (fun H locs hM => ?_)
  have hM : wn_St D tI tII B 0 3 [.ref (B + 1), .ref (B + 24), .ref (B + 47), .int 0, .ref (B + 70), .ref (B + 83), .ref (B + (1 + 84)), .int 0, .ref (B + (1 + 85)), .ref (B + (1 + 86)), .ref (B + (1 + 93))] wt_m0 1 100 s H locs := hM
  refine W.widen (k := 100) (n := 1181) (qz_b rfl) (qz_b rfl) ?_
  have hfin := wn_fin (τ := wt_m0) hM rfl (fun q _ _ => Or.inl rfl)
  exact W.vret hx hb hr (fun t ht hW => ⟨⟨(), rfl, trivial, by rw [ht]; exact hM.2.1, by rw [ht]; exact hfin, wt_K.moved hW.alike hK⟩, hM.2.2.2.F ht⟩) hM.2.2.2.2.2 dX3_init_109 hlk
set_option maxHeartbeats 4000000 in
set_option maxRecDepth 100000 in
theorem ctor_X4 {l : Launch} : wn_I l yX4_init cX4_init 2 rm_X4_init 4 101 21 [.null, .int 0, .null, .int 0, .null, .null, .null, .null, .int 0, .int 0, .int 0, .null, .null, .null, .null, .int 0, .int 0, .int 0, .int 0, .null, .null, .null, .null, .null, .int 0, .int 0, .int 0, .null, .null, .null, .int 0, .null, .null, .null, .int 0, .int 0] wt_m0 := by
  intro D tI tII B
  refine Met.ofW (cc := cX4_init) (maxL := 2) (ret := none) (by decide) rfl ?_
  intro p e s m args below meth c s₁ B9 hml hv
  obtain ⟨rfl, hz, hP, hK, hAA⟩ := hv
  obtain ⟨hx, hb, hts, hown, hml, hr, hlk, -⟩ := wt_C_of (own := RX4) B9 hml hK
  have hin : meth.name = "<init>" := (name_of_methodNamed B9.named B9.method).1
  have hM : wn_St D tI tII B 101 4 [.null, .int 0, .null, .int 0, .null, .null, .null, .null, .int 0, .int 0, .int 0, .null, .null, .null, .null, .int 0, .int 0, .int 0, .int 0, .null, .null, .null, .null, .null, .int 0, .int 0, .int 0, .null, .null, .null, .int 0, .null, .null, .null, .int 0, .int 0] wt_z 102 0 s s.heap [] := ⟨hP, hz, Nat.lt_succ_self _, va_S.rf⟩
  have hl := lv_entry ([.ref (B + 101)]) (n := 2) (qz_b rfl)
  rw [lg_entry_eq]
  generalize (lg_sl ([.ref (B + 101)]) ++ List.replicate (2 - (lg_sl ([.ref (B + 101)])).length) Slot.unset).toArray = ls at hl ⊢
  have hl : lv_has ls 2 [(0, .ref (B + 101))] := hl
  refine lv_aload_n hx hb dX4_init_0 rfl (lv_at hl 0 rfl) ?_
  refine W.objInit hx hb hown (hts _ tc_709) (hts _ tc_15) (hts _ tc_16) rfl (by rw [hml]; exact hl.1) rfl dX4_init_1 (qz_b rfl) (qz_b rfl) ?_
  refine W.eq (g2 := F0 m 4 ls []) rfl ?_
  refine lv_aload_n hx hb dX4_init_4 rfl (lv_at hl 0 rfl) ?_
  refine lv_bipush (v := 8) hx hb dX4_init_5 (by decide) ?_
  refine wn_newa (N := 8) hx hb (hts _ tc_71) hK hM (by decide) rfl (qz_b rfl) rfl (qz_b rfl) (qz_b rfl) dX4_init_7 (fun H hM => ?_)
  refine lv_dup hx hb dX4_init_9 rfl ?_
  refine lv_iconst (v := 0) hx hb dX4_init_10 (by decide) ?_
  refine lv_iconst (v := 1) hx hb dX4_init_11 (by decide) ?_
  refine wn_ist (j := 0) (i := 0) (x := 1) hx hb hK hM (by decide) wt_a102 (by unfold vp_in; decide) dX4_init_12 (fun H locs hM => ?_)
  refine lv_dup hx hb dX4_init_13 rfl ?_
  refine lv_iconst (v := 1) hx hb dX4_init_14 (by decide) ?_
  refine lv_iconst (v := 1) hx hb dX4_init_15 (by decide) ?_
  refine wn_ist (j := 0) (i := 1) (x := 1) hx hb hK hM (by decide) wt_a102 (by unfold vp_in; decide) dX4_init_16 (fun H locs hM => ?_)
  refine lv_dup hx hb dX4_init_17 rfl ?_
  refine lv_iconst (v := 2) hx hb dX4_init_18 (by decide) ?_
  refine lv_iconst (v := 1) hx hb dX4_init_19 (by decide) ?_
  refine wn_ist (j := 0) (i := 2) (x := 1) hx hb hK hM (by decide) wt_a102 (by unfold vp_in; decide) dX4_init_20 (fun H locs hM => ?_)
  refine lv_dup hx hb dX4_init_21 rfl ?_
  refine lv_iconst (v := 3) hx hb dX4_init_22 (by decide) ?_
  refine lv_iconst (v := 1) hx hb dX4_init_23 (by decide) ?_
  refine wn_ist (j := 0) (i := 3) (x := 1) hx hb hK hM (by decide) wt_a102 (by unfold vp_in; decide) dX4_init_24 (fun H locs hM => ?_)
  refine lv_dup hx hb dX4_init_25 rfl ?_
  refine lv_iconst (v := 4) hx hb dX4_init_26 (by decide) ?_
  refine lv_iconst (v := 1) hx hb dX4_init_27 (by decide) ?_
  refine wn_ist (j := 0) (i := 4) (x := 1) hx hb hK hM (by decide) wt_a102 (by unfold vp_in; decide) dX4_init_28 (fun H locs hM => ?_)
  refine lv_dup hx hb dX4_init_29 rfl ?_
  refine lv_iconst (v := 5) hx hb dX4_init_30 (by decide) ?_
  refine lv_iconst (v := 1) hx hb dX4_init_31 (by decide) ?_
  refine wn_ist (j := 0) (i := 5) (x := 1) hx hb hK hM (by decide) wt_a102 (by unfold vp_in; decide) dX4_init_32 (fun H locs hM => ?_)
  refine lv_dup hx hb dX4_init_33 rfl ?_
  refine lv_bipush (v := 6) hx hb dX4_init_34 (by decide) ?_
  refine lv_iconst (v := 1) hx hb dX4_init_36 (by decide) ?_
  refine wn_ist (j := 0) (i := 6) (x := 1) hx hb hK hM (by decide) wt_a102 (by unfold vp_in; decide) dX4_init_37 (fun H locs hM => ?_)
  refine lv_dup hx hb dX4_init_38 rfl ?_
  refine lv_bipush (v := 7) hx hb dX4_init_39 (by decide) ?_
  refine lv_iconst (v := 1) hx hb dX4_init_41 (by decide) ?_
  refine wn_ist (j := 0) (i := 7) (x := 1) hx hb hK hM (by decide) wt_a102 (by unfold vp_in; decide) dX4_init_42 (fun H locs hM => ?_)
  refine wn_putF (v := .ref (B + (102 + 0))) (ty := .array .int) hx hb hts hown hin hK hM rfl wt_inX4 tyX4 tyX4_ok nmX4 0 (by decide) tc_710 rfl rfl rfl rfl rfl (qz_b rfl) dX4_init_43 (fun H locs hM => ?_)
  have hM : wn_St D tI tII B 101 4 [.ref (B + (102 + 0)), .int 0, .null, .int 0, .null, .null, .null, .null, .int 0, .int 0, .int 0, .null, .null, .null, .null, .int 0, .int 0, .int 0, .int 0, .null, .null, .null, .null, .null, .int 0, .int 0, .int 0, .null, .null, .null, .int 0, .null, .null, .null, .int 0, .int 0] (up2 (up2 (up2 (up2 (up2 (up2 (up2 (up2 wt_z 102 0 1) 102 1 1) 102 2 1) 102 3 1) 102 4 1) 102 5 1) 102 6 1) 102 7 1) 102 1 s H locs := hM
  refine lv_aload_n hx hb dX4_init_46 rfl (lv_at hl 0 rfl) ?_
  refine lv_bipush (v := 6) hx hb dX4_init_47 (by decide) ?_
  refine wn_newa (N := 6) hx hb (hts _ tc_71) hK hM (by decide) rfl (qz_b rfl) rfl (qz_b rfl) (qz_b rfl) dX4_init_49 (fun H hM => ?_)
  refine wn_putF (v := .ref (B + (102 + 1))) (ty := .array .int) hx hb hts hown hin hK hM rfl wt_inX4 tyX4 tyX4_ok nmX4 2 (by decide) tc_712 rfl rfl rfl rfl rfl (qz_b rfl) dX4_init_51 (fun H locs hM => ?_)
  have hM : wn_St D tI tII B 101 4 [.ref (B + (102 + 0)), .int 0, .ref (B + (102 + 1)), .int 0, .null, .null, .null, .null, .int 0, .int 0, .int 0, .null, .null, .null, .null, .int 0, .int 0, .int 0, .int 0, .null, .null, .null, .null, .null, .int 0, .int 0, .int 0, .null, .null, .null, .int 0, .null, .null, .null, .int 0, .int 0] (up2 (up2 (up2 (up2 (up2 (up2 (up2 (up2 wt_z 102 0 1) 102 1 1) 102 2 1) 102 3 1) 102 4 1) 102 5 1) 102 6 1) 102 7 1) 102 2 s H locs := hM
  refine lv_aload_n hx hb dX4_init_54 rfl (lv_at hl 0 rfl) ?_
  refine lv_iconst (v := 5) hx hb dX4_init_55 (by decide) ?_
  refine wn_newa (N := 5) hx hb (hts _ tc_71) hK hM (by decide) rfl (qz_b rfl) rfl (qz_b rfl) (qz_b rfl) dX4_init_56 (fun H hM => ?_)
  refine wn_putF (v := .ref (B + (102 + 2))) (ty := .array .int) hx hb hts hown hin hK hM rfl wt_inX4 tyX4 tyX4_ok nmX4 4 (by decide) tc_714 rfl rfl rfl rfl rfl (qz_b rfl) dX4_init_58 (fun H locs hM => ?_)
  have hM : wn_St D tI tII B 101 4 [.ref (B + (102 + 0)), .int 0, .ref (B + (102 + 1)), .int 0, .ref (B + (102 + 2)), .null, .null, .null, .int 0, .int 0, .int 0, .null, .null, .null, .null, .int 0, .int 0, .int 0, .int 0, .null, .null, .null, .null, .null, .int 0, .int 0, .int 0, .null, .null, .null, .int 0, .null, .null, .null, .int 0, .int 0] (up2 (up2 (up2 (up2 (up2 (up2 (up2 (up2 wt_z 102 0 1) 102 1 1) 102 2 1) 102 3 1) 102 4 1) 102 5 1) 102 6 1) 102 7 1) 102 3 s H locs := hM
  refine lv_aload_n hx hb dX4_init_61 rfl (lv_at hl 0 rfl) ?_
  refine lv_iconst (v := 5) hx hb dX4_init_62 (by decide) ?_
  refine wn_newa (N := 5) hx hb (hts _ tc_71) hK hM (by decide) rfl (qz_b rfl) rfl (qz_b rfl) (qz_b rfl) dX4_init_63 (fun H hM => ?_)
  refine wn_putF (v := .ref (B + (102 + 3))) (ty := .array .int) hx hb hts hown hin hK hM rfl wt_inX4 tyX4 tyX4_ok nmX4 5 (by decide) tc_715 rfl rfl rfl rfl rfl (qz_b rfl) dX4_init_65 (fun H locs hM => ?_)
  have hM : wn_St D tI tII B 101 4 [.ref (B + (102 + 0)), .int 0, .ref (B + (102 + 1)), .int 0, .ref (B + (102 + 2)), .ref (B + (102 + 3)), .null, .null, .int 0, .int 0, .int 0, .null, .null, .null, .null, .int 0, .int 0, .int 0, .int 0, .null, .null, .null, .null, .null, .int 0, .int 0, .int 0, .null, .null, .null, .int 0, .null, .null, .null, .int 0, .int 0] (up2 (up2 (up2 (up2 (up2 (up2 (up2 (up2 wt_z 102 0 1) 102 1 1) 102 2 1) 102 3 1) 102 4 1) 102 5 1) 102 6 1) 102 7 1) 102 4 s H locs := hM
  refine lv_aload_n hx hb dX4_init_68 rfl (lv_at hl 0 rfl) ?_
  refine lv_bipush (v := 120) hx hb dX4_init_69 (by decide) ?_
  refine wn_newa (N := 120) hx hb (hts _ tc_71) hK hM (by decide) rfl (qz_b rfl) rfl (qz_b rfl) (qz_b rfl) dX4_init_71 (fun H hM => ?_)
  refine wn_putF (v := .ref (B + (102 + 4))) (ty := .array .int) hx hb hts hown hin hK hM rfl wt_inX4 tyX4 tyX4_ok nmX4 6 (by decide) tc_716 rfl rfl rfl rfl rfl (qz_b rfl) dX4_init_73 (fun H locs hM => ?_)
  have hM : wn_St D tI tII B 101 4 [.ref (B + (102 + 0)), .int 0, .ref (B + (102 + 1)), .int 0, .ref (B + (102 + 2)), .ref (B + (102 + 3)), .ref (B + (102 + 4)), .null, .int 0, .int 0, .int 0, .null, .null, .null, .null, .int 0, .int 0, .int 0, .int 0, .null, .null, .null, .null, .null, .int 0, .int 0, .int 0, .null, .null, .null, .int 0, .null, .null, .null, .int 0, .int 0] (up2 (up2 (up2 (up2 (up2 (up2 (up2 (up2 wt_z 102 0 1) 102 1 1) 102 2 1) 102 3 1) 102 4 1) 102 5 1) 102 6 1) 102 7 1) 102 5 s H locs := hM
  refine lv_aload_n hx hb dX4_init_76 rfl (lv_at hl 0 rfl) ?_
  refine lv_bipush (v := 40) hx hb dX4_init_77 (by decide) ?_
  refine wn_newa (N := 40) hx hb (hts _ tc_71) hK hM (by decide) rfl (qz_b rfl) rfl (qz_b rfl) (qz_b rfl) dX4_init_79 (fun H hM => ?_)
  refine wn_putF (v := .ref (B + (102 + 5))) (ty := .array .int) hx hb hts hown hin hK hM rfl wt_inX4 tyX4 tyX4_ok nmX4 7 (by decide) tc_717 rfl rfl rfl rfl rfl (qz_b rfl) dX4_init_81 (fun H locs hM => ?_)
  have hM : wn_St D tI tII B 101 4 [.ref (B + (102 + 0)), .int 0, .ref (B + (102 + 1)), .int 0, .ref (B + (102 + 2)), .ref (B + (102 + 3)), .ref (B + (102 + 4)), .ref (B + (102 + 5)), .int 0, .int 0, .int 0, .null, .null, .null, .null, .int 0, .int 0, .int 0, .int 0, .null, .null, .null, .null, .null, .int 0, .int 0, .int 0, .null, .null, .null, .int 0, .null, .null, .null, .int 0, .int 0] (up2 (up2 (up2 (up2 (up2 (up2 (up2 (up2 wt_z 102 0 1) 102 1 1) 102 2 1) 102 3 1) 102 4 1) 102 5 1) 102 6 1) 102 7 1) 102 6 s H locs := hM
  refine lv_aload_n hx hb dX4_init_84 rfl (lv_at hl 0 rfl) ?_
  refine lv_bipush (v := 7) hx hb dX4_init_85 (by decide) ?_
  refine wn_newa (N := 7) hx hb (hts _ tc_71) hK hM (by decide) rfl (qz_b rfl) rfl (qz_b rfl) (qz_b rfl) dX4_init_87 (fun H hM => ?_)
  refine wn_putF (v := .ref (B + (102 + 6))) (ty := .array .int) hx hb hts hown hin hK hM rfl wt_inX4 tyX4 tyX4_ok nmX4 11 (by decide) tc_721 rfl rfl rfl rfl rfl (qz_b rfl) dX4_init_89 (fun H locs hM => ?_)
  have hM : wn_St D tI tII B 101 4 [.ref (B + (102 + 0)), .int 0, .ref (B + (102 + 1)), .int 0, .ref (B + (102 + 2)), .ref (B + (102 + 3)), .ref (B + (102 + 4)), .ref (B + (102 + 5)), .int 0, .int 0, .int 0, .ref (B + (102 + 6)), .null, .null, .null, .int 0, .int 0, .int 0, .int 0, .null, .null, .null, .null, .null, .int 0, .int 0, .int 0, .null, .null, .null, .int 0, .null, .null, .null, .int 0, .int 0] (up2 (up2 (up2 (up2 (up2 (up2 (up2 (up2 wt_z 102 0 1) 102 1 1) 102 2 1) 102 3 1) 102 4 1) 102 5 1) 102 6 1) 102 7 1) 102 7 s H locs := hM
  refine lv_aload_n hx hb dX4_init_92 rfl (lv_at hl 0 rfl) ?_
  refine lv_bipush (v := 40) hx hb dX4_init_93 (by decide) ?_
  refine wn_newa (N := 40) hx hb (hts _ tc_71) hK hM (by decide) rfl (qz_b rfl) rfl (qz_b rfl) (qz_b rfl) dX4_init_95 (fun H hM => ?_)
  refine wn_putF (v := .ref (B + (102 + 7))) (ty := .array .int) hx hb hts hown hin hK hM rfl wt_inX4 tyX4 tyX4_ok nmX4 12 (by decide) tc_722 rfl rfl rfl rfl rfl (qz_b rfl) dX4_init_97 (fun H locs hM => ?_)
  have hM : wn_St D tI tII B 101 4 [.ref (B + (102 + 0)), .int 0, .ref (B + (102 + 1)), .int 0, .ref (B + (102 + 2)), .ref (B + (102 + 3)), .ref (B + (102 + 4)), .ref (B + (102 + 5)), .int 0, .int 0, .int 0, .ref (B + (102 + 6)), .ref (B + (102 + 7)), .null, .null, .int 0, .int 0, .int 0, .int 0, .null, .null, .null, .null, .null, .int 0, .int 0, .int 0, .null, .null, .null, .int 0, .null, .null, .null, .int 0, .int 0] (up2 (up2 (up2 (up2 (up2 (up2 (up2 (up2 wt_z 102 0 1) 102 1 1) 102 2 1) 102 3 1) 102 4 1) 102 5 1) 102 6 1) 102 7 1) 102 8 s H locs := hM
  refine lv_aload_n hx hb dX4_init_100 rfl (lv_at hl 0 rfl) ?_
  refine lv_iconst (v := 5) hx hb dX4_init_101 (by decide) ?_
  refine wn_newa (N := 5) hx hb (hts _ tc_71) hK hM (by decide) rfl (qz_b rfl) rfl (qz_b rfl) (qz_b rfl) dX4_init_102 (fun H hM => ?_)
  refine wn_putF (v := .ref (B + (102 + 8))) (ty := .array .int) hx hb hts hown hin hK hM rfl wt_inX4 tyX4 tyX4_ok nmX4 13 (by decide) tc_723 rfl rfl rfl rfl rfl (qz_b rfl) dX4_init_104 (fun H locs hM => ?_)
  have hM : wn_St D tI tII B 101 4 [.ref (B + (102 + 0)), .int 0, .ref (B + (102 + 1)), .int 0, .ref (B + (102 + 2)), .ref (B + (102 + 3)), .ref (B + (102 + 4)), .ref (B + (102 + 5)), .int 0, .int 0, .int 0, .ref (B + (102 + 6)), .ref (B + (102 + 7)), .ref (B + (102 + 8)), .null, .int 0, .int 0, .int 0, .int 0, .null, .null, .null, .null, .null, .int 0, .int 0, .int 0, .null, .null, .null, .int 0, .null, .null, .null, .int 0, .int 0] (up2 (up2 (up2 (up2 (up2 (up2 (up2 (up2 wt_z 102 0 1) 102 1 1) 102 2 1) 102 3 1) 102 4 1) 102 5 1) 102 6 1) 102 7 1) 102 9 s H locs := hM
  refine lv_aload_n hx hb dX4_init_107 rfl (lv_at hl 0 rfl) ?_
  refine lv_bipush (v := 96) hx hb dX4_init_108 (by decide) ?_
  refine wn_newa (N := 96) hx hb (hts _ tc_71) hK hM (by decide) rfl (qz_b rfl) rfl (qz_b rfl) (qz_b rfl) dX4_init_110 (fun H hM => ?_)
  refine wn_putF (v := .ref (B + (102 + 9))) (ty := .array .int) hx hb hts hown hin hK hM rfl wt_inX4 tyX4 tyX4_ok nmX4 14 (by decide) tc_724 rfl rfl rfl rfl rfl (qz_b rfl) dX4_init_112 (fun H locs hM => ?_)
  have hM : wn_St D tI tII B 101 4 [.ref (B + (102 + 0)), .int 0, .ref (B + (102 + 1)), .int 0, .ref (B + (102 + 2)), .ref (B + (102 + 3)), .ref (B + (102 + 4)), .ref (B + (102 + 5)), .int 0, .int 0, .int 0, .ref (B + (102 + 6)), .ref (B + (102 + 7)), .ref (B + (102 + 8)), .ref (B + (102 + 9)), .int 0, .int 0, .int 0, .int 0, .null, .null, .null, .null, .null, .int 0, .int 0, .int 0, .null, .null, .null, .int 0, .null, .null, .null, .int 0, .int 0] (up2 (up2 (up2 (up2 (up2 (up2 (up2 (up2 wt_z 102 0 1) 102 1 1) 102 2 1) 102 3 1) 102 4 1) 102 5 1) 102 6 1) 102 7 1) 102 10 s H locs := hM
  refine lv_aload_n hx hb dX4_init_115 rfl (lv_at hl 0 rfl) ?_
  refine lv_bipush (v := 49) hx hb dX4_init_116 (by decide) ?_
  refine wn_newa (N := 49) hx hb (hts _ tc_71) hK hM (by decide) rfl (qz_b rfl) rfl (qz_b rfl) (qz_b rfl) dX4_init_118 (fun H hM => ?_)
  refine wn_putF (v := .ref (B + (102 + 10))) (ty := .array .int) hx hb hts hown hin hK hM rfl wt_inX4 tyX4 tyX4_ok nmX4 19 (by decide) tc_729 rfl rfl rfl rfl rfl (qz_b rfl) dX4_init_120 (fun H locs hM => ?_)
  have hM : wn_St D tI tII B 101 4 [.ref (B + (102 + 0)), .int 0, .ref (B + (102 + 1)), .int 0, .ref (B + (102 + 2)), .ref (B + (102 + 3)), .ref (B + (102 + 4)), .ref (B + (102 + 5)), .int 0, .int 0, .int 0, .ref (B + (102 + 6)), .ref (B + (102 + 7)), .ref (B + (102 + 8)), .ref (B + (102 + 9)), .int 0, .int 0, .int 0, .int 0, .ref (B + (102 + 10)), .null, .null, .null, .null, .int 0, .int 0, .int 0, .null, .null, .null, .int 0, .null, .null, .null, .int 0, .int 0] (up2 (up2 (up2 (up2 (up2 (up2 (up2 (up2 wt_z 102 0 1) 102 1 1) 102 2 1) 102 3 1) 102 4 1) 102 5 1) 102 6 1) 102 7 1) 102 11 s H locs := hM
  refine lv_aload_n hx hb dX4_init_123 rfl (lv_at hl 0 rfl) ?_
  refine lv_bipush (v := 49) hx hb dX4_init_124 (by decide) ?_
  refine wn_newa (N := 49) hx hb (hts _ tc_71) hK hM (by decide) rfl (qz_b rfl) rfl (qz_b rfl) (qz_b rfl) dX4_init_126 (fun H hM => ?_)
  refine wn_putF (v := .ref (B + (102 + 11))) (ty := .array .int) hx hb hts hown hin hK hM rfl wt_inX4 tyX4 tyX4_ok nmX4 20 (by decide) tc_730 rfl rfl rfl rfl rfl (qz_b rfl) dX4_init_128 (fun H locs hM => ?_)
  have hM : wn_St D tI tII B 101 4 [.ref (B + (102 + 0)), .int 0, .ref (B + (102 + 1)), .int 0, .ref (B + (102 + 2)), .ref (B + (102 + 3)), .ref (B + (102 + 4)), .ref (B + (102 + 5)), .int 0, .int 0, .int 0, .ref (B + (102 + 6)), .ref (B + (102 + 7)), .ref (B + (102 + 8)), .ref (B + (102 + 9)), .int 0, .int 0, .int 0, .int 0, .ref (B + (102 + 10)), .ref (B + (102 + 11)), .null, .null, .null, .int 0, .int 0, .int 0, .null, .null, .null, .int 0, .null, .null, .null, .int 0, .int 0] (up2 (up2 (up2 (up2 (up2 (up2 (up2 (up2 wt_z 102 0 1) 102 1 1) 102 2 1) 102 3 1) 102 4 1) 102 5 1) 102 6 1) 102 7 1) 102 12 s H locs := hM
  refine lv_aload_n hx hb dX4_init_131 rfl (lv_at hl 0 rfl) ?_
  refine lv_sipush (v := 196) hx hb dX4_init_132 (by decide) ?_
  refine wn_newa (N := 196) hx hb (hts _ tc_71) hK hM (by decide) rfl (qz_b rfl) rfl (qz_b rfl) (qz_b rfl) dX4_init_135 (fun H hM => ?_)
  refine wn_putF (v := .ref (B + (102 + 12))) (ty := .array .int) hx hb hts hown hin hK hM rfl wt_inX4 tyX4 tyX4_ok nmX4 21 (by decide) tc_731 rfl rfl rfl rfl rfl (qz_b rfl) dX4_init_137 (fun H locs hM => ?_)
  have hM : wn_St D tI tII B 101 4 [.ref (B + (102 + 0)), .int 0, .ref (B + (102 + 1)), .int 0, .ref (B + (102 + 2)), .ref (B + (102 + 3)), .ref (B + (102 + 4)), .ref (B + (102 + 5)), .int 0, .int 0, .int 0, .ref (B + (102 + 6)), .ref (B + (102 + 7)), .ref (B + (102 + 8)), .ref (B + (102 + 9)), .int 0, .int 0, .int 0, .int 0, .ref (B + (102 + 10)), .ref (B + (102 + 11)), .ref (B + (102 + 12)), .null, .null, .int 0, .int 0, .int 0, .null, .null, .null, .int 0, .null, .null, .null, .int 0, .int 0] (up2 (up2 (up2 (up2 (up2 (up2 (up2 (up2 wt_z 102 0 1) 102 1 1) 102 2 1) 102 3 1) 102 4 1) 102 5 1) 102 6 1) 102 7 1) 102 13 s H locs := hM
  refine lv_aload_n hx hb dX4_init_140 rfl (lv_at hl 0 rfl) ?_
  refine lv_sipush (v := 188) hx hb dX4_init_141 (by decide) ?_
  refine wn_newa (N := 188) hx hb (hts _ tc_71) hK hM (by decide) rfl (qz_b rfl) rfl (qz_b rfl) (qz_b rfl) dX4_init_144 (fun H hM => ?_)
  refine wn_putF (v := .ref (B + (102 + 13))) (ty := .array .int) hx hb hts hown hin hK hM rfl wt_inX4 tyX4 tyX4_ok nmX4 22 (by decide) tc_732 rfl rfl rfl rfl rfl (qz_b rfl) dX4_init_146 (fun H locs hM => ?_)
  have hM : wn_St D tI tII B 101 4 [.ref (B + (102 + 0)), .int 0, .ref (B + (102 + 1)), .int 0, .ref (B + (102 + 2)), .ref (B + (102 + 3)), .ref (B + (102 + 4)), .ref (B + (102 + 5)), .int 0, .int 0, .int 0, .ref (B + (102 + 6)), .ref (B + (102 + 7)), .ref (B + (102 + 8)), .ref (B + (102 + 9)), .int 0, .int 0, .int 0, .int 0, .ref (B + (102 + 10)), .ref (B + (102 + 11)), .ref (B + (102 + 12)), .ref (B + (102 + 13)), .null, .int 0, .int 0, .int 0, .null, .null, .null, .int 0, .null, .null, .null, .int 0, .int 0] (up2 (up2 (up2 (up2 (up2 (up2 (up2 (up2 wt_z 102 0 1) 102 1 1) 102 2 1) 102 3 1) 102 4 1) 102 5 1) 102 6 1) 102 7 1) 102 14 s H locs := hM
  refine lv_aload_n hx hb dX4_init_149 rfl (lv_at hl 0 rfl) ?_
  refine lv_sipush (v := 188) hx hb dX4_init_150 (by decide) ?_
  refine wn_newa (N := 188) hx hb (hts _ tc_71) hK hM (by decide) rfl (qz_b rfl) rfl (qz_b rfl) (qz_b rfl) dX4_init_153 (fun H hM => ?_)
  refine wn_putF (v := .ref (B + (102 + 14))) (ty := .array .int) hx hb hts hown hin hK hM rfl wt_inX4 tyX4 tyX4_ok nmX4 23 (by decide) tc_733 rfl rfl rfl rfl rfl (qz_b rfl) dX4_init_155 (fun H locs hM => ?_)
  have hM : wn_St D tI tII B 101 4 [.ref (B + (102 + 0)), .int 0, .ref (B + (102 + 1)), .int 0, .ref (B + (102 + 2)), .ref (B + (102 + 3)), .ref (B + (102 + 4)), .ref (B + (102 + 5)), .int 0, .int 0, .int 0, .ref (B + (102 + 6)), .ref (B + (102 + 7)), .ref (B + (102 + 8)), .ref (B + (102 + 9)), .int 0, .int 0, .int 0, .int 0, .ref (B + (102 + 10)), .ref (B + (102 + 11)), .ref (B + (102 + 12)), .ref (B + (102 + 13)), .ref (B + (102 + 14)), .int 0, .int 0, .int 0, .null, .null, .null, .int 0, .null, .null, .null, .int 0, .int 0] (up2 (up2 (up2 (up2 (up2 (up2 (up2 (up2 wt_z 102 0 1) 102 1 1) 102 2 1) 102 3 1) 102 4 1) 102 5 1) 102 6 1) 102 7 1) 102 15 s H locs := hM
  refine lv_aload_n hx hb dX4_init_158 rfl (lv_at hl 0 rfl) ?_
  refine lv_sipush (v := 1504) hx hb dX4_init_159 (by decide) ?_
  refine wn_newa (N := 1504) hx hb (hts _ tc_71) hK hM (by decide) rfl (qz_b rfl) rfl (qz_b rfl) (qz_b rfl) dX4_init_162 (fun H hM => ?_)
  refine wn_putF (v := .ref (B + (102 + 15))) (ty := .array .int) hx hb hts hown hin hK hM rfl wt_inX4 tyX4 tyX4_ok nmX4 28 (by decide) tc_738 rfl rfl rfl rfl rfl (qz_b rfl) dX4_init_164 (fun H locs hM => ?_)
  have hM : wn_St D tI tII B 101 4 [.ref (B + (102 + 0)), .int 0, .ref (B + (102 + 1)), .int 0, .ref (B + (102 + 2)), .ref (B + (102 + 3)), .ref (B + (102 + 4)), .ref (B + (102 + 5)), .int 0, .int 0, .int 0, .ref (B + (102 + 6)), .ref (B + (102 + 7)), .ref (B + (102 + 8)), .ref (B + (102 + 9)), .int 0, .int 0, .int 0, .int 0, .ref (B + (102 + 10)), .ref (B + (102 + 11)), .ref (B + (102 + 12)), .ref (B + (102 + 13)), .ref (B + (102 + 14)), .int 0, .int 0, .int 0, .null, .ref (B + (102 + 15)), .null, .int 0, .null, .null, .null, .int 0, .int 0] (up2 (up2 (up2 (up2 (up2 (up2 (up2 (up2 wt_z 102 0 1) 102 1 1) 102 2 1) 102 3 1) 102 4 1) 102 5 1) 102 6 1) 102 7 1) 102 16 s H locs := hM
  refine lv_aload_n hx hb dX4_init_167 rfl (lv_at hl 0 rfl) ?_
  refine lv_sipush (v := 188) hx hb dX4_init_168 (by decide) ?_
  refine wn_newa (N := 188) hx hb (hts _ tc_71) hK hM (by decide) rfl (qz_b rfl) rfl (qz_b rfl) (qz_b rfl) dX4_init_171 (fun H hM => ?_)
  refine wn_putF (v := .ref (B + (102 + 16))) (ty := .array .int) hx hb hts hown hin hK hM rfl wt_inX4 tyX4 tyX4_ok nmX4 29 (by decide) tc_739 rfl rfl rfl rfl rfl (qz_b rfl) dX4_init_173 (fun H locs hM => ?_)
  have hM : wn_St D tI tII B 101 4 [.ref (B + (102 + 0)), .int 0, .ref (B + (102 + 1)), .int 0, .ref (B + (102 + 2)), .ref (B + (102 + 3)), .ref (B + (102 + 4)), .ref (B + (102 + 5)), .int 0, .int 0, .int 0, .ref (B + (102 + 6)), .ref (B + (102 + 7)), .ref (B + (102 + 8)), .ref (B + (102 + 9)), .int 0, .int 0, .int 0, .int 0, .ref (B + (102 + 10)), .ref (B + (102 + 11)), .ref (B + (102 + 12)), .ref (B + (102 + 13)), .ref (B + (102 + 14)), .int 0, .int 0, .int 0, .null, .ref (B + (102 + 15)), .ref (B + (102 + 16)), .int 0, .null, .null, .null, .int 0, .int 0] (up2 (up2 (up2 (up2 (up2 (up2 (up2 (up2 wt_z 102 0 1) 102 1 1) 102 2 1) 102 3 1) 102 4 1) 102 5 1) 102 6 1) 102 7 1) 102 17 s H locs := hM
  refine lv_aload_n hx hb dX4_init_176 rfl (lv_at hl 0 rfl) ?_
  refine lv_bipush (v := 36) hx hb dX4_init_177 (by decide) ?_
  refine wn_newa (N := 36) hx hb (hts _ tc_71) hK hM (by decide) rfl (qz_b rfl) rfl (qz_b rfl) (qz_b rfl) dX4_init_179 (fun H hM => ?_)
  refine wn_putF (v := .ref (B + (102 + 17))) (ty := .array .int) hx hb hts hown hin hK hM rfl wt_inX4 tyX4 tyX4_ok nmX4 31 (by decide) tc_741 rfl rfl rfl rfl rfl (qz_b rfl) dX4_init_181 (fun H locs hM => ?_)
  have hM : wn_St D tI tII B 101 4 [.ref (B + (102 + 0)), .int 0, .ref (B + (102 + 1)), .int 0, .ref (B + (102 + 2)), .ref (B + (102 + 3)), .ref (B + (102 + 4)), .ref (B + (102 + 5)), .int 0, .int 0, .int 0, .ref (B + (102 + 6)), .ref (B + (102 + 7)), .ref (B + (102 + 8)), .ref (B + (102 + 9)), .int 0, .int 0, .int 0, .int 0, .ref (B + (102 + 10)), .ref (B + (102 + 11)), .ref (B + (102 + 12)), .ref (B + (102 + 13)), .ref (B + (102 + 14)), .int 0, .int 0, .int 0, .null, .ref (B + (102 + 15)), .ref (B + (102 + 16)), .int 0, .ref (B + (102 + 17)), .null, .null, .int 0, .int 0] (up2 (up2 (up2 (up2 (up2 (up2 (up2 (up2 wt_z 102 0 1) 102 1 1) 102 2 1) 102 3 1) 102 4 1) 102 5 1) 102 6 1) 102 7 1) 102 18 s H locs := hM
  refine lv_aload_n hx hb dX4_init_184 rfl (lv_at hl 0 rfl) ?_
  refine lv_bipush (v := 36) hx hb dX4_init_185 (by decide) ?_
  refine wn_newa (N := 36) hx hb (hts _ tc_71) hK hM (by decide) rfl (qz_b rfl) rfl (qz_b rfl) (qz_b rfl) dX4_init_187 (fun H hM => ?_)
  refine wn_putF (v := .ref (B + (102 + 18))) (ty := .array .int) hx hb hts hown hin hK hM rfl wt_inX4 tyX4 tyX4_ok nmX4 32 (by decide) tc_742 rfl rfl rfl rfl rfl (qz_b rfl) dX4_init_189 (fun H locs hM => ?_)
  have hM : wn_St D tI tII B 101 4 [.ref (B + (102 + 0)), .int 0, .ref (B + (102 + 1)), .int 0, .ref (B + (102 + 2)), .ref (B + (102 + 3)), .ref (B + (102 + 4)), .ref (B + (102 + 5)), .int 0, .int 0, .int 0, .ref (B + (102 + 6)), .ref (B + (102 + 7)), .ref (B + (102 + 8)), .ref (B + (102 + 9)), .int 0, .int 0, .int 0, .int 0, .ref (B + (102 + 10)), .ref (B + (102 + 11)), .ref (B + (102 + 12)), .ref (B + (102 + 13)), .ref (B + (102 + 14)), .int 0, .int 0, .int 0, .null, .ref (B + (102 + 15)), .ref (B + (102 + 16)), .int 0, .ref (B + (102 + 17)), .ref (B + (102 + 18)), .null, .int 0, .int 0] (up2 (up2 (up2 (up2 (up2 (up2 (up2 (up2 wt_z 102 0 1) 102 1 1) 102 2 1) 102 3 1) 102 4 1) 102 5 1) 102 6 1) 102 7 1) 102 19 s H locs := hM
  refine lv_aload_n hx hb dX4_init_192 rfl (lv_at hl 0 rfl) ?_
  refine lv_bipush (v := 12) hx hb dX4_init_193 (by decide) ?_
  refine wn_newa (N := 12) hx hb (hts _ tc_71) hK hM (by decide) rfl (qz_b rfl) rfl (qz_b rfl) (qz_b rfl) dX4_init_195 (fun H hM => ?_)
  refine wn_putF (v := .ref (B + (102 + 19))) (ty := .array .int) hx hb hts hown hin hK hM rfl wt_inX4 tyX4 tyX4_ok nmX4 33 (by decide) tc_743 rfl rfl rfl rfl rfl (qz_b rfl) dX4_init_197 (fun H locs hM => ?_)
  have hM : wn_St D tI tII B 101 4 [.ref (B + (102 + 0)), .int 0, .ref (B + (102 + 1)), .int 0, .ref (B + (102 + 2)), .ref (B + (102 + 3)), .ref (B + (102 + 4)), .ref (B + (102 + 5)), .int 0, .int 0, .int 0, .ref (B + (102 + 6)), .ref (B + (102 + 7)), .ref (B + (102 + 8)), .ref (B + (102 + 9)), .int 0, .int 0, .int 0, .int 0, .ref (B + (102 + 10)), .ref (B + (102 + 11)), .ref (B + (102 + 12)), .ref (B + (102 + 13)), .ref (B + (102 + 14)), .int 0, .int 0, .int 0, .null, .ref (B + (102 + 15)), .ref (B + (102 + 16)), .int 0, .ref (B + (102 + 17)), .ref (B + (102 + 18)), .ref (B + (102 + 19)), .int 0, .int 0] (up2 (up2 (up2 (up2 (up2 (up2 (up2 (up2 wt_z 102 0 1) 102 1 1) 102 2 1) 102 3 1) 102 4 1) 102 5 1) 102 6 1) 102 7 1) 102 20 s H locs := hM
  refine lv_aload_n hx hb dX4_init_200 rfl (lv_at hl 0 rfl) ?_
  refine lv_iconst (v := 0) hx hb dX4_init_201 (by decide) ?_
  refine wn_puti (v := .int 0) (ty := .int) hx hb hts hown hK hM rfl wt_inX4 tyX4 tyX4_ok nmX4 10 (by decide) tc_720 rfl rfl rfl rfl (qz_b rfl) dX4_init_202 (fun H locs hM => ?_)
  have hM : wn_St D tI tII B 101 4 [.ref (B + (102 + 0)), .int 0, .ref (B + (102 + 1)), .int 0, .ref (B + (102 + 2)), .ref (B + (102 + 3)), .ref (B + (102 + 4)), .ref (B + (102 + 5)), .int 0, .int 0, .int 0, .ref (B + (102 + 6)), .ref (B + (102 + 7)), .ref (B + (102 + 8)), .ref (B + (102 + 9)), .int 0, .int 0, .int 0, .int 0, .ref (B + (102 + 10)), .ref (B + (102 + 11)), .ref (B + (102 + 12)), .ref (B + (102 + 13)), .ref (B + (102 + 14)), .int 0, .int 0, .int 0, .null, .ref (B + (102 + 15)), .ref (B + (102 + 16)), .int 0, .ref (B + (102 + 17)), .ref (B + (102 + 18)), .ref (B + (102 + 19)), .int 0, .int 0] (up2 (up2 (up2 (up2 (up2 (up2 (up2 (up2 wt_z 102 0 1) 102 1 1) 102 2 1) 102 3 1) 102 4 1) 102 5 1) 102 6 1) 102 7 1) 102 20 s H locs := hM
  refine lv_iconst (v := 0) hx hb dX4_init_205 (by decide) ?_
  refine lv_istore_n (lv' := [(1, .int 0), (0, .ref (B + 101))]) hx hb dX4_init_206 rfl hl (by decide) rfl (fun ls hl => ?_)
  exact wn_X4_loop hx hb hts hown hml hr hlk hK hz (qz_b rfl) (qz_b rfl) 121 0 _ _ _ _ _ (by decide) (by decide) rfl (fun q _ => rfl) (fun q hq => absurd hq (Nat.not_lt_zero _)) hM hl
