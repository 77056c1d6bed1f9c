theorem dX4_isRow_0 : decode cX4_isRow 0 = .ok (.aload_n 0, 1) := qd_p qo_42 (by decide +kernel)
theorem dX4_isRow_1 : decode cX4_isRow 1 = .ok (.invokevirtual 134, 3) := qz_2 .invokevirtual 0 134 qo_182 (by decide +kernel) rfl
theorem dX4_isRow_4 : decode cX4_isRow 4 = .ok (.iconst 1, 1) := qd_p qo_4 (by decide +kernel)
theorem dX4_isRow_5 : decode cX4_isRow 5 = .ok (.istore_n 2, 1) := qd_p qo_61 (by decide +kernel)
theorem dX4_isRow_6 : decode cX4_isRow 6 = .ok (.iconst 0, 1) := qd_p qo_3 (by decide +kernel)
theorem dX4_isRow_7 : decode cX4_isRow 7 = .ok (.istore_n 3, 1) := qd_p qo_62 (by decide +kernel)
theorem dX4_isRow_8 : decode cX4_isRow 8 = .ok (.iload_n 3, 1) := qd_p qo_29 (by decide +kernel)
theorem dX4_isRow_9 : decode cX4_isRow 9 = .ok (.aload_n 0, 1) := qd_p qo_42 (by decide +kernel)
theorem dX4_isRow_10 : decode cX4_isRow 10 = .ok (.getfield 279, 3) := qz_2 .getfield 1 23 qo_180 (by decide +kernel) rfl
theorem dX4_isRow_13 : decode cX4_isRow 13 = .ok (.if_icmp .ge 48, 3) := qz_s2 (.if_icmp .ge) 0 48 qo_162 (by decide +kernel) rfl
theorem dX4_isRow_16 : decode cX4_isRow 16 = .ok (.aload_n 0, 1) := qd_p qo_42 (by decide +kernel)
theorem dX4_isRow_17 : decode cX4_isRow 17 = .ok (.iload_n 3, 1) := qd_p qo_29 (by decide +kernel)
theorem dX4_isRow_18 : decode cX4_isRow 18 = .ok (.iload_n 1, 1) := qd_p qo_27 (by decide +kernel)
theorem dX4_isRow_19 : decode cX4_isRow 19 = .ok (.invokevirtual 125, 3) := qz_2 .invokevirtual 0 125 qo_182 (by decide +kernel) rfl
theorem dX4_isRow_22 : decode cX4_isRow 22 = .ok (.istore 4, 2) := qz_1 .istore 4 qo_54 (by decide +kernel)
theorem dX4_isRow_24 : decode cX4_isRow 24 = .ok (.iload_n 2, 1) := qd_p qo_28 (by decide +kernel)
theorem dX4_isRow_25 : decode cX4_isRow 25 = .ok (.ifCond .eq 28, 3) := qz_s2 (.ifCond .eq) 0 28 qo_153 (by decide +kernel) rfl
theorem dX4_isRow_28 : decode cX4_isRow 28 = .ok (.aload_n 0, 1) := qd_p qo_42 (by decide +kernel)
theorem dX4_isRow_29 : decode cX4_isRow 29 = .ok (.getfield 67, 3) := qz_2 .getfield 0 67 qo_180 (by decide +kernel) rfl
theorem dX4_isRow_32 : decode cX4_isRow 32 = .ok (.iload_n 3, 1) := qd_p qo_29 (by decide +kernel)
theorem dX4_isRow_33 : decode cX4_isRow 33 = .ok (.iaload, 1) := qd_p qo_46 (by decide +kernel)
theorem dX4_isRow_34 : decode cX4_isRow 34 = .ok (.iload 4, 2) := qz_1 .iload 4 qo_21 (by decide +kernel)
theorem dX4_isRow_36 : decode cX4_isRow 36 = .ok (.ifCond .ge 8, 3) := qz_s2 (.ifCond .ge) 0 8 qo_156 (by decide +kernel) rfl
theorem dX4_isRow_39 : decode cX4_isRow 39 = .ok (.bipush 99, 2) := qz_s1 .bipush 99 qo_16 (by decide +kernel) rfl
theorem dX4_isRow_41 : decode cX4_isRow 41 = .ok (.goto 5, 3) := qz_s2 .goto 0 5 qo_167 (by decide +kernel) rfl
theorem dX4_isRow_44 : decode cX4_isRow 44 = .ok (.iload 4, 2) := qz_1 .iload 4 qo_21 (by decide +kernel)
theorem dX4_isRow_46 : decode cX4_isRow 46 = .ok (.if_icmp .ne 7, 3) := qz_s2 (.if_icmp .ne) 0 7 qo_160 (by decide +kernel) rfl
theorem dX4_isRow_49 : decode cX4_isRow 49 = .ok (.iconst 1, 1) := qd_p qo_4 (by decide +kernel)
theorem dX4_isRow_50 : decode cX4_isRow 50 = .ok (.goto 4, 3) := qz_s2 .goto 0 4 qo_167 (by decide +kernel) rfl
theorem dX4_isRow_53 : decode cX4_isRow 53 = .ok (.iconst 0, 1) := qd_p qo_3 (by decide +kernel)
theorem dX4_isRow_54 : decode cX4_isRow 54 = .ok (.istore_n 2, 1) := qd_p qo_61 (by decide +kernel)
theorem dX4_isRow_55 : decode cX4_isRow 55 = .ok (.iinc 3 1, 3) := qd_i (x := 3) (y := 1) qo_132 (by decide +kernel) rfl
theorem dX4_isRow_58 : decode cX4_isRow 58 = .ok (.goto (-50), 3) := qz_s2 .goto 255 206 qo_167 (by decide +kernel) rfl
theorem dX4_isRow_61 : decode cX4_isRow 61 = .ok (.iload_n 2, 1) := qd_p qo_28 (by decide +kernel)
theorem dX4_isRow_62 : decode cX4_isRow 62 = .ok (.ireturn, 1) := qd_p qo_172 (by decide +kernel)
theorem dX4_whichLaw_0 : decode cX4_whichLaw 0 = .ok (.aload_n 0, 1) := qd_p qo_42 (by decide +kernel)
theorem dX4_whichLaw_1 : decode cX4_whichLaw 1 = .ok (.iconst 0, 1) := qd_p qo_3 (by decide +kernel)
theorem dX4_whichLaw_2 : decode cX4_whichLaw 2 = .ok (.putfield 70, 3) := qz_2 .putfield 0 70 qo_181 (by decide +kernel) rfl
theorem dX4_whichLaw_5 : decode cX4_whichLaw 5 = .ok (.aload_n 0, 1) := qd_p qo_42 (by decide +kernel)
theorem dX4_whichLaw_6 : decode cX4_whichLaw 6 = .ok (.getfield 279, 3) := qz_2 .getfield 1 23 qo_180 (by decide +kernel) rfl
theorem dX4_whichLaw_9 : decode cX4_whichLaw 9 = .ok (.bipush 8, 2) := qz_s1 .bipush 8 qo_16 (by decide +kernel) rfl
theorem dX4_whichLaw_11 : decode cX4_whichLaw 11 = .ok (.if_icmp .le 10, 3) := qz_s2 (.if_icmp .le) 0 10 qo_164 (by decide +kernel) rfl
theorem dX4_whichLaw_14 : decode cX4_whichLaw 14 = .ok (.aload_n 0, 1) := qd_p qo_42 (by decide +kernel)
theorem dX4_whichLaw_15 : decode cX4_whichLaw 15 = .ok (.bipush (-3), 2) := qz_s1 .bipush 253 qo_16 (by decide +kernel) rfl
theorem dX4_whichLaw_17 : decode cX4_whichLaw 17 = .ok (.invokevirtual 143, 3) := qz_2 .invokevirtual 0 143 qo_182 (by decide +kernel) rfl
theorem dX4_whichLaw_20 : decode cX4_whichLaw 20 = .ok (.ireturn, 1) := qd_p qo_172 (by decide +kernel)
theorem dX4_whichLaw_21 : decode cX4_whichLaw 21 = .ok (.aload_n 0, 1) := qd_p qo_42 (by decide +kernel)
theorem dX4_whichLaw_22 : decode cX4_whichLaw 22 = .ok (.getfield 115, 3) := qz_2 .getfield 0 115 qo_180 (by decide +kernel) rfl
theorem dX4_whichLaw_25 : decode cX4_whichLaw 25 = .ok (.istore_n 1, 1) := qd_p qo_60 (by decide +kernel)
theorem dX4_whichLaw_26 : decode cX4_whichLaw 26 = .ok (.iconst 0, 1) := qd_p qo_3 (by decide +kernel)
theorem dX4_whichLaw_27 : decode cX4_whichLaw 27 = .ok (.istore_n 2, 1) := qd_p qo_61 (by decide +kernel)
theorem dX4_whichLaw_28 : decode cX4_whichLaw 28 = .ok (.iconst 0, 1) := qd_p qo_3 (by decide +kernel)
theorem dX4_whichLaw_29 : decode cX4_whichLaw 29 = .ok (.istore_n 3, 1) := qd_p qo_62 (by decide +kernel)
theorem dX4_whichLaw_30 : decode cX4_whichLaw 30 = .ok (.iload_n 3, 1) := qd_p qo_29 (by decide +kernel)
theorem dX4_whichLaw_31 : decode cX4_whichLaw 31 = .ok (.iconst 3, 1) := qd_p qo_6 (by decide +kernel)
theorem dX4_whichLaw_32 : decode cX4_whichLaw 32 = .ok (.if_icmp .ge 32, 3) := qz_s2 (.if_icmp .ge) 0 32 qo_162 (by decide +kernel) rfl
theorem dX4_whichLaw_35 : decode cX4_whichLaw 35 = .ok (.aload_n 0, 1) := qd_p qo_42 (by decide +kernel)
theorem dX4_whichLaw_36 : decode cX4_whichLaw 36 = .ok (.iload_n 3, 1) := qd_p qo_29 (by decide +kernel)
theorem dX4_whichLaw_37 : decode cX4_whichLaw 37 = .ok (.putfield 115, 3) := qz_2 .putfield 0 115 qo_181 (by decide +kernel) rfl
theorem dX4_whichLaw_40 : decode cX4_whichLaw 40 = .ok (.iload_n 2, 1) := qd_p qo_28 (by decide +kernel)
theorem dX4_whichLaw_41 : decode cX4_whichLaw 41 = .ok (.aload_n 0, 1) := qd_p qo_42 (by decide +kernel)
theorem dX4_whichLaw_42 : decode cX4_whichLaw 42 = .ok (.iconst 0, 1) := qd_p qo_3 (by decide +kernel)
theorem dX4_whichLaw_43 : decode cX4_whichLaw 43 = .ok (.invokevirtual 282, 3) := qz_2 .invokevirtual 1 26 qo_182 (by decide +kernel) rfl
theorem dX4_whichLaw_46 : decode cX4_whichLaw 46 = .ok (.ifCond .eq 9, 3) := qz_s2 (.ifCond .eq) 0 9 qo_153 (by decide +kernel) rfl
theorem dX4_whichLaw_49 : decode cX4_whichLaw 49 = .ok (.iconst 1, 1) := qd_p qo_4 (by decide +kernel)
theorem dX4_whichLaw_50 : decode cX4_whichLaw 50 = .ok (.iload_n 3, 1) := qd_p qo_29 (by decide +kernel)
theorem dX4_whichLaw_51 : decode cX4_whichLaw 51 = .ok (.ishl, 1) := qd_p qo_120 (by decide +kernel)
theorem dX4_whichLaw_52 : decode cX4_whichLaw 52 = .ok (.goto 4, 3) := qz_s2 .goto 0 4 qo_167 (by decide +kernel) rfl
theorem dX4_whichLaw_55 : decode cX4_whichLaw 55 = .ok (.iconst 0, 1) := qd_p qo_3 (by decide +kernel)
theorem dX4_whichLaw_56 : decode cX4_whichLaw 56 = .ok (.ior, 1) := qd_p qo_128 (by decide +kernel)
theorem dX4_whichLaw_57 : decode cX4_whichLaw 57 = .ok (.istore_n 2, 1) := qd_p qo_61 (by decide +kernel)
theorem dX4_whichLaw_58 : decode cX4_whichLaw 58 = .ok (.iinc 3 1, 3) := qd_i (x := 3) (y := 1) qo_132 (by decide +kernel) rfl
theorem dX4_whichLaw_61 : decode cX4_whichLaw 61 = .ok (.goto (-31), 3) := qz_s2 .goto 255 225 qo_167 (by decide +kernel) rfl
theorem dX4_whichLaw_64 : decode cX4_whichLaw 64 = .ok (.aload_n 0, 1) := qd_p qo_42 (by decide +kernel)
theorem dX4_whichLaw_65 : decode cX4_whichLaw 65 = .ok (.iload_n 1, 1) := qd_p qo_27 (by decide +kernel)
theorem dX4_whichLaw_66 : decode cX4_whichLaw 66 = .ok (.putfield 115, 3) := qz_2 .putfield 0 115 qo_181 (by decide +kernel) rfl
theorem dX4_whichLaw_69 : decode cX4_whichLaw 69 = .ok (.iload_n 2, 1) := qd_p qo_28 (by decide +kernel)
theorem dX4_whichLaw_70 : decode cX4_whichLaw 70 = .ok (.ireturn, 1) := qd_p qo_172 (by decide +kernel)
theorem dX4_whichKind_0 : decode cX4_whichKind 0 = .ok (.aload_n 0, 1) := qd_p qo_42 (by decide +kernel)
theorem dX4_whichKind_1 : decode cX4_whichKind 1 = .ok (.iconst 0, 1) := qd_p qo_3 (by decide +kernel)
theorem dX4_whichKind_2 : decode cX4_whichKind 2 = .ok (.putfield 70, 3) := qz_2 .putfield 0 70 qo_181 (by decide +kernel) rfl
theorem dX4_whichKind_5 : decode cX4_whichKind 5 = .ok (.aload_n 0, 1) := qd_p qo_42 (by decide +kernel)
theorem dX4_whichKind_6 : decode cX4_whichKind 6 = .ok (.iload_n 1, 1) := qd_p qo_27 (by decide +kernel)
theorem dX4_whichKind_7 : decode cX4_whichKind 7 = .ok (.invokevirtual 88, 3) := qz_2 .invokevirtual 0 88 qo_182 (by decide +kernel) rfl
theorem dX4_whichKind_10 : decode cX4_whichKind 10 = .ok (.ifCond .eq 14, 3) := qz_s2 (.ifCond .eq) 0 14 qo_153 (by decide +kernel) rfl
theorem dX4_whichKind_13 : decode cX4_whichKind 13 = .ok (.iload_n 2, 1) := qd_p qo_28 (by decide +kernel)
theorem dX4_whichKind_14 : decode cX4_whichKind 14 = .ok (.iconst 0, 1) := qd_p qo_3 (by decide +kernel)
theorem dX4_whichKind_15 : decode cX4_whichKind 15 = .ok (.sipush 999, 3) := qz_s2 .sipush 3 231 qo_17 (by decide +kernel) rfl
theorem dX4_whichKind_18 : decode cX4_whichKind 18 = .ok (.invokestatic 231, 3) := qz_2 .invokestatic 0 231 qo_184 (by decide +kernel) rfl
theorem dX4_whichKind_21 : decode cX4_whichKind 21 = .ok (.goto 4, 3) := qz_s2 .goto 0 4 qo_167 (by decide +kernel) rfl
theorem dX4_whichKind_24 : decode cX4_whichKind 24 = .ok (.iconst (-1), 1) := qd_p qo_2 (by decide +kernel)
theorem dX4_whichKind_25 : decode cX4_whichKind 25 = .ok (.iload_n 3, 1) := qd_p qo_29 (by decide +kernel)
theorem dX4_whichKind_26 : decode cX4_whichKind 26 = .ok (.iconst 1, 1) := qd_p qo_4 (by decide +kernel)
theorem dX4_whichKind_27 : decode cX4_whichKind 27 = .ok (.invokestatic 251, 3) := qz_2 .invokestatic 0 251 qo_184 (by decide +kernel) rfl
theorem dX4_whichKind_30 : decode cX4_whichKind 30 = .ok (.istore 4, 2) := qz_1 .istore 4 qo_54 (by decide +kernel)
theorem dX4_whichKind_32 : decode cX4_whichKind 32 = .ok (.iload 4, 2) := qz_1 .iload 4 qo_21 (by decide +kernel)
theorem dX4_whichKind_34 : decode cX4_whichKind 34 = .ok (.ifCond .ne 17, 3) := qz_s2 (.ifCond .ne) 0 17 qo_154 (by decide +kernel) rfl
theorem dX4_whichKind_37 : decode cX4_whichKind 37 = .ok (.aload_n 0, 1) := qd_p qo_42 (by decide +kernel)
theorem dX4_whichKind_38 : decode cX4_whichKind 38 = .ok (.getfield 279, 3) := qz_2 .getfield 1 23 qo_180 (by decide +kernel) rfl
theorem dX4_whichKind_41 : decode cX4_whichKind 41 = .ok (.bipush 8, 2) := qz_s1 .bipush 8 qo_16 (by decide +kernel) rfl
theorem dX4_whichKind_43 : decode cX4_whichKind 43 = .ok (.if_icmp .le 8, 3) := qz_s2 (.if_icmp .le) 0 8 qo_164 (by decide +kernel) rfl
theorem dX4_whichKind_46 : decode cX4_whichKind 46 = .ok (.bipush (-3), 2) := qz_s1 .bipush 253 qo_16 (by decide +kernel) rfl
theorem dX4_whichKind_48 : decode cX4_whichKind 48 = .ok (.goto 5, 3) := qz_s2 .goto 0 5 qo_167 (by decide +kernel) rfl
theorem dX4_whichKind_51 : decode cX4_whichKind 51 = .ok (.iload 4, 2) := qz_1 .iload 4 qo_21 (by decide +kernel)
theorem dX4_whichKind_53 : decode cX4_whichKind 53 = .ok (.istore 4, 2) := qz_1 .istore 4 qo_54 (by decide +kernel)
theorem dX4_whichKind_55 : decode cX4_whichKind 55 = .ok (.iload 4, 2) := qz_1 .iload 4 qo_21 (by decide +kernel)
theorem dX4_whichKind_57 : decode cX4_whichKind 57 = .ok (.ifCond .ge 10, 3) := qz_s2 (.ifCond .ge) 0 10 qo_156 (by decide +kernel) rfl
theorem dX4_whichKind_60 : decode cX4_whichKind 60 = .ok (.aload_n 0, 1) := qd_p qo_42 (by decide +kernel)
theorem dX4_whichKind_61 : decode cX4_whichKind 61 = .ok (.iload 4, 2) := qz_1 .iload 4 qo_21 (by decide +kernel)
theorem dX4_whichKind_63 : decode cX4_whichKind 63 = .ok (.invokevirtual 143, 3) := qz_2 .invokevirtual 0 143 qo_182 (by decide +kernel) rfl
theorem dX4_whichKind_66 : decode cX4_whichKind 66 = .ok (.ireturn, 1) := qd_p qo_172 (by decide +kernel)
theorem dX4_whichKind_67 : decode cX4_whichKind 67 = .ok (.iconst 0, 1) := qd_p qo_3 (by decide +kernel)
theorem dX4_whichKind_68 : decode cX4_whichKind 68 = .ok (.istore 5, 2) := qz_1 .istore 5 qo_54 (by decide +kernel)
theorem dX4_whichKind_70 : decode cX4_whichKind 70 = .ok (.aload_n 0, 1) := qd_p qo_42 (by decide +kernel)
theorem dX4_whichKind_71 : decode cX4_whichKind 71 = .ok (.invokevirtual 195, 3) := qz_2 .invokevirtual 0 195 qo_182 (by decide +kernel) rfl
theorem dX4_whichKind_74 : decode cX4_whichKind 74 = .ok (.iconst 0, 1) := qd_p qo_3 (by decide +kernel)
theorem dX4_whichKind_75 : decode cX4_whichKind 75 = .ok (.istore 6, 2) := qz_1 .istore 6 qo_54 (by decide +kernel)
theorem dX4_whichKind_77 : decode cX4_whichKind 77 = .ok (.iload 6, 2) := qz_1 .iload 6 qo_21 (by decide +kernel)
theorem dX4_whichKind_79 : decode cX4_whichKind 79 = .ok (.iload_n 3, 1) := qd_p qo_29 (by decide +kernel)
theorem dX4_whichKind_80 : decode cX4_whichKind 80 = .ok (.ifCond .ne 8, 3) := qz_s2 (.ifCond .ne) 0 8 qo_154 (by decide +kernel) rfl
theorem dX4_whichKind_83 : decode cX4_whichKind 83 = .ok (.bipush 6, 2) := qz_s1 .bipush 6 qo_16 (by decide +kernel) rfl
theorem dX4_whichKind_85 : decode cX4_whichKind 85 = .ok (.goto 5, 3) := qz_s2 .goto 0 5 qo_167 (by decide +kernel) rfl
theorem dX4_whichKind_88 : decode cX4_whichKind 88 = .ok (.bipush 10, 2) := qz_s1 .bipush 10 qo_16 (by decide +kernel) rfl
theorem dX4_whichKind_90 : decode cX4_whichKind 90 = .ok (.if_icmp .ge 73, 3) := qz_s2 (.if_icmp .ge) 0 73 qo_162 (by decide +kernel) rfl
theorem dX4_whichKind_93 : decode cX4_whichKind 93 = .ok (.aload_n 0, 1) := qd_p qo_42 (by decide +kernel)
theorem dX4_whichKind_94 : decode cX4_whichKind 94 = .ok (.getfield 16, 3) := qz_2 .getfield 0 16 qo_180 (by decide +kernel) rfl
theorem dX4_whichKind_97 : decode cX4_whichKind 97 = .ok (.iload_n 1, 1) := qd_p qo_27 (by decide +kernel)
theorem dX4_whichKind_98 : decode cX4_whichKind 98 = .ok (.iload_n 3, 1) := qd_p qo_29 (by decide +kernel)
theorem dX4_whichKind_99 : decode cX4_whichKind 99 = .ok (.ifCond .ne 8, 3) := qz_s2 (.ifCond .ne) 0 8 qo_154 (by decide +kernel) rfl
theorem dX4_whichKind_102 : decode cX4_whichKind 102 = .ok (.iload 6, 2) := qz_1 .iload 6 qo_21 (by decide +kernel)
theorem dX4_whichKind_104 : decode cX4_whichKind 104 = .ok (.goto 9, 3) := qz_s2 .goto 0 9 qo_167 (by decide +kernel) rfl
theorem dX4_whichKind_107 : decode cX4_whichKind 107 = .ok (.aload_n 0, 1) := qd_p qo_42 (by decide +kernel)
theorem dX4_whichKind_108 : decode cX4_whichKind 108 = .ok (.getfield 16, 3) := qz_2 .getfield 0 16 qo_180 (by decide +kernel) rfl
theorem dX4_whichKind_111 : decode cX4_whichKind 111 = .ok (.iload_n 1, 1) := qd_p qo_27 (by decide +kernel)
theorem dX4_whichKind_112 : decode cX4_whichKind 112 = .ok (.iaload, 1) := qd_p qo_46 (by decide +kernel)
theorem dX4_whichKind_113 : decode cX4_whichKind 113 = .ok (.iastore, 1) := qd_p qo_79 (by decide +kernel)
theorem dX4_whichKind_114 : decode cX4_whichKind 114 = .ok (.aload_n 0, 1) := qd_p qo_42 (by decide +kernel)
theorem dX4_whichKind_115 : decode cX4_whichKind 115 = .ok (.getfield 19, 3) := qz_2 .getfield 0 19 qo_180 (by decide +kernel) rfl
theorem dX4_whichKind_118 : decode cX4_whichKind 118 = .ok (.iload_n 1, 1) := qd_p qo_27 (by decide +kernel)
theorem dX4_whichKind_119 : decode cX4_whichKind 119 = .ok (.iload_n 3, 1) := qd_p qo_29 (by decide +kernel)
theorem dX4_whichKind_120 : decode cX4_whichKind 120 = .ok (.iconst 1, 1) := qd_p qo_4 (by decide +kernel)
theorem dX4_whichKind_121 : decode cX4_whichKind 121 = .ok (.if_icmp .ne 8, 3) := qz_s2 (.if_icmp .ne) 0 8 qo_160 (by decide +kernel) rfl
theorem dX4_whichKind_124 : decode cX4_whichKind 124 = .ok (.iload 6, 2) := qz_1 .iload 6 qo_21 (by decide +kernel)
theorem dX4_whichKind_126 : decode cX4_whichKind 126 = .ok (.goto 9, 3) := qz_s2 .goto 0 9 qo_167 (by decide +kernel) rfl
theorem dX4_whichKind_129 : decode cX4_whichKind 129 = .ok (.aload_n 0, 1) := qd_p qo_42 (by decide +kernel)
theorem dX4_whichKind_130 : decode cX4_whichKind 130 = .ok (.getfield 19, 3) := qz_2 .getfield 0 19 qo_180 (by decide +kernel) rfl
theorem dX4_whichKind_133 : decode cX4_whichKind 133 = .ok (.iload_n 1, 1) := qd_p qo_27 (by decide +kernel)
theorem dX4_whichKind_134 : decode cX4_whichKind 134 = .ok (.iaload, 1) := qd_p qo_46 (by decide +kernel)
theorem dX4_whichKind_135 : decode cX4_whichKind 135 = .ok (.iastore, 1) := qd_p qo_79 (by decide +kernel)
theorem dX4_whichKind_136 : decode cX4_whichKind 136 = .ok (.iload 5, 2) := qz_1 .iload 5 qo_21 (by decide +kernel)
theorem dX4_whichKind_138 : decode cX4_whichKind 138 = .ok (.aload_n 0, 1) := qd_p qo_42 (by decide +kernel)
theorem dX4_whichKind_139 : decode cX4_whichKind 139 = .ok (.iload_n 2, 1) := qd_p qo_28 (by decide +kernel)
theorem dX4_whichKind_140 : decode cX4_whichKind 140 = .ok (.invokevirtual 282, 3) := qz_2 .invokevirtual 1 26 qo_182 (by decide +kernel) rfl
theorem dX4_whichKind_143 : decode cX4_whichKind 143 = .ok (.ifCond .eq 10, 3) := qz_s2 (.ifCond .eq) 0 10 qo_153 (by decide +kernel) rfl
theorem dX4_whichKind_146 : decode cX4_whichKind 146 = .ok (.iconst 1, 1) := qd_p qo_4 (by decide +kernel)
theorem dX4_whichKind_147 : decode cX4_whichKind 147 = .ok (.iload 6, 2) := qz_1 .iload 6 qo_21 (by decide +kernel)
theorem dX4_whichKind_149 : decode cX4_whichKind 149 = .ok (.ishl, 1) := qd_p qo_120 (by decide +kernel)
theorem dX4_whichKind_150 : decode cX4_whichKind 150 = .ok (.goto 4, 3) := qz_s2 .goto 0 4 qo_167 (by decide +kernel) rfl
theorem dX4_whichKind_153 : decode cX4_whichKind 153 = .ok (.iconst 0, 1) := qd_p qo_3 (by decide +kernel)
theorem dX4_whichKind_154 : decode cX4_whichKind 154 = .ok (.ior, 1) := qd_p qo_128 (by decide +kernel)
theorem dX4_whichKind_155 : decode cX4_whichKind 155 = .ok (.istore 5, 2) := qz_1 .istore 5 qo_54 (by decide +kernel)
theorem dX4_whichKind_157 : decode cX4_whichKind 157 = .ok (.iinc 6 1, 3) := qd_i (x := 6) (y := 1) qo_132 (by decide +kernel) rfl
theorem dX4_whichKind_160 : decode cX4_whichKind 160 = .ok (.goto (-83), 3) := qz_s2 .goto 255 173 qo_167 (by decide +kernel) rfl
theorem dX4_whichKind_163 : decode cX4_whichKind 163 = .ok (.aload_n 0, 1) := qd_p qo_42 (by decide +kernel)
theorem dX4_whichKind_164 : decode cX4_whichKind 164 = .ok (.invokevirtual 201, 3) := qz_2 .invokevirtual 0 201 qo_182 (by decide +kernel) rfl
theorem dX4_whichKind_167 : decode cX4_whichKind 167 = .ok (.iload 5, 2) := qz_1 .iload 5 qo_21 (by decide +kernel)
theorem dX4_whichKind_169 : decode cX4_whichKind 169 = .ok (.ireturn, 1) := qd_p qo_172 (by decide +kernel)
theorem dX4_ill_0 : decode cX4_ill 0 = .ok (.aload_n 0, 1) := qd_p qo_42 (by decide +kernel)
theorem dX4_ill_1 : decode cX4_ill 1 = .ok (.iconst 0, 1) := qd_p qo_3 (by decide +kernel)
theorem dX4_ill_2 : decode cX4_ill 2 = .ok (.putfield 70, 3) := qz_2 .putfield 0 70 qo_181 (by decide +kernel) rfl
theorem dX4_ill_5 : decode cX4_ill 5 = .ok (.iconst 0, 1) := qd_p qo_3 (by decide +kernel)
theorem dX4_ill_6 : decode cX4_ill 6 = .ok (.istore 6, 2) := qz_1 .istore 6 qo_54 (by decide +kernel)
theorem dX4_ill_8 : decode cX4_ill 8 = .ok (.aload_n 0, 1) := qd_p qo_42 (by decide +kernel)
theorem dX4_ill_9 : decode cX4_ill 9 = .ok (.iload_n 1, 1) := qd_p qo_27 (by decide +kernel)
theorem dX4_ill_10 : decode cX4_ill 10 = .ok (.invokevirtual 88, 3) := qz_2 .invokevirtual 0 88 qo_182 (by decide +kernel) rfl
theorem dX4_ill_13 : decode cX4_ill 13 = .ok (.ifCond .eq 10, 3) := qz_s2 (.ifCond .eq) 0 10 qo_153 (by decide +kernel) rfl
theorem dX4_ill_16 : decode cX4_ill 16 = .ok (.iload_n 2, 1) := qd_p qo_28 (by decide +kernel)
theorem dX4_ill_17 : decode cX4_ill 17 = .ok (.invokestatic 243, 3) := qz_2 .invokestatic 0 243 qo_184 (by decide +kernel) rfl
theorem dX4_ill_20 : decode cX4_ill 20 = .ok (.ifCond .ne 9, 3) := qz_s2 (.ifCond .ne) 0 9 qo_154 (by decide +kernel) rfl
theorem dX4_ill_23 : decode cX4_ill 23 = .ok (.iconst (-1), 1) := qd_p qo_2 (by decide +kernel)
theorem dX4_ill_24 : decode cX4_ill 24 = .ok (.istore 6, 2) := qz_1 .istore 6 qo_54 (by decide +kernel)
theorem dX4_ill_26 : decode cX4_ill 26 = .ok (.goto 37, 3) := qz_s2 .goto 0 37 qo_167 (by decide +kernel) rfl
theorem dX4_ill_29 : decode cX4_ill 29 = .ok (.iload_n 3, 1) := qd_p qo_29 (by decide +kernel)
theorem dX4_ill_30 : decode cX4_ill 30 = .ok (.ifCond .lt 9, 3) := qz_s2 (.ifCond .lt) 0 9 qo_155 (by decide +kernel) rfl
theorem dX4_ill_33 : decode cX4_ill 33 = .ok (.iload 4, 2) := qz_1 .iload 4 qo_21 (by decide +kernel)
theorem dX4_ill_35 : decode cX4_ill 35 = .ok (.iconst 2, 1) := qd_p qo_5 (by decide +kernel)
theorem dX4_ill_36 : decode cX4_ill 36 = .ok (.if_icmp .ge 10, 3) := qz_s2 (.if_icmp .ge) 0 10 qo_162 (by decide +kernel) rfl
theorem dX4_ill_39 : decode cX4_ill 39 = .ok (.bipush (-4), 2) := qz_s1 .bipush 252 qo_16 (by decide +kernel) rfl
theorem dX4_ill_41 : decode cX4_ill 41 = .ok (.istore 6, 2) := qz_1 .istore 6 qo_54 (by decide +kernel)
theorem dX4_ill_43 : decode cX4_ill 43 = .ok (.goto 20, 3) := qz_s2 .goto 0 20 qo_167 (by decide +kernel) rfl
theorem dX4_ill_46 : decode cX4_ill 46 = .ok (.iload_n 3, 1) := qd_p qo_29 (by decide +kernel)
theorem dX4_ill_47 : decode cX4_ill 47 = .ok (.bipush 8, 2) := qz_s1 .bipush 8 qo_16 (by decide +kernel) rfl
theorem dX4_ill_49 : decode cX4_ill 49 = .ok (.if_icmp .gt 10, 3) := qz_s2 (.if_icmp .gt) 0 10 qo_163 (by decide +kernel) rfl
theorem dX4_ill_52 : decode cX4_ill 52 = .ok (.iload 4, 2) := qz_1 .iload 4 qo_21 (by decide +kernel)
theorem dX4_ill_54 : decode cX4_ill 54 = .ok (.bipush 20, 2) := qz_s1 .bipush 20 qo_16 (by decide +kernel) rfl
theorem dX4_ill_56 : decode cX4_ill 56 = .ok (.if_icmp .le 7, 3) := qz_s2 (.if_icmp .le) 0 7 qo_164 (by decide +kernel) rfl
theorem dX4_ill_59 : decode cX4_ill 59 = .ok (.bipush (-6), 2) := qz_s1 .bipush 250 qo_16 (by decide +kernel) rfl
theorem dX4_ill_61 : decode cX4_ill 61 = .ok (.istore 6, 2) := qz_1 .istore 6 qo_54 (by decide +kernel)
theorem dX4_ill_63 : decode cX4_ill 63 = .ok (.iload 6, 2) := qz_1 .iload 6 qo_21 (by decide +kernel)
theorem dX4_ill_65 : decode cX4_ill 65 = .ok (.iload 5, 2) := qz_1 .iload 5 qo_21 (by decide +kernel)
theorem dX4_ill_67 : decode cX4_ill 67 = .ok (.iconst 1, 1) := qd_p qo_4 (by decide +kernel)
theorem dX4_ill_68 : decode cX4_ill 68 = .ok (.invokestatic 251, 3) := qz_2 .invokestatic 0 251 qo_184 (by decide +kernel) rfl
theorem dX4_ill_71 : decode cX4_ill 71 = .ok (.istore 6, 2) := qz_1 .istore 6 qo_54 (by decide +kernel)
theorem dX4_ill_73 : decode cX4_ill 73 = .ok (.iload 6, 2) := qz_1 .iload 6 qo_21 (by decide +kernel)
theorem dX4_ill_75 : decode cX4_ill 75 = .ok (.ifCond .ge 15, 3) := qz_s2 (.ifCond .ge) 0 15 qo_156 (by decide +kernel) rfl
theorem dX4_ill_78 : decode cX4_ill 78 = .ok (.ldc2_w 270, 3) := qz_2 .ldc2_w 1 14 qo_20 (by decide +kernel) rfl
theorem dX4_ill_81 : decode cX4_ill 81 = .ok (.aload_n 0, 1) := qd_p qo_42 (by decide +kernel)
theorem dX4_ill_82 : decode cX4_ill 82 = .ok (.iload 6, 2) := qz_1 .iload 6 qo_21 (by decide +kernel)
theorem dX4_ill_84 : decode cX4_ill 84 = .ok (.invokevirtual 143, 3) := qz_2 .invokevirtual 0 143 qo_182 (by decide +kernel) rfl
theorem dX4_ill_87 : decode cX4_ill 87 = .ok (.i2l, 1) := qd_p qo_133 (by decide +kernel)
theorem dX4_ill_88 : decode cX4_ill 88 = .ok (.lsub, 1) := qd_p qo_101 (by decide +kernel)
theorem dX4_ill_89 : decode cX4_ill 89 = .ok (.lreturn, 1) := qd_p qo_173 (by decide +kernel)
theorem dX4_ill_90 : decode cX4_ill 90 = .ok (.aload_n 0, 1) := qd_p qo_42 (by decide +kernel)
theorem dX4_ill_91 : decode cX4_ill 91 = .ok (.invokevirtual 134, 3) := qz_2 .invokevirtual 0 134 qo_182 (by decide +kernel) rfl
theorem dX4_ill_94 : decode cX4_ill 94 = .ok (.lconst 0, 1) := qd_p qo_9 (by decide +kernel)
theorem dX4_ill_95 : decode cX4_ill 95 = .ok (.lstore 7, 2) := qz_1 .lstore 7 qo_55 (by decide +kernel)
theorem dX4_ill_97 : decode cX4_ill 97 = .ok (.lconst 1, 1) := qd_p qo_10 (by decide +kernel)
theorem dX4_ill_98 : decode cX4_ill 98 = .ok (.lstore 9, 2) := qz_1 .lstore 9 qo_55 (by decide +kernel)
theorem dX4_ill_100 : decode cX4_ill 100 = .ok (.iconst 0, 1) := qd_p qo_3 (by decide +kernel)
theorem dX4_ill_101 : decode cX4_ill 101 = .ok (.istore 11, 2) := qz_1 .istore 11 qo_54 (by decide +kernel)
theorem dX4_ill_103 : decode cX4_ill 103 = .ok (.iload 11, 2) := qz_1 .iload 11 qo_21 (by decide +kernel)
theorem dX4_ill_105 : decode cX4_ill 105 = .ok (.iload_n 3, 1) := qd_p qo_29 (by decide +kernel)
theorem dX4_ill_106 : decode cX4_ill 106 = .ok (.if_icmp .ge 17, 3) := qz_s2 (.if_icmp .ge) 0 17 qo_162 (by decide +kernel) rfl
theorem dX4_ill_109 : decode cX4_ill 109 = .ok (.lload 9, 2) := qz_1 .lload 9 qo_22 (by decide +kernel)
theorem dX4_ill_111 : decode cX4_ill 111 = .ok (.iload 4, 2) := qz_1 .iload 4 qo_21 (by decide +kernel)
theorem dX4_ill_113 : decode cX4_ill 113 = .ok (.i2l, 1) := qd_p qo_133 (by decide +kernel)
theorem dX4_ill_114 : decode cX4_ill 114 = .ok (.lmul, 1) := qd_p qo_105 (by decide +kernel)
theorem dX4_ill_115 : decode cX4_ill 115 = .ok (.lstore 9, 2) := qz_1 .lstore 9 qo_55 (by decide +kernel)
theorem dX4_ill_117 : decode cX4_ill 117 = .ok (.iinc 11 1, 3) := qd_i (x := 11) (y := 1) qo_132 (by decide +kernel) rfl
theorem dX4_ill_120 : decode cX4_ill 120 = .ok (.goto (-17), 3) := qz_s2 .goto 255 239 qo_167 (by decide +kernel) rfl
theorem dX4_ill_123 : decode cX4_ill 123 = .ok (.iconst 0, 1) := qd_p qo_3 (by decide +kernel)
theorem dX4_ill_124 : decode cX4_ill 124 = .ok (.istore 11, 2) := qz_1 .istore 11 qo_54 (by decide +kernel)
theorem dX4_ill_126 : decode cX4_ill 126 = .ok (.iload 11, 2) := qz_1 .iload 11 qo_21 (by decide +kernel)
theorem dX4_ill_128 : decode cX4_ill 128 = .ok (.iconst 1, 1) := qd_p qo_4 (by decide +kernel)
theorem dX4_ill_129 : decode cX4_ill 129 = .ok (.iload_n 3, 1) := qd_p qo_29 (by decide +kernel)
theorem dX4_ill_130 : decode cX4_ill 130 = .ok (.ishl, 1) := qd_p qo_120 (by decide +kernel)
theorem dX4_ill_131 : decode cX4_ill 131 = .ok (.if_icmp .ge 115, 3) := qz_s2 (.if_icmp .ge) 0 115 qo_162 (by decide +kernel) rfl
theorem dX4_ill_134 : decode cX4_ill 134 = .ok (.lconst 1, 1) := qd_p qo_10 (by decide +kernel)
theorem dX4_ill_135 : decode cX4_ill 135 = .ok (.lstore 12, 2) := qz_1 .lstore 12 qo_55 (by decide +kernel)
theorem dX4_ill_137 : decode cX4_ill 137 = .ok (.iconst 0, 1) := qd_p qo_3 (by decide +kernel)
theorem dX4_ill_138 : decode cX4_ill 138 = .ok (.istore 14, 2) := qz_1 .istore 14 qo_54 (by decide +kernel)
theorem dX4_ill_140 : decode cX4_ill 140 = .ok (.iload 14, 2) := qz_1 .iload 14 qo_21 (by decide +kernel)
theorem dX4_ill_142 : decode cX4_ill 142 = .ok (.iload_n 3, 1) := qd_p qo_29 (by decide +kernel)
theorem dX4_ill_143 : decode cX4_ill 143 = .ok (.if_icmp .ge 33, 3) := qz_s2 (.if_icmp .ge) 0 33 qo_162 (by decide +kernel) rfl
theorem dX4_ill_146 : decode cX4_ill 146 = .ok (.lload 12, 2) := qz_1 .lload 12 qo_22 (by decide +kernel)
theorem dX4_ill_148 : decode cX4_ill 148 = .ok (.iload 11, 2) := qz_1 .iload 11 qo_21 (by decide +kernel)
theorem dX4_ill_150 : decode cX4_ill 150 = .ok (.iload 14, 2) := qz_1 .iload 14 qo_21 (by decide +kernel)
theorem dX4_ill_152 : decode cX4_ill 152 = .ok (.invokestatic 104, 3) := qz_2 .invokestatic 0 104 qo_184 (by decide +kernel) rfl
theorem dX4_ill_155 : decode cX4_ill 155 = .ok (.ifCond .eq 11, 3) := qz_s2 (.ifCond .eq) 0 11 qo_153 (by decide +kernel) rfl
theorem dX4_ill_158 : decode cX4_ill 158 = .ok (.iload 4, 2) := qz_1 .iload 4 qo_21 (by decide +kernel)
theorem dX4_ill_160 : decode cX4_ill 160 = .ok (.iconst 1, 1) := qd_p qo_4 (by decide +kernel)
theorem dX4_ill_161 : decode cX4_ill 161 = .ok (.isub, 1) := qd_p qo_100 (by decide +kernel)
theorem dX4_ill_162 : decode cX4_ill 162 = .ok (.i2l, 1) := qd_p qo_133 (by decide +kernel)
theorem dX4_ill_163 : decode cX4_ill 163 = .ok (.goto 4, 3) := qz_s2 .goto 0 4 qo_167 (by decide +kernel) rfl
theorem dX4_ill_166 : decode cX4_ill 166 = .ok (.lconst 1, 1) := qd_p qo_10 (by decide +kernel)
theorem dX4_ill_167 : decode cX4_ill 167 = .ok (.lmul, 1) := qd_p qo_105 (by decide +kernel)
theorem dX4_ill_168 : decode cX4_ill 168 = .ok (.lstore 12, 2) := qz_1 .lstore 12 qo_55 (by decide +kernel)
theorem dX4_ill_170 : decode cX4_ill 170 = .ok (.iinc 14 1, 3) := qd_i (x := 14) (y := 1) qo_132 (by decide +kernel) rfl
theorem dX4_ill_173 : decode cX4_ill 173 = .ok (.goto (-33), 3) := qz_s2 .goto 255 223 qo_167 (by decide +kernel) rfl
theorem dX4_ill_176 : decode cX4_ill 176 = .ok (.aload_n 0, 1) := qd_p qo_42 (by decide +kernel)
theorem dX4_ill_177 : decode cX4_ill 177 = .ok (.iload_n 2, 1) := qd_p qo_28 (by decide +kernel)
theorem dX4_ill_178 : decode cX4_ill 178 = .ok (.iload_n 3, 1) := qd_p qo_29 (by decide +kernel)
theorem dX4_ill_179 : decode cX4_ill 179 = .ok (.invokevirtual 125, 3) := qz_2 .invokevirtual 0 125 qo_182 (by decide +kernel) rfl
theorem dX4_ill_182 : decode cX4_ill 182 = .ok (.pop, 1) := qd_p qo_87 (by decide +kernel)
theorem dX4_ill_183 : decode cX4_ill 183 = .ok (.aload_n 0, 1) := qd_p qo_42 (by decide +kernel)
theorem dX4_ill_184 : decode cX4_ill 184 = .ok (.getfield 34, 3) := qz_2 .getfield 0 34 qo_180 (by decide +kernel) rfl
theorem dX4_ill_187 : decode cX4_ill 187 = .ok (.iload_n 1, 1) := qd_p qo_27 (by decide +kernel)
theorem dX4_ill_188 : decode cX4_ill 188 = .ok (.aload_n 0, 1) := qd_p qo_42 (by decide +kernel)
theorem dX4_ill_189 : decode cX4_ill 189 = .ok (.getfield 25, 3) := qz_2 .getfield 0 25 qo_180 (by decide +kernel) rfl
theorem dX4_ill_192 : decode cX4_ill 192 = .ok (.bipush 8, 2) := qz_s1 .bipush 8 qo_16 (by decide +kernel) rfl
theorem dX4_ill_194 : decode cX4_ill 194 = .ok (.iload_n 1, 1) := qd_p qo_27 (by decide +kernel)
theorem dX4_ill_195 : decode cX4_ill 195 = .ok (.imul, 1) := qd_p qo_104 (by decide +kernel)
theorem dX4_ill_196 : decode cX4_ill 196 = .ok (.iload_n 2, 1) := qd_p qo_28 (by decide +kernel)
theorem dX4_ill_197 : decode cX4_ill 197 = .ok (.iadd, 1) := qd_p qo_96 (by decide +kernel)
theorem dX4_ill_198 : decode cX4_ill 198 = .ok (.iaload, 1) := qd_p qo_46 (by decide +kernel)
theorem dX4_ill_199 : decode cX4_ill 199 = .ok (.iload 11, 2) := qz_1 .iload 11 qo_21 (by decide +kernel)
theorem dX4_ill_201 : decode cX4_ill 201 = .ok (.invokestatic 263, 3) := qz_2 .invokestatic 1 7 qo_184 (by decide +kernel) rfl
theorem dX4_ill_204 : decode cX4_ill 204 = .ok (.aload_n 0, 1) := qd_p qo_42 (by decide +kernel)
theorem dX4_ill_205 : decode cX4_ill 205 = .ok (.getfield 31, 3) := qz_2 .getfield 0 31 qo_180 (by decide +kernel) rfl
theorem dX4_ill_208 : decode cX4_ill 208 = .ok (.bipush 8, 2) := qz_s1 .bipush 8 qo_16 (by decide +kernel) rfl
theorem dX4_ill_210 : decode cX4_ill 210 = .ok (.iload_n 1, 1) := qd_p qo_27 (by decide +kernel)
theorem dX4_ill_211 : decode cX4_ill 211 = .ok (.imul, 1) := qd_p qo_104 (by decide +kernel)
theorem dX4_ill_212 : decode cX4_ill 212 = .ok (.iload_n 2, 1) := qd_p qo_28 (by decide +kernel)
theorem dX4_ill_213 : decode cX4_ill 213 = .ok (.iadd, 1) := qd_p qo_96 (by decide +kernel)
theorem dX4_ill_214 : decode cX4_ill 214 = .ok (.iaload, 1) := qd_p qo_46 (by decide +kernel)
theorem dX4_ill_215 : decode cX4_ill 215 = .ok (.imul, 1) := qd_p qo_104 (by decide +kernel)
theorem dX4_ill_216 : decode cX4_ill 216 = .ok (.iadd, 1) := qd_p qo_96 (by decide +kernel)
theorem dX4_ill_217 : decode cX4_ill 217 = .ok (.invokestatic 118, 3) := qz_2 .invokestatic 0 118 qo_184 (by decide +kernel) rfl
theorem dX4_ill_220 : decode cX4_ill 220 = .ok (.iastore, 1) := qd_p qo_79 (by decide +kernel)
theorem dX4_ill_221 : decode cX4_ill 221 = .ok (.lload 7, 2) := qz_1 .lload 7 qo_22 (by decide +kernel)
theorem dX4_ill_223 : decode cX4_ill 223 = .ok (.aload_n 0, 1) := qd_p qo_42 (by decide +kernel)
theorem dX4_ill_224 : decode cX4_ill 224 = .ok (.invokevirtual 122, 3) := qz_2 .invokevirtual 0 122 qo_182 (by decide +kernel) rfl
theorem dX4_ill_227 : decode cX4_ill 227 = .ok (.iload_n 1, 1) := qd_p qo_27 (by decide +kernel)
theorem dX4_ill_228 : decode cX4_ill 228 = .ok (.if_icmp .ne 8, 3) := qz_s2 (.if_icmp .ne) 0 8 qo_160 (by decide +kernel) rfl
theorem dX4_ill_231 : decode cX4_ill 231 = .ok (.lload 12, 2) := qz_1 .lload 12 qo_22 (by decide +kernel)
theorem dX4_ill_233 : decode cX4_ill 233 = .ok (.goto 4, 3) := qz_s2 .goto 0 4 qo_167 (by decide +kernel) rfl
theorem dX4_ill_236 : decode cX4_ill 236 = .ok (.lconst 0, 1) := qd_p qo_9 (by decide +kernel)
theorem dX4_ill_237 : decode cX4_ill 237 = .ok (.ladd, 1) := qd_p qo_97 (by decide +kernel)
theorem dX4_ill_238 : decode cX4_ill 238 = .ok (.lstore 7, 2) := qz_1 .lstore 7 qo_55 (by decide +kernel)
theorem dX4_ill_240 : decode cX4_ill 240 = .ok (.iinc 11 1, 3) := qd_i (x := 11) (y := 1) qo_132 (by decide +kernel) rfl
theorem dX4_ill_243 : decode cX4_ill 243 = .ok (.goto (-117), 3) := qz_s2 .goto 255 139 qo_167 (by decide +kernel) rfl
theorem dX4_ill_246 : decode cX4_ill 246 = .ok (.lload 7, 2) := qz_1 .lload 7 qo_22 (by decide +kernel)
theorem dX4_ill_248 : decode cX4_ill 248 = .ok (.lload 9, 2) := qz_1 .lload 9 qo_22 (by decide +kernel)
theorem dX4_ill_250 : decode cX4_ill 250 = .ok (.iload 5, 2) := qz_1 .iload 5 qo_21 (by decide +kernel)
theorem dX4_ill_252 : decode cX4_ill 252 = .ok (.invokestatic 272, 3) := qz_2 .invokestatic 1 16 qo_184 (by decide +kernel) rfl
theorem dX4_ill_255 : decode cX4_ill 255 = .ok (.lreturn, 1) := qd_p qo_173 (by decide +kernel)
theorem dX4_standing_0 : decode cX4_standing 0 = .ok (.iconst 0, 1) := qd_p qo_3 (by decide +kernel)
theorem dX4_standing_1 : decode cX4_standing 1 = .ok (.istore_n 2, 1) := qd_p qo_61 (by decide +kernel)
theorem dX4_standing_2 : decode cX4_standing 2 = .ok (.iconst 0, 1) := qd_p qo_3 (by decide +kernel)
theorem dX4_standing_3 : decode cX4_standing 3 = .ok (.istore_n 3, 1) := qd_p qo_62 (by decide +kernel)
theorem dX4_standing_4 : decode cX4_standing 4 = .ok (.iload_n 3, 1) := qd_p qo_29 (by decide +kernel)
theorem dX4_standing_5 : decode cX4_standing 5 = .ok (.aload_n 0, 1) := qd_p qo_42 (by decide +kernel)
theorem dX4_standing_6 : decode cX4_standing 6 = .ok (.getfield 74, 3) := qz_2 .getfield 0 74 qo_180 (by decide +kernel) rfl
theorem dX4_standing_9 : decode cX4_standing 9 = .ok (.if_icmp .ge 31, 3) := qz_s2 (.if_icmp .ge) 0 31 qo_162 (by decide +kernel) rfl
theorem dX4_standing_12 : decode cX4_standing 12 = .ok (.iload_n 2, 1) := qd_p qo_28 (by decide +kernel)
theorem dX4_standing_13 : decode cX4_standing 13 = .ok (.aload_n 0, 1) := qd_p qo_42 (by decide +kernel)
theorem dX4_standing_14 : decode cX4_standing 14 = .ok (.getfield 22, 3) := qz_2 .getfield 0 22 qo_180 (by decide +kernel) rfl
theorem dX4_standing_17 : decode cX4_standing 17 = .ok (.bipush 24, 2) := qz_s1 .bipush 24 qo_16 (by decide +kernel) rfl
theorem dX4_standing_19 : decode cX4_standing 19 = .ok (.iload_n 3, 1) := qd_p qo_29 (by decide +kernel)
theorem dX4_standing_20 : decode cX4_standing 20 = .ok (.imul, 1) := qd_p qo_104 (by decide +kernel)
theorem dX4_standing_21 : decode cX4_standing 21 = .ok (.iload_n 1, 1) := qd_p qo_27 (by decide +kernel)
theorem dX4_standing_22 : decode cX4_standing 22 = .ok (.iadd, 1) := qd_p qo_96 (by decide +kernel)
theorem dX4_standing_23 : decode cX4_standing 23 = .ok (.iaload, 1) := qd_p qo_46 (by decide +kernel)
theorem dX4_standing_24 : decode cX4_standing 24 = .ok (.ifCond .lt 7, 3) := qz_s2 (.ifCond .lt) 0 7 qo_155 (by decide +kernel) rfl
theorem dX4_standing_27 : decode cX4_standing 27 = .ok (.iconst 1, 1) := qd_p qo_4 (by decide +kernel)
theorem dX4_standing_28 : decode cX4_standing 28 = .ok (.goto 4, 3) := qz_s2 .goto 0 4 qo_167 (by decide +kernel) rfl
theorem dX4_standing_31 : decode cX4_standing 31 = .ok (.iconst 0, 1) := qd_p qo_3 (by decide +kernel)
theorem dX4_standing_32 : decode cX4_standing 32 = .ok (.iadd, 1) := qd_p qo_96 (by decide +kernel)
theorem dX4_standing_33 : decode cX4_standing 33 = .ok (.istore_n 2, 1) := qd_p qo_61 (by decide +kernel)
theorem dX4_standing_34 : decode cX4_standing 34 = .ok (.iinc 3 1, 3) := qd_i (x := 3) (y := 1) qo_132 (by decide +kernel) rfl
theorem dX4_standing_37 : decode cX4_standing 37 = .ok (.goto (-33), 3) := qz_s2 .goto 255 223 qo_167 (by decide +kernel) rfl
theorem dX4_standing_40 : decode cX4_standing 40 = .ok (.iload_n 2, 1) := qd_p qo_28 (by decide +kernel)
theorem dX4_standing_41 : decode cX4_standing 41 = .ok (.ireturn, 1) := qd_p qo_172 (by decide +kernel)
theorem dX4_busy_0 : decode cX4_busy 0 = .ok (.aload_n 0, 1) := qd_p qo_42 (by decide +kernel)
theorem dX4_busy_1 : decode cX4_busy 1 = .ok (.iconst 0, 1) := qd_p qo_3 (by decide +kernel)
theorem dX4_busy_2 : decode cX4_busy 2 = .ok (.putfield 70, 3) := qz_2 .putfield 0 70 qo_181 (by decide +kernel) rfl
theorem dX4_busy_5 : decode cX4_busy 5 = .ok (.iload_n 1, 1) := qd_p qo_27 (by decide +kernel)
theorem dX4_busy_6 : decode cX4_busy 6 = .ok (.i2l, 1) := qd_p qo_133 (by decide +kernel)
theorem dX4_busy_7 : decode cX4_busy 7 = .ok (.lconst 0, 1) := qd_p qo_9 (by decide +kernel)
theorem dX4_busy_8 : decode cX4_busy 8 = .ok (.lconst 1, 1) := qd_p qo_10 (by decide +kernel)
theorem dX4_busy_9 : decode cX4_busy 9 = .ok (.invokestatic 77, 3) := qz_2 .invokestatic 0 77 qo_184 (by decide +kernel) rfl
theorem dX4_busy_12 : decode cX4_busy 12 = .ok (.ifCond .ne 10, 3) := qz_s2 (.ifCond .ne) 0 10 qo_154 (by decide +kernel) rfl
theorem dX4_busy_15 : decode cX4_busy 15 = .ok (.aload_n 0, 1) := qd_p qo_42 (by decide +kernel)
theorem dX4_busy_16 : decode cX4_busy 16 = .ok (.bipush (-2), 2) := qz_s1 .bipush 254 qo_16 (by decide +kernel) rfl
theorem dX4_busy_18 : decode cX4_busy 18 = .ok (.invokevirtual 143, 3) := qz_2 .invokevirtual 0 143 qo_182 (by decide +kernel) rfl
theorem dX4_busy_21 : decode cX4_busy 21 = .ok (.ireturn, 1) := qd_p qo_172 (by decide +kernel)
theorem dX4_busy_22 : decode cX4_busy 22 = .ok (.iconst 0, 1) := qd_p qo_3 (by decide +kernel)
theorem dX4_busy_23 : decode cX4_busy 23 = .ok (.istore_n 2, 1) := qd_p qo_61 (by decide +kernel)
theorem dX4_busy_24 : decode cX4_busy 24 = .ok (.iconst 1, 1) := qd_p qo_4 (by decide +kernel)
theorem dX4_busy_25 : decode cX4_busy 25 = .ok (.istore_n 3, 1) := qd_p qo_62 (by decide +kernel)
theorem dX4_busy_26 : decode cX4_busy 26 = .ok (.iload_n 3, 1) := qd_p qo_29 (by decide +kernel)
theorem dX4_busy_27 : decode cX4_busy 27 = .ok (.bipush 24, 2) := qz_s1 .bipush 24 qo_16 (by decide +kernel) rfl
theorem dX4_busy_29 : decode cX4_busy 29 = .ok (.if_icmp .ge 28, 3) := qz_s2 (.if_icmp .ge) 0 28 qo_162 (by decide +kernel) rfl
theorem dX4_busy_32 : decode cX4_busy 32 = .ok (.aload_n 0, 1) := qd_p qo_42 (by decide +kernel)
theorem dX4_busy_33 : decode cX4_busy 33 = .ok (.iload_n 3, 1) := qd_p qo_29 (by decide +kernel)
theorem dX4_busy_34 : decode cX4_busy 34 = .ok (.invokevirtual 285, 3) := qz_2 .invokevirtual 1 29 qo_182 (by decide +kernel) rfl
theorem dX4_busy_37 : decode cX4_busy 37 = .ok (.aload_n 0, 1) := qd_p qo_42 (by decide +kernel)
theorem dX4_busy_38 : decode cX4_busy 38 = .ok (.iload_n 2, 1) := qd_p qo_28 (by decide +kernel)
theorem dX4_busy_39 : decode cX4_busy 39 = .ok (.invokevirtual 285, 3) := qz_2 .invokevirtual 1 29 qo_182 (by decide +kernel) rfl
theorem dX4_busy_42 : decode cX4_busy 42 = .ok (.if_icmp .le 7, 3) := qz_s2 (.if_icmp .le) 0 7 qo_164 (by decide +kernel) rfl
theorem dX4_busy_45 : decode cX4_busy 45 = .ok (.iload_n 3, 1) := qd_p qo_29 (by decide +kernel)
theorem dX4_busy_46 : decode cX4_busy 46 = .ok (.goto 4, 3) := qz_s2 .goto 0 4 qo_167 (by decide +kernel) rfl
theorem dX4_busy_49 : decode cX4_busy 49 = .ok (.iload_n 2, 1) := qd_p qo_28 (by decide +kernel)
theorem dX4_busy_50 : decode cX4_busy 50 = .ok (.istore_n 2, 1) := qd_p qo_61 (by decide +kernel)
theorem dX4_busy_51 : decode cX4_busy 51 = .ok (.iinc 3 1, 3) := qd_i (x := 3) (y := 1) qo_132 (by decide +kernel) rfl
theorem dX4_busy_54 : decode cX4_busy 54 = .ok (.goto (-28), 3) := qz_s2 .goto 255 228 qo_167 (by decide +kernel) rfl
theorem dX4_busy_57 : decode cX4_busy 57 = .ok (.iload_n 1, 1) := qd_p qo_27 (by decide +kernel)
theorem dX4_busy_58 : decode cX4_busy 58 = .ok (.ifCond .ne 7, 3) := qz_s2 (.ifCond .ne) 0 7 qo_154 (by decide +kernel) rfl
theorem dX4_busy_61 : decode cX4_busy 61 = .ok (.iload_n 2, 1) := qd_p qo_28 (by decide +kernel)
theorem dX4_busy_62 : decode cX4_busy 62 = .ok (.goto 8, 3) := qz_s2 .goto 0 8 qo_167 (by decide +kernel) rfl
theorem dX4_busy_65 : decode cX4_busy 65 = .ok (.aload_n 0, 1) := qd_p qo_42 (by decide +kernel)
theorem dX4_busy_66 : decode cX4_busy 66 = .ok (.iload_n 2, 1) := qd_p qo_28 (by decide +kernel)
theorem dX4_busy_67 : decode cX4_busy 67 = .ok (.invokevirtual 285, 3) := qz_2 .invokevirtual 1 29 qo_182 (by decide +kernel) rfl
theorem dX4_busy_70 : decode cX4_busy 70 = .ok (.ireturn, 1) := qd_p qo_172 (by decide +kernel)
theorem dX4_together_0 : decode cX4_together 0 = .ok (.aload_n 0, 1) := qd_p qo_42 (by decide +kernel)
theorem dX4_together_1 : decode cX4_together 1 = .ok (.iconst 0, 1) := qd_p qo_3 (by decide +kernel)
theorem dX4_together_2 : decode cX4_together 2 = .ok (.putfield 70, 3) := qz_2 .putfield 0 70 qo_181 (by decide +kernel) rfl
theorem dX4_together_5 : decode cX4_together 5 = .ok (.aload_n 0, 1) := qd_p qo_42 (by decide +kernel)
theorem dX4_together_6 : decode cX4_together 6 = .ok (.iload_n 1, 1) := qd_p qo_27 (by decide +kernel)
theorem dX4_together_7 : decode cX4_together 7 = .ok (.iload_n 2, 1) := qd_p qo_28 (by decide +kernel)
theorem dX4_together_8 : decode cX4_together 8 = .ok (.invokevirtual 257, 3) := qz_2 .invokevirtual 1 1 qo_182 (by decide +kernel) rfl
theorem dX4_together_11 : decode cX4_together 11 = .ok (.ifCond .ne 9, 3) := qz_s2 (.ifCond .ne) 0 9 qo_154 (by decide +kernel) rfl
theorem dX4_together_14 : decode cX4_together 14 = .ok (.aload_n 0, 1) := qd_p qo_42 (by decide +kernel)
theorem dX4_together_15 : decode cX4_together 15 = .ok (.iconst (-1), 1) := qd_p qo_2 (by decide +kernel)
theorem dX4_together_16 : decode cX4_together 16 = .ok (.invokevirtual 143, 3) := qz_2 .invokevirtual 0 143 qo_182 (by decide +kernel) rfl
theorem dX4_together_19 : decode cX4_together 19 = .ok (.ireturn, 1) := qd_p qo_172 (by decide +kernel)
theorem dX4_together_20 : decode cX4_together 20 = .ok (.iconst 0, 1) := qd_p qo_3 (by decide +kernel)
theorem dX4_together_21 : decode cX4_together 21 = .ok (.istore_n 3, 1) := qd_p qo_62 (by decide +kernel)
theorem dX4_together_22 : decode cX4_together 22 = .ok (.iconst 0, 1) := qd_p qo_3 (by decide +kernel)
theorem dX4_together_23 : decode cX4_together 23 = .ok (.istore 4, 2) := qz_1 .istore 4 qo_54 (by decide +kernel)
theorem dX4_together_25 : decode cX4_together 25 = .ok (.iload 4, 2) := qz_1 .iload 4 qo_21 (by decide +kernel)
theorem dX4_together_27 : decode cX4_together 27 = .ok (.bipush 24, 2) := qz_s1 .bipush 24 qo_16 (by decide +kernel) rfl
theorem dX4_together_29 : decode cX4_together 29 = .ok (.if_icmp .ge 56, 3) := qz_s2 (.if_icmp .ge) 0 56 qo_162 (by decide +kernel) rfl
theorem dX4_together_32 : decode cX4_together 32 = .ok (.aload_n 0, 1) := qd_p qo_42 (by decide +kernel)
theorem dX4_together_33 : decode cX4_together 33 = .ok (.getfield 22, 3) := qz_2 .getfield 0 22 qo_180 (by decide +kernel) rfl
theorem dX4_together_36 : decode cX4_together 36 = .ok (.bipush 24, 2) := qz_s1 .bipush 24 qo_16 (by decide +kernel) rfl
theorem dX4_together_38 : decode cX4_together 38 = .ok (.iload_n 1, 1) := qd_p qo_27 (by decide +kernel)
theorem dX4_together_39 : decode cX4_together 39 = .ok (.imul, 1) := qd_p qo_104 (by decide +kernel)
theorem dX4_together_40 : decode cX4_together 40 = .ok (.iload 4, 2) := qz_1 .iload 4 qo_21 (by decide +kernel)
theorem dX4_together_42 : decode cX4_together 42 = .ok (.iadd, 1) := qd_p qo_96 (by decide +kernel)
theorem dX4_together_43 : decode cX4_together 43 = .ok (.iaload, 1) := qd_p qo_46 (by decide +kernel)
theorem dX4_together_44 : decode cX4_together 44 = .ok (.istore 5, 2) := qz_1 .istore 5 qo_54 (by decide +kernel)
theorem dX4_together_46 : decode cX4_together 46 = .ok (.iload_n 3, 1) := qd_p qo_29 (by decide +kernel)
theorem dX4_together_47 : decode cX4_together 47 = .ok (.iload 5, 2) := qz_1 .iload 5 qo_21 (by decide +kernel)
theorem dX4_together_49 : decode cX4_together 49 = .ok (.ifCond .lt 27, 3) := qz_s2 (.ifCond .lt) 0 27 qo_155 (by decide +kernel) rfl
theorem dX4_together_52 : decode cX4_together 52 = .ok (.iload 5, 2) := qz_1 .iload 5 qo_21 (by decide +kernel)
theorem dX4_together_54 : decode cX4_together 54 = .ok (.aload_n 0, 1) := qd_p qo_42 (by decide +kernel)
theorem dX4_together_55 : decode cX4_together 55 = .ok (.getfield 22, 3) := qz_2 .getfield 0 22 qo_180 (by decide +kernel) rfl
theorem dX4_together_58 : decode cX4_together 58 = .ok (.bipush 24, 2) := qz_s1 .bipush 24 qo_16 (by decide +kernel) rfl
theorem dX4_together_60 : decode cX4_together 60 = .ok (.iload_n 2, 1) := qd_p qo_28 (by decide +kernel)
theorem dX4_together_61 : decode cX4_together 61 = .ok (.imul, 1) := qd_p qo_104 (by decide +kernel)
theorem dX4_together_62 : decode cX4_together 62 = .ok (.iload 4, 2) := qz_1 .iload 4 qo_21 (by decide +kernel)
theorem dX4_together_64 : decode cX4_together 64 = .ok (.iadd, 1) := qd_p qo_96 (by decide +kernel)
theorem dX4_together_65 : decode cX4_together 65 = .ok (.iaload, 1) := qd_p qo_46 (by decide +kernel)
theorem dX4_together_66 : decode cX4_together 66 = .ok (.if_icmp .ne 10, 3) := qz_s2 (.if_icmp .ne) 0 10 qo_160 (by decide +kernel) rfl
theorem dX4_together_69 : decode cX4_together 69 = .ok (.iconst 1, 1) := qd_p qo_4 (by decide +kernel)
theorem dX4_together_70 : decode cX4_together 70 = .ok (.iload 4, 2) := qz_1 .iload 4 qo_21 (by decide +kernel)
theorem dX4_together_72 : decode cX4_together 72 = .ok (.ishl, 1) := qd_p qo_120 (by decide +kernel)
theorem dX4_together_73 : decode cX4_together 73 = .ok (.goto 4, 3) := qz_s2 .goto 0 4 qo_167 (by decide +kernel) rfl
theorem dX4_together_76 : decode cX4_together 76 = .ok (.iconst 0, 1) := qd_p qo_3 (by decide +kernel)
theorem dX4_together_77 : decode cX4_together 77 = .ok (.ior, 1) := qd_p qo_128 (by decide +kernel)
theorem dX4_together_78 : decode cX4_together 78 = .ok (.istore_n 3, 1) := qd_p qo_62 (by decide +kernel)
theorem dX4_together_79 : decode cX4_together 79 = .ok (.iinc 4 1, 3) := qd_i (x := 4) (y := 1) qo_132 (by decide +kernel) rfl
theorem dX4_together_82 : decode cX4_together 82 = .ok (.goto (-57), 3) := qz_s2 .goto 255 199 qo_167 (by decide +kernel) rfl
theorem dX4_together_85 : decode cX4_together 85 = .ok (.iload_n 3, 1) := qd_p qo_29 (by decide +kernel)
theorem dX4_together_86 : decode cX4_together 86 = .ok (.ireturn, 1) := qd_p qo_172 (by decide +kernel)
theorem dX4_swapRosters_0 : decode cX4_swapRosters 0 = .ok (.iconst 0, 1) := qd_p qo_3 (by decide +kernel)
theorem dX4_swapRosters_1 : decode cX4_swapRosters 1 = .ok (.istore_n 3, 1) := qd_p qo_62 (by decide +kernel)
theorem dX4_swapRosters_2 : decode cX4_swapRosters 2 = .ok (.iload_n 3, 1) := qd_p qo_29 (by decide +kernel)
theorem dX4_swapRosters_3 : decode cX4_swapRosters 3 = .ok (.bipush 24, 2) := qz_s1 .bipush 24 qo_16 (by decide +kernel) rfl
theorem dX4_swapRosters_5 : decode cX4_swapRosters 5 = .ok (.if_icmp .ge 57, 3) := qz_s2 (.if_icmp .ge) 0 57 qo_162 (by decide +kernel) rfl
theorem dX4_swapRosters_8 : decode cX4_swapRosters 8 = .ok (.aload_n 0, 1) := qd_p qo_42 (by decide +kernel)
theorem dX4_swapRosters_9 : decode cX4_swapRosters 9 = .ok (.getfield 22, 3) := qz_2 .getfield 0 22 qo_180 (by decide +kernel) rfl
theorem dX4_swapRosters_12 : decode cX4_swapRosters 12 = .ok (.bipush 24, 2) := qz_s1 .bipush 24 qo_16 (by decide +kernel) rfl
theorem dX4_swapRosters_14 : decode cX4_swapRosters 14 = .ok (.iload_n 1, 1) := qd_p qo_27 (by decide +kernel)
theorem dX4_swapRosters_15 : decode cX4_swapRosters 15 = .ok (.imul, 1) := qd_p qo_104 (by decide +kernel)
theorem dX4_swapRosters_16 : decode cX4_swapRosters 16 = .ok (.iload_n 3, 1) := qd_p qo_29 (by decide +kernel)
theorem dX4_swapRosters_17 : decode cX4_swapRosters 17 = .ok (.iadd, 1) := qd_p qo_96 (by decide +kernel)
theorem dX4_swapRosters_18 : decode cX4_swapRosters 18 = .ok (.iaload, 1) := qd_p qo_46 (by decide +kernel)
theorem dX4_swapRosters_19 : decode cX4_swapRosters 19 = .ok (.istore 4, 2) := qz_1 .istore 4 qo_54 (by decide +kernel)
theorem dX4_swapRosters_21 : decode cX4_swapRosters 21 = .ok (.aload_n 0, 1) := qd_p qo_42 (by decide +kernel)
theorem dX4_swapRosters_22 : decode cX4_swapRosters 22 = .ok (.getfield 22, 3) := qz_2 .getfield 0 22 qo_180 (by decide +kernel) rfl
theorem dX4_swapRosters_25 : decode cX4_swapRosters 25 = .ok (.bipush 24, 2) := qz_s1 .bipush 24 qo_16 (by decide +kernel) rfl
theorem dX4_swapRosters_27 : decode cX4_swapRosters 27 = .ok (.iload_n 1, 1) := qd_p qo_27 (by decide +kernel)
theorem dX4_swapRosters_28 : decode cX4_swapRosters 28 = .ok (.imul, 1) := qd_p qo_104 (by decide +kernel)
theorem dX4_swapRosters_29 : decode cX4_swapRosters 29 = .ok (.iload_n 3, 1) := qd_p qo_29 (by decide +kernel)
theorem dX4_swapRosters_30 : decode cX4_swapRosters 30 = .ok (.iadd, 1) := qd_p qo_96 (by decide +kernel)
theorem dX4_swapRosters_31 : decode cX4_swapRosters 31 = .ok (.aload_n 0, 1) := qd_p qo_42 (by decide +kernel)
theorem dX4_swapRosters_32 : decode cX4_swapRosters 32 = .ok (.getfield 22, 3) := qz_2 .getfield 0 22 qo_180 (by decide +kernel) rfl
theorem dX4_swapRosters_35 : decode cX4_swapRosters 35 = .ok (.bipush 24, 2) := qz_s1 .bipush 24 qo_16 (by decide +kernel) rfl
theorem dX4_swapRosters_37 : decode cX4_swapRosters 37 = .ok (.iload_n 2, 1) := qd_p qo_28 (by decide +kernel)
theorem dX4_swapRosters_38 : decode cX4_swapRosters 38 = .ok (.imul, 1) := qd_p qo_104 (by decide +kernel)
theorem dX4_swapRosters_39 : decode cX4_swapRosters 39 = .ok (.iload_n 3, 1) := qd_p qo_29 (by decide +kernel)
theorem dX4_swapRosters_40 : decode cX4_swapRosters 40 = .ok (.iadd, 1) := qd_p qo_96 (by decide +kernel)
theorem dX4_swapRosters_41 : decode cX4_swapRosters 41 = .ok (.iaload, 1) := qd_p qo_46 (by decide +kernel)
theorem dX4_swapRosters_42 : decode cX4_swapRosters 42 = .ok (.iastore, 1) := qd_p qo_79 (by decide +kernel)
theorem dX4_swapRosters_43 : decode cX4_swapRosters 43 = .ok (.aload_n 0, 1) := qd_p qo_42 (by decide +kernel)
theorem dX4_swapRosters_44 : decode cX4_swapRosters 44 = .ok (.getfield 22, 3) := qz_2 .getfield 0 22 qo_180 (by decide +kernel) rfl
theorem dX4_swapRosters_47 : decode cX4_swapRosters 47 = .ok (.bipush 24, 2) := qz_s1 .bipush 24 qo_16 (by decide +kernel) rfl
theorem dX4_swapRosters_49 : decode cX4_swapRosters 49 = .ok (.iload_n 2, 1) := qd_p qo_28 (by decide +kernel)
theorem dX4_swapRosters_50 : decode cX4_swapRosters 50 = .ok (.imul, 1) := qd_p qo_104 (by decide +kernel)
theorem dX4_swapRosters_51 : decode cX4_swapRosters 51 = .ok (.iload_n 3, 1) := qd_p qo_29 (by decide +kernel)
theorem dX4_swapRosters_52 : decode cX4_swapRosters 52 = .ok (.iadd, 1) := qd_p qo_96 (by decide +kernel)
theorem dX4_swapRosters_53 : decode cX4_swapRosters 53 = .ok (.iload 4, 2) := qz_1 .iload 4 qo_21 (by decide +kernel)
theorem dX4_swapRosters_55 : decode cX4_swapRosters 55 = .ok (.iastore, 1) := qd_p qo_79 (by decide +kernel)
theorem dX4_swapRosters_56 : decode cX4_swapRosters 56 = .ok (.iinc 3 1, 3) := qd_i (x := 3) (y := 1) qo_132 (by decide +kernel) rfl
theorem dX4_swapRosters_59 : decode cX4_swapRosters 59 = .ok (.goto (-57), 3) := qz_s2 .goto 255 199 qo_167 (by decide +kernel) rfl
theorem dX4_swapRosters_62 : decode cX4_swapRosters 62 = .ok (.return_, 1) := qd_p qo_177 (by decide +kernel)
theorem dX4_swap_0 : decode cX4_swap 0 = .ok (.aload_n 0, 1) := qd_p qo_42 (by decide +kernel)
theorem dX4_swap_1 : decode cX4_swap 1 = .ok (.iconst 0, 1) := qd_p qo_3 (by decide +kernel)
theorem dX4_swap_2 : decode cX4_swap 2 = .ok (.putfield 70, 3) := qz_2 .putfield 0 70 qo_181 (by decide +kernel) rfl
theorem dX4_swap_5 : decode cX4_swap 5 = .ok (.iload_n 1, 1) := qd_p qo_27 (by decide +kernel)
theorem dX4_swap_6 : decode cX4_swap 6 = .ok (.iconst 0, 1) := qd_p qo_3 (by decide +kernel)
theorem dX4_swap_7 : decode cX4_swap 7 = .ok (.sipush 999, 3) := qz_s2 .sipush 3 231 qo_17 (by decide +kernel) rfl
theorem dX4_swap_10 : decode cX4_swap 10 = .ok (.invokestatic 231, 3) := qz_2 .invokestatic 0 231 qo_184 (by decide +kernel) rfl
theorem dX4_swap_13 : decode cX4_swap 13 = .ok (.ifCond .ge 16, 3) := qz_s2 (.ifCond .ge) 0 16 qo_156 (by decide +kernel) rfl
theorem dX4_swap_16 : decode cX4_swap 16 = .ok (.aload_n 0, 1) := qd_p qo_42 (by decide +kernel)
theorem dX4_swap_17 : decode cX4_swap 17 = .ok (.iload_n 1, 1) := qd_p qo_27 (by decide +kernel)
theorem dX4_swap_18 : decode cX4_swap 18 = .ok (.iconst 0, 1) := qd_p qo_3 (by decide +kernel)
theorem dX4_swap_19 : decode cX4_swap 19 = .ok (.sipush 999, 3) := qz_s2 .sipush 3 231 qo_17 (by decide +kernel) rfl
theorem dX4_swap_22 : decode cX4_swap 22 = .ok (.invokestatic 231, 3) := qz_2 .invokestatic 0 231 qo_184 (by decide +kernel) rfl
theorem dX4_swap_25 : decode cX4_swap 25 = .ok (.invokevirtual 143, 3) := qz_2 .invokevirtual 0 143 qo_182 (by decide +kernel) rfl
theorem dX4_swap_28 : decode cX4_swap 28 = .ok (.ireturn, 1) := qd_p qo_172 (by decide +kernel)
theorem dX4_swap_29 : decode cX4_swap 29 = .ok (.bipush (-9), 2) := qz_s1 .bipush 247 qo_16 (by decide +kernel) rfl
theorem dX4_swap_31 : decode cX4_swap 31 = .ok (.istore_n 2, 1) := qd_p qo_61 (by decide +kernel)
theorem dX4_swap_32 : decode cX4_swap 32 = .ok (.iconst (-1), 1) := qd_p qo_2 (by decide +kernel)
theorem dX4_swap_33 : decode cX4_swap 33 = .ok (.istore_n 3, 1) := qd_p qo_62 (by decide +kernel)
theorem dX4_swap_34 : decode cX4_swap 34 = .ok (.iconst 0, 1) := qd_p qo_3 (by decide +kernel)
theorem dX4_swap_35 : decode cX4_swap 35 = .ok (.istore 4, 2) := qz_1 .istore 4 qo_54 (by decide +kernel)
theorem dX4_swap_37 : decode cX4_swap 37 = .ok (.iload 4, 2) := qz_1 .iload 4 qo_21 (by decide +kernel)
theorem dX4_swap_39 : decode cX4_swap 39 = .ok (.aload_n 0, 1) := qd_p qo_42 (by decide +kernel)
theorem dX4_swap_40 : decode cX4_swap 40 = .ok (.getfield 74, 3) := qz_2 .getfield 0 74 qo_180 (by decide +kernel) rfl
theorem dX4_swap_43 : decode cX4_swap 43 = .ok (.if_icmp .ge 130, 3) := qz_s2 (.if_icmp .ge) 0 130 qo_162 (by decide +kernel) rfl
theorem dX4_swap_46 : decode cX4_swap 46 = .ok (.iload 4, 2) := qz_1 .iload 4 qo_21 (by decide +kernel)
theorem dX4_swap_48 : decode cX4_swap 48 = .ok (.iconst 1, 1) := qd_p qo_4 (by decide +kernel)
theorem dX4_swap_49 : decode cX4_swap 49 = .ok (.iadd, 1) := qd_p qo_96 (by decide +kernel)
theorem dX4_swap_50 : decode cX4_swap 50 = .ok (.istore 5, 2) := qz_1 .istore 5 qo_54 (by decide +kernel)
theorem dX4_swap_52 : decode cX4_swap 52 = .ok (.iload 5, 2) := qz_1 .iload 5 qo_21 (by decide +kernel)
theorem dX4_swap_54 : decode cX4_swap 54 = .ok (.aload_n 0, 1) := qd_p qo_42 (by decide +kernel)
theorem dX4_swap_55 : decode cX4_swap 55 = .ok (.getfield 74, 3) := qz_2 .getfield 0 74 qo_180 (by decide +kernel) rfl
theorem dX4_swap_58 : decode cX4_swap 58 = .ok (.if_icmp .ge 109, 3) := qz_s2 (.if_icmp .ge) 0 109 qo_162 (by decide +kernel) rfl
theorem dX4_swap_61 : decode cX4_swap 61 = .ok (.aload_n 0, 1) := qd_p qo_42 (by decide +kernel)
theorem dX4_swap_62 : decode cX4_swap 62 = .ok (.iload 4, 2) := qz_1 .iload 4 qo_21 (by decide +kernel)
theorem dX4_swap_64 : decode cX4_swap 64 = .ok (.iload_n 1, 1) := qd_p qo_27 (by decide +kernel)
theorem dX4_swap_65 : decode cX4_swap 65 = .ok (.invokevirtual 260, 3) := qz_2 .invokevirtual 1 4 qo_182 (by decide +kernel) rfl
theorem dX4_swap_68 : decode cX4_swap 68 = .ok (.aload_n 0, 1) := qd_p qo_42 (by decide +kernel)
theorem dX4_swap_69 : decode cX4_swap 69 = .ok (.iload 5, 2) := qz_1 .iload 5 qo_21 (by decide +kernel)
theorem dX4_swap_71 : decode cX4_swap 71 = .ok (.iload_n 1, 1) := qd_p qo_27 (by decide +kernel)
theorem dX4_swap_72 : decode cX4_swap 72 = .ok (.invokevirtual 137, 3) := qz_2 .invokevirtual 0 137 qo_182 (by decide +kernel) rfl
theorem dX4_swap_75 : decode cX4_swap 75 = .ok (.iadd, 1) := qd_p qo_96 (by decide +kernel)
theorem dX4_swap_76 : decode cX4_swap 76 = .ok (.istore 6, 2) := qz_1 .istore 6 qo_54 (by decide +kernel)
theorem dX4_swap_78 : decode cX4_swap 78 = .ok (.aload_n 0, 1) := qd_p qo_42 (by decide +kernel)
theorem dX4_swap_79 : decode cX4_swap 79 = .ok (.iload 4, 2) := qz_1 .iload 4 qo_21 (by decide +kernel)
theorem dX4_swap_81 : decode cX4_swap 81 = .ok (.iload 5, 2) := qz_1 .iload 5 qo_21 (by decide +kernel)
theorem dX4_swap_83 : decode cX4_swap 83 = .ok (.invokevirtual 288, 3) := qz_2 .invokevirtual 1 32 qo_182 (by decide +kernel) rfl
theorem dX4_swap_86 : decode cX4_swap 86 = .ok (.aload_n 0, 1) := qd_p qo_42 (by decide +kernel)
theorem dX4_swap_87 : decode cX4_swap 87 = .ok (.iload 4, 2) := qz_1 .iload 4 qo_21 (by decide +kernel)
theorem dX4_swap_89 : decode cX4_swap 89 = .ok (.iload_n 1, 1) := qd_p qo_27 (by decide +kernel)
theorem dX4_swap_90 : decode cX4_swap 90 = .ok (.invokevirtual 260, 3) := qz_2 .invokevirtual 1 4 qo_182 (by decide +kernel) rfl
theorem dX4_swap_93 : decode cX4_swap 93 = .ok (.aload_n 0, 1) := qd_p qo_42 (by decide +kernel)
theorem dX4_swap_94 : decode cX4_swap 94 = .ok (.iload 5, 2) := qz_1 .iload 5 qo_21 (by decide +kernel)
theorem dX4_swap_96 : decode cX4_swap 96 = .ok (.iload_n 1, 1) := qd_p qo_27 (by decide +kernel)
theorem dX4_swap_97 : decode cX4_swap 97 = .ok (.invokevirtual 137, 3) := qz_2 .invokevirtual 0 137 qo_182 (by decide +kernel) rfl
theorem dX4_swap_100 : decode cX4_swap 100 = .ok (.iadd, 1) := qd_p qo_96 (by decide +kernel)
theorem dX4_swap_101 : decode cX4_swap 101 = .ok (.istore 7, 2) := qz_1 .istore 7 qo_54 (by decide +kernel)
theorem dX4_swap_103 : decode cX4_swap 103 = .ok (.aload_n 0, 1) := qd_p qo_42 (by decide +kernel)
theorem dX4_swap_104 : decode cX4_swap 104 = .ok (.iload 4, 2) := qz_1 .iload 4 qo_21 (by decide +kernel)
theorem dX4_swap_106 : decode cX4_swap 106 = .ok (.iload 5, 2) := qz_1 .iload 5 qo_21 (by decide +kernel)
theorem dX4_swap_108 : decode cX4_swap 108 = .ok (.invokevirtual 288, 3) := qz_2 .invokevirtual 1 32 qo_182 (by decide +kernel) rfl
theorem dX4_swap_111 : decode cX4_swap 111 = .ok (.iload 7, 2) := qz_1 .iload 7 qo_21 (by decide +kernel)
theorem dX4_swap_113 : decode cX4_swap 113 = .ok (.iload 6, 2) := qz_1 .iload 6 qo_21 (by decide +kernel)
theorem dX4_swap_115 : decode cX4_swap 115 = .ok (.if_icmp .le 13, 3) := qz_s2 (.if_icmp .le) 0 13 qo_164 (by decide +kernel) rfl
theorem dX4_swap_118 : decode cX4_swap 118 = .ok (.iload 7, 2) := qz_1 .iload 7 qo_21 (by decide +kernel)
theorem dX4_swap_120 : decode cX4_swap 120 = .ok (.iload_n 3, 1) := qd_p qo_29 (by decide +kernel)
theorem dX4_swap_121 : decode cX4_swap 121 = .ok (.if_icmp .le 7, 3) := qz_s2 (.if_icmp .le) 0 7 qo_164 (by decide +kernel) rfl
theorem dX4_swap_124 : decode cX4_swap 124 = .ok (.iconst 1, 1) := qd_p qo_4 (by decide +kernel)
theorem dX4_swap_125 : decode cX4_swap 125 = .ok (.goto 4, 3) := qz_s2 .goto 0 4 qo_167 (by decide +kernel) rfl
theorem dX4_swap_128 : decode cX4_swap 128 = .ok (.iconst 0, 1) := qd_p qo_3 (by decide +kernel)
theorem dX4_swap_129 : decode cX4_swap 129 = .ok (.istore 8, 2) := qz_1 .istore 8 qo_54 (by decide +kernel)
theorem dX4_swap_131 : decode cX4_swap 131 = .ok (.iload 8, 2) := qz_1 .iload 8 qo_21 (by decide +kernel)
theorem dX4_swap_133 : decode cX4_swap 133 = .ok (.ifCond .eq 14, 3) := qz_s2 (.ifCond .eq) 0 14 qo_153 (by decide +kernel) rfl
theorem dX4_swap_136 : decode cX4_swap 136 = .ok (.bipush 10, 2) := qz_s1 .bipush 10 qo_16 (by decide +kernel) rfl
theorem dX4_swap_138 : decode cX4_swap 138 = .ok (.iload 4, 2) := qz_1 .iload 4 qo_21 (by decide +kernel)
theorem dX4_swap_140 : decode cX4_swap 140 = .ok (.imul, 1) := qd_p qo_104 (by decide +kernel)
theorem dX4_swap_141 : decode cX4_swap 141 = .ok (.iload 5, 2) := qz_1 .iload 5 qo_21 (by decide +kernel)
theorem dX4_swap_143 : decode cX4_swap 143 = .ok (.iadd, 1) := qd_p qo_96 (by decide +kernel)
theorem dX4_swap_144 : decode cX4_swap 144 = .ok (.goto 4, 3) := qz_s2 .goto 0 4 qo_167 (by decide +kernel) rfl
theorem dX4_swap_147 : decode cX4_swap 147 = .ok (.iload_n 2, 1) := qd_p qo_28 (by decide +kernel)
theorem dX4_swap_148 : decode cX4_swap 148 = .ok (.istore_n 2, 1) := qd_p qo_61 (by decide +kernel)
theorem dX4_swap_149 : decode cX4_swap 149 = .ok (.iload 8, 2) := qz_1 .iload 8 qo_21 (by decide +kernel)
theorem dX4_swap_151 : decode cX4_swap 151 = .ok (.ifCond .eq 8, 3) := qz_s2 (.ifCond .eq) 0 8 qo_153 (by decide +kernel) rfl
theorem dX4_swap_154 : decode cX4_swap 154 = .ok (.iload 7, 2) := qz_1 .iload 7 qo_21 (by decide +kernel)
theorem dX4_swap_156 : decode cX4_swap 156 = .ok (.goto 4, 3) := qz_s2 .goto 0 4 qo_167 (by decide +kernel) rfl
theorem dX4_swap_159 : decode cX4_swap 159 = .ok (.iload_n 3, 1) := qd_p qo_29 (by decide +kernel)
theorem dX4_swap_160 : decode cX4_swap 160 = .ok (.istore_n 3, 1) := qd_p qo_62 (by decide +kernel)
theorem dX4_swap_161 : decode cX4_swap 161 = .ok (.iinc 5 1, 3) := qd_i (x := 5) (y := 1) qo_132 (by decide +kernel) rfl
theorem dX4_swap_164 : decode cX4_swap 164 = .ok (.goto (-112), 3) := qz_s2 .goto 255 144 qo_167 (by decide +kernel) rfl
theorem dX4_swap_167 : decode cX4_swap 167 = .ok (.iinc 4 1, 3) := qd_i (x := 4) (y := 1) qo_132 (by decide +kernel) rfl
theorem dX4_swap_170 : decode cX4_swap 170 = .ok (.goto (-133), 3) := qz_s2 .goto 255 123 qo_167 (by decide +kernel) rfl
theorem dX4_swap_173 : decode cX4_swap 173 = .ok (.iload_n 2, 1) := qd_p qo_28 (by decide +kernel)
theorem dX4_swap_174 : decode cX4_swap 174 = .ok (.ireturn, 1) := qd_p qo_172 (by decide +kernel)
theorem dX4_heir_0 : decode cX4_heir 0 = .ok (.aload_n 0, 1) := qd_p qo_42 (by decide +kernel)
theorem dX4_heir_1 : decode cX4_heir 1 = .ok (.iconst 0, 1) := qd_p qo_3 (by decide +kernel)
theorem dX4_heir_2 : decode cX4_heir 2 = .ok (.putfield 70, 3) := qz_2 .putfield 0 70 qo_181 (by decide +kernel) rfl
theorem dX4_heir_5 : decode cX4_heir 5 = .ok (.aload_n 0, 1) := qd_p qo_42 (by decide +kernel)
theorem dX4_heir_6 : decode cX4_heir 6 = .ok (.iload_n 1, 1) := qd_p qo_27 (by decide +kernel)
theorem dX4_heir_7 : decode cX4_heir 7 = .ok (.invokevirtual 88, 3) := qz_2 .invokevirtual 0 88 qo_182 (by decide +kernel) rfl
theorem dX4_heir_10 : decode cX4_heir 10 = .ok (.ifCond .eq 21, 3) := qz_s2 (.ifCond .eq) 0 21 qo_153 (by decide +kernel) rfl
theorem dX4_heir_13 : decode cX4_heir 13 = .ok (.iload_n 2, 1) := qd_p qo_28 (by decide +kernel)
theorem dX4_heir_14 : decode cX4_heir 14 = .ok (.invokestatic 243, 3) := qz_2 .invokestatic 0 243 qo_184 (by decide +kernel) rfl
theorem dX4_heir_17 : decode cX4_heir 17 = .ok (.ifCond .eq 14, 3) := qz_s2 (.ifCond .eq) 0 14 qo_153 (by decide +kernel) rfl
theorem dX4_heir_20 : decode cX4_heir 20 = .ok (.iload_n 3, 1) := qd_p qo_29 (by decide +kernel)
theorem dX4_heir_21 : decode cX4_heir 21 = .ok (.iconst 0, 1) := qd_p qo_3 (by decide +kernel)
theorem dX4_heir_22 : decode cX4_heir 22 = .ok (.sipush 999, 3) := qz_s2 .sipush 3 231 qo_17 (by decide +kernel) rfl
theorem dX4_heir_25 : decode cX4_heir 25 = .ok (.invokestatic 231, 3) := qz_2 .invokestatic 0 231 qo_184 (by decide +kernel) rfl
theorem dX4_heir_28 : decode cX4_heir 28 = .ok (.goto 4, 3) := qz_s2 .goto 0 4 qo_167 (by decide +kernel) rfl
theorem dX4_heir_31 : decode cX4_heir 31 = .ok (.iconst (-1), 1) := qd_p qo_2 (by decide +kernel)
theorem dX4_heir_32 : decode cX4_heir 32 = .ok (.istore 4, 2) := qz_1 .istore 4 qo_54 (by decide +kernel)
theorem dX4_heir_34 : decode cX4_heir 34 = .ok (.iload 4, 2) := qz_1 .iload 4 qo_21 (by decide +kernel)
theorem dX4_heir_36 : decode cX4_heir 36 = .ok (.ifCond .ge 10, 3) := qz_s2 (.ifCond .ge) 0 10 qo_156 (by decide +kernel) rfl
theorem dX4_heir_39 : decode cX4_heir 39 = .ok (.aload_n 0, 1) := qd_p qo_42 (by decide +kernel)
theorem dX4_heir_40 : decode cX4_heir 40 = .ok (.iload 4, 2) := qz_1 .iload 4 qo_21 (by decide +kernel)
theorem dX4_heir_42 : decode cX4_heir 42 = .ok (.invokevirtual 143, 3) := qz_2 .invokevirtual 0 143 qo_182 (by decide +kernel) rfl
theorem dX4_heir_45 : decode cX4_heir 45 = .ok (.ireturn, 1) := qd_p qo_172 (by decide +kernel)
theorem dX4_heir_46 : decode cX4_heir 46 = .ok (.aload_n 0, 1) := qd_p qo_42 (by decide +kernel)
theorem dX4_heir_47 : decode cX4_heir 47 = .ok (.invokevirtual 195, 3) := qz_2 .invokevirtual 0 195 qo_182 (by decide +kernel) rfl
theorem dX4_heir_50 : decode cX4_heir 50 = .ok (.aload_n 0, 1) := qd_p qo_42 (by decide +kernel)
theorem dX4_heir_51 : decode cX4_heir 51 = .ok (.iload_n 1, 1) := qd_p qo_27 (by decide +kernel)
theorem dX4_heir_52 : decode cX4_heir 52 = .ok (.iconst 0, 1) := qd_p qo_3 (by decide +kernel)
theorem dX4_heir_53 : decode cX4_heir 53 = .ok (.bipush 23, 2) := qz_s1 .bipush 23 qo_16 (by decide +kernel) rfl
theorem dX4_heir_55 : decode cX4_heir 55 = .ok (.bipush 9, 2) := qz_s1 .bipush 9 qo_16 (by decide +kernel) rfl
theorem dX4_heir_57 : decode cX4_heir 57 = .ok (.invokevirtual 182, 3) := qz_2 .invokevirtual 0 182 qo_182 (by decide +kernel) rfl
theorem dX4_heir_60 : decode cX4_heir 60 = .ok (.iconst 0, 1) := qd_p qo_3 (by decide +kernel)
theorem dX4_heir_61 : decode cX4_heir 61 = .ok (.istore 5, 2) := qz_1 .istore 5 qo_54 (by decide +kernel)
theorem dX4_heir_63 : decode cX4_heir 63 = .ok (.iload 5, 2) := qz_1 .iload 5 qo_21 (by decide +kernel)
theorem dX4_heir_65 : decode cX4_heir 65 = .ok (.bipush 8, 2) := qz_s1 .bipush 8 qo_16 (by decide +kernel) rfl
theorem dX4_heir_67 : decode cX4_heir 67 = .ok (.if_icmp .ge 22, 3) := qz_s2 (.if_icmp .ge) 0 22 qo_162 (by decide +kernel) rfl
theorem dX4_heir_70 : decode cX4_heir 70 = .ok (.aload_n 0, 1) := qd_p qo_42 (by decide +kernel)
theorem dX4_heir_71 : decode cX4_heir 71 = .ok (.getfield 25, 3) := qz_2 .getfield 0 25 qo_180 (by decide +kernel) rfl
theorem dX4_heir_74 : decode cX4_heir 74 = .ok (.bipush 8, 2) := qz_s1 .bipush 8 qo_16 (by decide +kernel) rfl
theorem dX4_heir_76 : decode cX4_heir 76 = .ok (.iload_n 1, 1) := qd_p qo_27 (by decide +kernel)
theorem dX4_heir_77 : decode cX4_heir 77 = .ok (.imul, 1) := qd_p qo_104 (by decide +kernel)
theorem dX4_heir_78 : decode cX4_heir 78 = .ok (.iload 5, 2) := qz_1 .iload 5 qo_21 (by decide +kernel)
theorem dX4_heir_80 : decode cX4_heir 80 = .ok (.iadd, 1) := qd_p qo_96 (by decide +kernel)
theorem dX4_heir_81 : decode cX4_heir 81 = .ok (.iconst 0, 1) := qd_p qo_3 (by decide +kernel)
theorem dX4_heir_82 : decode cX4_heir 82 = .ok (.iastore, 1) := qd_p qo_79 (by decide +kernel)
theorem dX4_heir_83 : decode cX4_heir 83 = .ok (.iinc 5 1, 3) := qd_i (x := 5) (y := 1) qo_132 (by decide +kernel) rfl
theorem dX4_heir_86 : decode cX4_heir 86 = .ok (.goto (-23), 3) := qz_s2 .goto 255 233 qo_167 (by decide +kernel) rfl
theorem dX4_heir_89 : decode cX4_heir 89 = .ok (.aload_n 0, 1) := qd_p qo_42 (by decide +kernel)
theorem dX4_heir_90 : decode cX4_heir 90 = .ok (.invokevirtual 134, 3) := qz_2 .invokevirtual 0 134 qo_182 (by decide +kernel) rfl
theorem dX4_heir_93 : decode cX4_heir 93 = .ok (.aload_n 0, 1) := qd_p qo_42 (by decide +kernel)
theorem dX4_heir_94 : decode cX4_heir 94 = .ok (.iload_n 2, 1) := qd_p qo_28 (by decide +kernel)
theorem dX4_heir_95 : decode cX4_heir 95 = .ok (.iload_n 3, 1) := qd_p qo_29 (by decide +kernel)
theorem dX4_heir_96 : decode cX4_heir 96 = .ok (.invokevirtual 125, 3) := qz_2 .invokevirtual 0 125 qo_182 (by decide +kernel) rfl
theorem dX4_heir_99 : decode cX4_heir 99 = .ok (.istore 5, 2) := qz_1 .istore 5 qo_54 (by decide +kernel)
theorem dX4_heir_101 : decode cX4_heir 101 = .ok (.aload_n 0, 1) := qd_p qo_42 (by decide +kernel)
theorem dX4_heir_102 : decode cX4_heir 102 = .ok (.invokevirtual 201, 3) := qz_2 .invokevirtual 0 201 qo_182 (by decide +kernel) rfl
theorem dX4_heir_105 : decode cX4_heir 105 = .ok (.iload 5, 2) := qz_1 .iload 5 qo_21 (by decide +kernel)
theorem dX4_heir_107 : decode cX4_heir 107 = .ok (.ireturn, 1) := qd_p qo_172 (by decide +kernel)
theorem dX4_even_0 : decode cX4_even 0 = .ok (.aload_n 0, 1) := qd_p qo_42 (by decide +kernel)
theorem dX4_even_1 : decode cX4_even 1 = .ok (.iconst 0, 1) := qd_p qo_3 (by decide +kernel)
theorem dX4_even_2 : decode cX4_even 2 = .ok (.putfield 70, 3) := qz_2 .putfield 0 70 qo_181 (by decide +kernel) rfl
theorem dX4_even_5 : decode cX4_even 5 = .ok (.iload_n 1, 1) := qd_p qo_27 (by decide +kernel)
theorem dX4_even_6 : decode cX4_even 6 = .ok (.iconst 0, 1) := qd_p qo_3 (by decide +kernel)
theorem dX4_even_7 : decode cX4_even 7 = .ok (.sipush 999, 3) := qz_s2 .sipush 3 231 qo_17 (by decide +kernel) rfl
theorem dX4_even_10 : decode cX4_even 10 = .ok (.invokestatic 231, 3) := qz_2 .invokestatic 0 231 qo_184 (by decide +kernel) rfl
theorem dX4_even_13 : decode cX4_even 13 = .ok (.ifCond .ge 16, 3) := qz_s2 (.ifCond .ge) 0 16 qo_156 (by decide +kernel) rfl
theorem dX4_even_16 : decode cX4_even 16 = .ok (.aload_n 0, 1) := qd_p qo_42 (by decide +kernel)
theorem dX4_even_17 : decode cX4_even 17 = .ok (.iload_n 1, 1) := qd_p qo_27 (by decide +kernel)
theorem dX4_even_18 : decode cX4_even 18 = .ok (.iconst 0, 1) := qd_p qo_3 (by decide +kernel)
theorem dX4_even_19 : decode cX4_even 19 = .ok (.sipush 999, 3) := qz_s2 .sipush 3 231 qo_17 (by decide +kernel) rfl
theorem dX4_even_22 : decode cX4_even 22 = .ok (.invokestatic 231, 3) := qz_2 .invokestatic 0 231 qo_184 (by decide +kernel) rfl
theorem dX4_even_25 : decode cX4_even 25 = .ok (.invokevirtual 143, 3) := qz_2 .invokevirtual 0 143 qo_182 (by decide +kernel) rfl
theorem dX4_even_28 : decode cX4_even 28 = .ok (.ireturn, 1) := qd_p qo_172 (by decide +kernel)
theorem dX4_even_29 : decode cX4_even 29 = .ok (.aload_n 0, 1) := qd_p qo_42 (by decide +kernel)
theorem dX4_even_30 : decode cX4_even 30 = .ok (.invokevirtual 134, 3) := qz_2 .invokevirtual 0 134 qo_182 (by decide +kernel) rfl
theorem dX4_even_33 : decode cX4_even 33 = .ok (.iconst 0, 1) := qd_p qo_3 (by decide +kernel)
theorem dX4_even_34 : decode cX4_even 34 = .ok (.istore_n 2, 1) := qd_p qo_61 (by decide +kernel)
theorem dX4_even_35 : decode cX4_even 35 = .ok (.iconst 0, 1) := qd_p qo_3 (by decide +kernel)
theorem dX4_even_36 : decode cX4_even 36 = .ok (.istore_n 3, 1) := qd_p qo_62 (by decide +kernel)
theorem dX4_even_37 : decode cX4_even 37 = .ok (.iload_n 3, 1) := qd_p qo_29 (by decide +kernel)
theorem dX4_even_38 : decode cX4_even 38 = .ok (.aload_n 0, 1) := qd_p qo_42 (by decide +kernel)
theorem dX4_even_39 : decode cX4_even 39 = .ok (.getfield 74, 3) := qz_2 .getfield 0 74 qo_180 (by decide +kernel) rfl
theorem dX4_even_42 : decode cX4_even 42 = .ok (.if_icmp .ge 53, 3) := qz_s2 (.if_icmp .ge) 0 53 qo_162 (by decide +kernel) rfl
theorem dX4_even_45 : decode cX4_even 45 = .ok (.iload_n 3, 1) := qd_p qo_29 (by decide +kernel)
theorem dX4_even_46 : decode cX4_even 46 = .ok (.iconst 1, 1) := qd_p qo_4 (by decide +kernel)
theorem dX4_even_47 : decode cX4_even 47 = .ok (.iadd, 1) := qd_p qo_96 (by decide +kernel)
theorem dX4_even_48 : decode cX4_even 48 = .ok (.istore 4, 2) := qz_1 .istore 4 qo_54 (by decide +kernel)
theorem dX4_even_50 : decode cX4_even 50 = .ok (.iload 4, 2) := qz_1 .iload 4 qo_21 (by decide +kernel)
theorem dX4_even_52 : decode cX4_even 52 = .ok (.aload_n 0, 1) := qd_p qo_42 (by decide +kernel)
theorem dX4_even_53 : decode cX4_even 53 = .ok (.getfield 74, 3) := qz_2 .getfield 0 74 qo_180 (by decide +kernel) rfl
theorem dX4_even_56 : decode cX4_even 56 = .ok (.if_icmp .ge 33, 3) := qz_s2 (.if_icmp .ge) 0 33 qo_162 (by decide +kernel) rfl
theorem dX4_even_59 : decode cX4_even 59 = .ok (.iload_n 2, 1) := qd_p qo_28 (by decide +kernel)
theorem dX4_even_60 : decode cX4_even 60 = .ok (.aload_n 0, 1) := qd_p qo_42 (by decide +kernel)
theorem dX4_even_61 : decode cX4_even 61 = .ok (.iload_n 3, 1) := qd_p qo_29 (by decide +kernel)
theorem dX4_even_62 : decode cX4_even 62 = .ok (.iload_n 1, 1) := qd_p qo_27 (by decide +kernel)
theorem dX4_even_63 : decode cX4_even 63 = .ok (.invokevirtual 137, 3) := qz_2 .invokevirtual 0 137 qo_182 (by decide +kernel) rfl
theorem dX4_even_66 : decode cX4_even 66 = .ok (.aload_n 0, 1) := qd_p qo_42 (by decide +kernel)
theorem dX4_even_67 : decode cX4_even 67 = .ok (.iload 4, 2) := qz_1 .iload 4 qo_21 (by decide +kernel)
theorem dX4_even_69 : decode cX4_even 69 = .ok (.iload_n 1, 1) := qd_p qo_27 (by decide +kernel)
theorem dX4_even_70 : decode cX4_even 70 = .ok (.invokevirtual 137, 3) := qz_2 .invokevirtual 0 137 qo_182 (by decide +kernel) rfl
theorem dX4_even_73 : decode cX4_even 73 = .ok (.if_icmp .ne 7, 3) := qz_s2 (.if_icmp .ne) 0 7 qo_160 (by decide +kernel) rfl
theorem dX4_even_76 : decode cX4_even 76 = .ok (.iconst 1, 1) := qd_p qo_4 (by decide +kernel)
theorem dX4_even_77 : decode cX4_even 77 = .ok (.goto 4, 3) := qz_s2 .goto 0 4 qo_167 (by decide +kernel) rfl
theorem dX4_even_80 : decode cX4_even 80 = .ok (.iconst 0, 1) := qd_p qo_3 (by decide +kernel)
theorem dX4_even_81 : decode cX4_even 81 = .ok (.iadd, 1) := qd_p qo_96 (by decide +kernel)
theorem dX4_even_82 : decode cX4_even 82 = .ok (.istore_n 2, 1) := qd_p qo_61 (by decide +kernel)
theorem dX4_even_83 : decode cX4_even 83 = .ok (.iinc 4 1, 3) := qd_i (x := 4) (y := 1) qo_132 (by decide +kernel) rfl
theorem dX4_even_86 : decode cX4_even 86 = .ok (.goto (-36), 3) := qz_s2 .goto 255 220 qo_167 (by decide +kernel) rfl
theorem dX4_even_89 : decode cX4_even 89 = .ok (.iinc 3 1, 3) := qd_i (x := 3) (y := 1) qo_132 (by decide +kernel) rfl
theorem dX4_even_92 : decode cX4_even 92 = .ok (.goto (-55), 3) := qz_s2 .goto 255 201 qo_167 (by decide +kernel) rfl
theorem dX4_even_95 : decode cX4_even 95 = .ok (.iload_n 2, 1) := qd_p qo_28 (by decide +kernel)
theorem dX4_even_96 : decode cX4_even 96 = .ok (.ireturn, 1) := qd_p qo_172 (by decide +kernel)
section
variable {p : Program} {l : Launch} {e : Env} {s : State} {m : MethodId} {args : Array Value} {below : List Frame} {meth : Method} {c : Code} {D : va_G} {tI tII : ClassId} {B : Nat}
set_option maxHeartbeats 4000000 in
set_option maxRecDepth 100000 in
theorem w_X4_isRow_54 (C : wt_C p s m args meth c RX4 cX4_isRow 5 (some .boolean) D tI tII) {F : Nat} {k8 : Int32 → Int32 → Mem → Option (Int32 × Mem)} {x1 : Int32} {x3 : Int32} {t0 : Int32} {σ : Mem} {r : Int32} {σ' : Mem} {H : Heap} {locs : List Loc} {ls : Array Slot} (hk8 : ∀ (x2 : Int32) (x3 : Int32) (σ : Mem) (H : Heap) (locs : List Loc) (ls : Array Slot), k8 x2 x3 σ = some (r, σ') → wt_St D tI tII B σ s H locs → lv_has ls 5 [(0, .ref (B + 101)), (1, .int x1), (2, .int x2), (3, .int x3)] → W p l e rm_X4_isRow s m args below meth c H locs 0 0 (MQ below (wt_Qi D tI tII B r σ') args s 0 0 (fun q => B ≤ q)) (F0 m 8 ls [])) (hf : j_X4_isRow_54 F k8 x1 x3 t0 σ = some (r, σ')) (hM : wt_St D tI tII B σ s H locs) (hl : lv_has ls 5 [(0, .ref (B + 101)), (1, .int x1), (3, .int x3)]) : W p l e rm_X4_isRow s m args below meth c H locs 0 0 (MQ below (wt_Qi D tI tII B r σ') args s 0 0 (fun q => B ≤ q)) (F0 m 54 ls [.int t0]) := by
  obtain ⟨hx, hb, hts, hown, hml, hr, hlk, hK⟩ := id C
  replace hf := Eq.trans j_X4_isRow_54_e.symm hf
  refine lv_istore_n (lv' := [(2, .int t0), (0, .ref (B + 101)), (1, .int x1), (3, .int x3)]) hx hb dX4_isRow_54 rfl hl (by decide) rfl (fun ls hl => ?_)
  refine lv_iinc (v := (x3 + (1 : Int32))) (lv' := [(3, .int (x3 + (1 : Int32))), (2, .int t0), (0, .ref (B + 101)), (1, .int x1)]) hx hb dX4_isRow_55 hl (k := 3) rfl rfl (by decide) rfl (fun ls hl => ?_)
  refine lv_goto (tgt := 8) hx hb dX4_isRow_58 (by decide) ?_
  exact hk8 _ _ _ _ _ _ hf hM (lv_sub hl [2, 3, 1, 0] rfl)
set_option maxHeartbeats 4000000 in
set_option maxRecDepth 100000 in
theorem w_X4_isRow_53 (C : wt_C p s m args meth c RX4 cX4_isRow 5 (some .boolean) D tI tII) {F : Nat} {k8 : Int32 → Int32 → Mem → Option (Int32 × Mem)} {x1 : Int32} {x3 : Int32} {σ : Mem} {r : Int32} {σ' : Mem} {H : Heap} {locs : List Loc} {ls : Array Slot} (hk8 : ∀ (x2 : Int32) (x3 : Int32) (σ : Mem) (H : Heap) (locs : List Loc) (ls : Array Slot), k8 x2 x3 σ = some (r, σ') → wt_St D tI tII B σ s H locs → lv_has ls 5 [(0, .ref (B + 101)), (1, .int x1), (2, .int x2), (3, .int x3)] → W p l e rm_X4_isRow s m args below meth c H locs 0 0 (MQ below (wt_Qi D tI tII B r σ') args s 0 0 (fun q => B ≤ q)) (F0 m 8 ls [])) (hf : j_X4_isRow_53 F k8 x1 x3 σ = some (r, σ')) (hM : wt_St D tI tII B σ s H locs) (hl : lv_has ls 5 [(0, .ref (B + 101)), (1, .int x1), (3, .int x3)]) : W p l e rm_X4_isRow s m args below meth c H locs 0 0 (MQ below (wt_Qi D tI tII B r σ') args s 0 0 (fun q => B ≤ q)) (F0 m 53 ls []) := by
  obtain ⟨hx, hb, hts, hown, hml, hr, hlk, hK⟩ := id C
  replace hf := Eq.trans j_X4_isRow_53_e.symm hf
  refine lv_iconst (v := 0) hx hb dX4_isRow_53 (by decide) ?_
  exact w_X4_isRow_54 C hk8 hf hM hl
set_option maxHeartbeats 4000000 in
set_option maxRecDepth 100000 in
theorem w_X4_isRow_46 (C : wt_C p s m args meth c RX4 cX4_isRow 5 (some .boolean) D tI tII) {F : Nat} {k8 : Int32 → Int32 → Mem → Option (Int32 × Mem)} {x1 : Int32} {x3 : Int32} {t0 : Int32} {t1 : Int32} {σ : Mem} {r : Int32} {σ' : Mem} {H : Heap} {locs : List Loc} {ls : Array Slot} (hk8 : ∀ (x2 : Int32) (x3 : Int32) (σ : Mem) (H : Heap) (locs : List Loc) (ls : Array Slot), k8 x2 x3 σ = some (r, σ') → wt_St D tI tII B σ s H locs → lv_has ls 5 [(0, .ref (B + 101)), (1, .int x1), (2, .int x2), (3, .int x3)] → W p l e rm_X4_isRow s m args below meth c H locs 0 0 (MQ below (wt_Qi D tI tII B r σ') args s 0 0 (fun q => B ≤ q)) (F0 m 8 ls [])) (hf : j_X4_isRow_46 F k8 x1 x3 t0 t1 σ = some (r, σ')) (hM : wt_St D tI tII B σ s H locs) (hl : lv_has ls 5 [(0, .ref (B + 101)), (1, .int x1), (3, .int x3)]) : W p l e rm_X4_isRow s m args below meth c H locs 0 0 (MQ below (wt_Qi D tI tII B r σ') args s 0 0 (fun q => B ≤ q)) (F0 m 46 ls [.int t1, .int t0]) := by
  obtain ⟨hx, hb, hts, hown, hml, hr, hlk, hK⟩ := id C
  replace hf := Eq.trans j_X4_isRow_46_e.symm hf
  refine wq_icmp_ne (tgt := 53) hx hb dX4_isRow_46 (by decide) hf (fun hf => ?_) (fun hf => ?_)
  · exact w_X4_isRow_53 C hk8 hf hM hl
  refine lv_iconst (v := 1) hx hb dX4_isRow_49 (by decide) ?_
  refine lv_goto (tgt := 54) hx hb dX4_isRow_50 (by decide) ?_
  exact w_X4_isRow_54 C hk8 hf hM hl
set_option maxHeartbeats 4000000 in
set_option maxRecDepth 100000 in
theorem w_X4_isRow_8 (C : wt_C p s m args meth c RX4 cX4_isRow 5 (some .boolean) D tI tII) {F : Nat} {x1 : Int32} {r : Int32} {σ' : Mem} : ∀ (N : Nat) (x2 : Int32) (x3 : Int32) (σ : Mem) (H : Heap) (locs : List Loc) (ls : Array Slot), lp_X4_isRow_8 F x1 N x2 x3 σ = some (r, σ') → wt_St D tI tII B σ s H locs → lv_has ls 5 [(0, .ref (B + 101)), (1, .int x1), (2, .int x2), (3, .int x3)] → W p l e rm_X4_isRow s m args below meth c H locs 0 0 (MQ below (wt_Qi D tI tII B r σ') args s 0 0 (fun q => B ≤ q)) (F0 m 8 ls []) := by
  obtain ⟨hx, hb, hts, hown, hml, hr, hlk, hK⟩ := id C
  intro N
  induction N with
  | zero => intro x2 x3 σ H locs ls hf; exact wt_none (show (none : Option (Int32 × Mem)) = some (r, σ') from hf)
  | succ N ih =>
    intro x2 x3 σ H locs ls hf hM hl
    replace hf := Eq.trans lp_X4_isRow_8_s.symm hf
    refine lv_iload_n hx hb dX4_isRow_8 rfl (lv_at hl 3 rfl) ?_
    refine lv_aload_n hx hb dX4_isRow_9 rfl (lv_at hl 0 rfl) ?_
    refine gf_X4_rowMany  hx hb hts hown hK hM tw_744 dX4_isRow_10 ?_
    refine wq_icmp_ge (tgt := 61) hx hb dX4_isRow_13 (by decide) hf (fun hf => ?_) (fun hf => ?_)
    · refine lv_iload_n hx hb dX4_isRow_61 rfl (lv_at hl 2 rfl) ?_
      obtain ⟨hz9, hf⟩ := wt_bz_of hf
      exact wt_zret hx hb hr hlk hK hM hz9 hf dX4_isRow_62
    refine lv_aload_n hx hb dX4_isRow_16 rfl (lv_at hl 0 rfl) ?_
    refine lv_iload_n hx hb dX4_isRow_17 rfl (lv_at hl 3 rfl) ?_
    refine lv_iload_n hx hb dX4_isRow_18 rfl (lv_at hl 1 rfl) ?_
    refine wt_callVi (As := [.int x3, .int x1]) (rest := []) hx hb hml hts hown hK hM wt_rc_X4 cw_X4_125 hd_X4_ownerIn rfl ⟨qz_b rfl, qz_b rfl⟩ ⟨rfl, rfl⟩ hl.1 rfl (qz_b rfl) dX4_isRow_19 hf (fun _ _ h9 => c_X4_ownerIn h9) (fun r1 s2 H locs hf hM => ?_)
    refine lv_istore (lv' := [(4, .int r1), (0, .ref (B + 101)), (1, .int x1), (2, .int x2), (3, .int x3)]) hx hb dX4_isRow_22 hl (by decide) rfl (fun ls hl => ?_)
    refine lv_iload_n hx hb dX4_isRow_24 rfl (lv_at hl 3 rfl) ?_
    refine wq_if_eq (tgt := 53) hx hb dX4_isRow_25 (by decide) hf (fun hf => ?_) (fun hf => ?_)
    · exact w_X4_isRow_53 C ih hf hM (lv_sub hl [1, 2, 4] rfl)
    refine lv_aload_n hx hb dX4_isRow_28 rfl (lv_at hl 1 rfl) ?_
    refine gf_X4_row  hx hb hts hown hK hM tw_743 dX4_isRow_29 ?_
    refine lv_iload_n hx hb dX4_isRow_32 rfl (lv_at hl 4 rfl) ?_
    obtain ⟨i3, hf⟩ := wt_chk_of hf
    refine wt_ild hx hb hK hM wt_a121 i3 dX4_isRow_33 ?_
    refine lv_iload hx hb dX4_isRow_34 (lv_at hl 0 rfl) ?_
    refine wq_if_ge (tgt := 44) hx hb dX4_isRow_36 (by decide) hf (fun hf => ?_) (fun hf => ?_)
    · refine lv_iload hx hb dX4_isRow_44 (lv_at hl 0 rfl) ?_
      exact w_X4_isRow_46 C ih hf hM (lv_sub hl [1, 2, 4] rfl)
    refine lv_bipush (v := 99) hx hb dX4_isRow_39 (by decide) ?_
    refine lv_goto (tgt := 46) hx hb dX4_isRow_41 (by decide) ?_
    exact w_X4_isRow_46 C ih hf hM (lv_sub hl [1, 2, 4] rfl)
set_option maxHeartbeats 4000000 in
set_option maxRecDepth 100000 in
theorem w_X4_isRow_0 (C : wt_C p s m args meth c RX4 cX4_isRow 5 (some .boolean) D tI tII) {F : Nat} {x1 : Int32} {σ : Mem} {r : Int32} {σ' : Mem} {H : Heap} {locs : List Loc} {ls : Array Slot} (hf : f_X4_isRow F x1 σ = some (r, σ')) (hM : wt_St D tI tII B σ s H locs) (hl : lv_has ls 5 [(0, .ref (B + 101)), (1, .int x1)]) : W p l e rm_X4_isRow s m args below meth c H locs 0 0 (MQ below (wt_Qi D tI tII B r σ') args s 0 0 (fun q => B ≤ q)) (F0 m 0 ls []) := by
  obtain ⟨hx, hb, hts, hown, hml, hr, hlk, hK⟩ := id C
  replace hf := Eq.trans f_X4_isRow_e.symm hf
  refine lv_aload_n hx hb dX4_isRow_0 rfl (lv_at hl 0 rfl) ?_
  refine wt_callVv (As := []) (rest := []) hx hb hml hts hown hK hM wt_rc_X4 cw_X4_134 hd_X4_layBrings rfl ⟨qz_b rfl, qz_b rfl⟩ ⟨rfl, rfl⟩ hl.1 rfl (qz_b rfl) dX4_isRow_1 hf (fun _ _ h9 => c_X4_layBrings h9) (fun r4 s5 H locs hf hM => ?_)
  refine lv_iconst (v := 1) hx hb dX4_isRow_4 (by decide) ?_
  refine lv_istore_n (lv' := [(2, .int (1 : Int32)), (0, .ref (B + 101)), (1, .int x1)]) hx hb dX4_isRow_5 rfl hl (by decide) rfl (fun ls hl => ?_)
  refine lv_iconst (v := 0) hx hb dX4_isRow_6 (by decide) ?_
  refine lv_istore_n (lv' := [(3, .int (0 : Int32)), (2, .int (1 : Int32)), (0, .ref (B + 101)), (1, .int x1)]) hx hb dX4_isRow_7 rfl hl (by decide) rfl (fun ls hl => ?_)
  exact w_X4_isRow_8 C _ _ _ _ _ _ _ hf hM (lv_sub hl [2, 3, 1, 0] rfl)
end
set_option maxHeartbeats 4000000 in
set_option maxRecDepth 100000 in
theorem c_X4_isRow {l : Launch} {D : va_G} {tI tII : ClassId} {B F : Nat} {x1 : Int32} {σ σ' : Mem} {r : Int32} (hf : f_X4_isRow F x1 σ = some (r, σ')) : wt_Mi l yX4_isRow cX4_isRow 5 (some .boolean) rm_X4_isRow [.ref (B + 101), .int x1] D tI tII B σ r σ' := by
  refine Met.ofW (cc := cX4_isRow) (maxL := 5) (ret := (some .boolean)) (by decide) rfl ?_
  intro p e s m args below meth c s₁ B9 hml hv
  obtain ⟨rfl, hP, hK⟩ := hv
  have hl := lv_entry ([.ref (B + 101), .int x1]) (n := 5) (qz_b rfl)
  rw [lg_entry_eq]
  generalize (lg_sl ([.ref (B + 101), .int x1]) ++ List.replicate (5 - (lg_sl ([.ref (B + 101), .int x1])).length) Slot.unset).toArray = ls at hl ⊢
  exact w_X4_isRow_0 (wt_C_of B9 hml hK) hf ⟨hP, va_S.rf⟩ hl
section
variable {p : Program} {l : Launch} {e : Env} {s : State} {m : MethodId} {args : Array Value} {below : List Frame} {meth : Method} {c : Code} {D : va_G} {tI tII : ClassId} {B : Nat}
set_option maxHeartbeats 4000000 in
set_option maxRecDepth 100000 in
theorem w_X4_whichLaw_56 (C : wt_C p s m args meth c RX4 cX4_whichLaw 4 (some .int) D tI tII) {F : Nat} {k30 : Int32 → Int32 → Mem → Option (Int32 × Mem)} {x1 : Int32} {x3 : Int32} {t0 : Int32} {t1 : Int32} {σ : Mem} {r : Int32} {σ' : Mem} {H : Heap} {locs : List Loc} {ls : Array Slot} (hk30 : ∀ (x2 : Int32) (x3 : Int32) (σ : Mem) (H : Heap) (locs : List Loc) (ls : Array Slot), k30 x2 x3 σ = some (r, σ') → wt_St D tI tII B σ s H locs → lv_has ls 4 [(0, .ref (B + 101)), (1, .int x1), (2, .int x2), (3, .int x3)] → W p l e rm_X4_whichLaw s m args below meth c H locs 0 0 (MQ below (wt_Qi D tI tII B r σ') args s 0 0 (fun q => B ≤ q)) (F0 m 30 ls [])) (hf : j_X4_whichLaw_56 F k30 x1 x3 t0 t1 σ = some (r, σ')) (hM : wt_St D tI tII B σ s H locs) (hl : lv_has ls 4 [(0, .ref (B + 101)), (1, .int x1), (3, .int x3)]) : W p l e rm_X4_whichLaw s m args below meth c H locs 0 0 (MQ below (wt_Qi D tI tII B r σ') args s 0 0 (fun q => B ≤ q)) (F0 m 56 ls [.int t1, .int t0]) := by
  obtain ⟨hx, hb, hts, hown, hml, hr, hlk, hK⟩ := id C
  replace hf := Eq.trans j_X4_whichLaw_56_e.symm hf
  refine lv_ior hx hb dX4_whichLaw_56 ?_
  refine lv_istore_n (lv' := [(2, .int (t0 ||| t1)), (0, .ref (B + 101)), (1, .int x1), (3, .int x3)]) hx hb dX4_whichLaw_57 rfl hl (by decide) rfl (fun ls hl => ?_)
  refine lv_iinc (v := (x3 + (1 : Int32))) (lv' := [(3, .int (x3 + (1 : Int32))), (2, .int (t0 ||| t1)), (0, .ref (B + 101)), (1, .int x1)]) hx hb dX4_whichLaw_58 hl (k := 3) rfl rfl (by decide) rfl (fun ls hl => ?_)
  refine lv_goto (tgt := 30) hx hb dX4_whichLaw_61 (by decide) ?_
  exact hk30 _ _ _ _ _ _ hf hM (lv_sub hl [2, 3, 1, 0] rfl)
set_option maxHeartbeats 4000000 in
set_option maxRecDepth 100000 in
theorem w_X4_whichLaw_30 (C : wt_C p s m args meth c RX4 cX4_whichLaw 4 (some .int) D tI tII) {F : Nat} {x1 : Int32} {r : Int32} {σ' : Mem} : ∀ (N : Nat) (x2 : Int32) (x3 : Int32) (σ : Mem) (H : Heap) (locs : List Loc) (ls : Array Slot), lp_X4_whichLaw_30 F x1 N x2 x3 σ = some (r, σ') → wt_St D tI tII B σ s H locs → lv_has ls 4 [(0, .ref (B + 101)), (1, .int x1), (2, .int x2), (3, .int x3)] → W p l e rm_X4_whichLaw s m args below meth c H locs 0 0 (MQ below (wt_Qi D tI tII B r σ') args s 0 0 (fun q => B ≤ q)) (F0 m 30 ls []) := by
  obtain ⟨hx, hb, hts, hown, hml, hr, hlk, hK⟩ := id C
  intro N
  induction N with
  | zero => intro x2 x3 σ H locs ls hf; exact wt_none (show (none : Option (Int32 × Mem)) = some (r, σ') from hf)
  | succ N ih =>
    intro x2 x3 σ H locs ls hf hM hl
    replace hf := Eq.trans lp_X4_whichLaw_30_s.symm hf
    refine lv_iload_n hx hb dX4_whichLaw_30 rfl (lv_at hl 3 rfl) ?_
    refine lv_iconst (v := 3) hx hb dX4_whichLaw_31 (by decide) ?_
    refine wq_icmp_ge (tgt := 64) hx hb dX4_whichLaw_32 (by decide) hf (fun hf => ?_) (fun hf => ?_)
    · refine lv_aload_n hx hb dX4_whichLaw_64 rfl (lv_at hl 0 rfl) ?_
      refine lv_iload_n hx hb dX4_whichLaw_65 rfl (lv_at hl 1 rfl) ?_
      refine pf_X4_law0  hx hb hts hown hK hM tw_718 dX4_whichLaw_66 hf (fun s1 H locs hf hM => ?_)
      refine lv_iload_n hx hb dX4_whichLaw_69 rfl (lv_at hl 2 rfl) ?_
      exact wt_iret hx hb hr hlk hK hM hf dX4_whichLaw_70
    refine lv_aload_n hx hb dX4_whichLaw_35 rfl (lv_at hl 0 rfl) ?_
    refine lv_iload_n hx hb dX4_whichLaw_36 rfl (lv_at hl 3 rfl) ?_
    refine pf_X4_law0  hx hb hts hown hK hM tw_718 dX4_whichLaw_37 hf (fun s2 H locs hf hM => ?_)
    refine lv_iload_n hx hb dX4_whichLaw_40 rfl (lv_at hl 2 rfl) ?_
    refine lv_aload_n hx hb dX4_whichLaw_41 rfl (lv_at hl 0 rfl) ?_
    refine lv_iconst (v := 0) hx hb dX4_whichLaw_42 (by decide) ?_
    refine wt_callVi (As := [.int (0 : Int32)]) (rest := [.int x2]) hx hb hml hts hown hK hM wt_rc_X4 cw_X4_282 hd_X4_isRow rfl ⟨qz_b rfl, qz_b rfl⟩ ⟨rfl, rfl⟩ hl.1 rfl (qz_b rfl) dX4_whichLaw_43 hf (fun _ _ h9 => c_X4_isRow h9) (fun r3 s4 H locs hf hM => ?_)
    refine wq_if_eq (tgt := 55) hx hb dX4_whichLaw_46 (by decide) hf (fun hf => ?_) (fun hf => ?_)
    · refine lv_iconst (v := 0) hx hb dX4_whichLaw_55 (by decide) ?_
      exact w_X4_whichLaw_56 C ih hf hM (lv_sub hl [0, 1, 3] rfl)
    refine lv_iconst (v := 1) hx hb dX4_whichLaw_49 (by decide) ?_
    refine lv_iload_n hx hb dX4_whichLaw_50 rfl (lv_at hl 3 rfl) ?_
    refine lv_ishl hx hb dX4_whichLaw_51 ?_
    refine lv_goto (tgt := 56) hx hb dX4_whichLaw_52 (by decide) ?_
    exact w_X4_whichLaw_56 C ih hf hM (lv_sub hl [0, 1, 3] rfl)
set_option maxHeartbeats 4000000 in
set_option maxRecDepth 100000 in
theorem w_X4_whichLaw_0 (C : wt_C p s m args meth c RX4 cX4_whichLaw 4 (some .int) D tI tII) {F : Nat} {σ : Mem} {r : Int32} {σ' : Mem} {H : Heap} {locs : List Loc} {ls : Array Slot} (hf : f_X4_whichLaw F σ = some (r, σ')) (hM : wt_St D tI tII B σ s H locs) (hl : lv_has ls 4 [(0, .ref (B + 101))]) : W p l e rm_X4_whichLaw s m args below meth c H locs 0 0 (MQ below (wt_Qi D tI tII B r σ') args s 0 0 (fun q => B ≤ q)) (F0 m 0 ls []) := by
  obtain ⟨hx, hb, hts, hown, hml, hr, hlk, hK⟩ := id C
  replace hf := Eq.trans f_X4_whichLaw_e.symm hf
  refine lv_aload_n hx hb dX4_whichLaw_0 rfl (lv_at hl 0 rfl) ?_
  refine lv_iconst (v := 0) hx hb dX4_whichLaw_1 (by decide) ?_
  refine pf_X4_thrown  hx hb hts hown hK hM tw_720 dX4_whichLaw_2 hf (fun s5 H locs hf hM => ?_)
  refine lv_aload_n hx hb dX4_whichLaw_5 rfl (lv_at hl 0 rfl) ?_
  refine gf_X4_rowMany  hx hb hts hown hK hM tw_744 dX4_whichLaw_6 ?_
  refine lv_bipush (v := 8) hx hb dX4_whichLaw_9 (by decide) ?_
  refine wq_icmp_le (tgt := 21) hx hb dX4_whichLaw_11 (by decide) hf (fun hf => ?_) (fun hf => ?_)
  · refine lv_aload_n hx hb dX4_whichLaw_21 rfl (lv_at hl 0 rfl) ?_
    refine gf_X4_law0  hx hb hts hown hK hM tw_718 dX4_whichLaw_22 ?_
    refine lv_istore_n (lv' := [(1, .int (s5 101 8)), (0, .ref (B + 101))]) hx hb dX4_whichLaw_25 rfl hl (by decide) rfl (fun ls hl => ?_)
    refine lv_iconst (v := 0) hx hb dX4_whichLaw_26 (by decide) ?_
    refine lv_istore_n (lv' := [(2, .int (0 : Int32)), (1, .int (s5 101 8)), (0, .ref (B + 101))]) hx hb dX4_whichLaw_27 rfl hl (by decide) rfl (fun ls hl => ?_)
    refine lv_iconst (v := 0) hx hb dX4_whichLaw_28 (by decide) ?_
    refine lv_istore_n (lv' := [(3, .int (0 : Int32)), (2, .int (0 : Int32)), (1, .int (s5 101 8)), (0, .ref (B + 101))]) hx hb dX4_whichLaw_29 rfl hl (by decide) rfl (fun ls hl => ?_)
    exact w_X4_whichLaw_30 C _ _ _ _ _ _ _ hf hM (lv_sub hl [3, 2, 1, 0] rfl)
  refine lv_aload_n hx hb dX4_whichLaw_14 rfl (lv_at hl 0 rfl) ?_
  refine lv_bipush (v := -3) hx hb dX4_whichLaw_15 (by decide) ?_
  refine wt_callVi (As := [.int (-3 : Int32)]) (rest := []) hx hb hml hts hown hK hM wt_rc_X4 cw_X4_143 hd_X4_refuse rfl ⟨qz_b rfl, qz_b rfl⟩ ⟨rfl, rfl⟩ hl.1 rfl (qz_b rfl) dX4_whichLaw_17 hf (fun _ _ h9 => c_X4_refuse h9) (fun r6 s7 H locs hf hM => ?_)
  exact wt_iret hx hb hr hlk hK hM hf dX4_whichLaw_20
end
set_option maxHeartbeats 4000000 in
set_option maxRecDepth 100000 in
theorem c_X4_whichLaw {l : Launch} {D : va_G} {tI tII : ClassId} {B F : Nat} {σ σ' : Mem} {r : Int32} (hf : f_X4_whichLaw F σ = some (r, σ')) : wt_Mi l yX4_whichLaw cX4_whichLaw 4 (some .int) rm_X4_whichLaw [.ref (B + 101)] D tI tII B σ r σ' := by
  refine Met.ofW (cc := cX4_whichLaw) (maxL := 4) (ret := (some .int)) (by decide) rfl ?_
  intro p e s m args below meth c s₁ B9 hml hv
  obtain ⟨rfl, hP, hK⟩ := hv
  have hl := lv_entry ([.ref (B + 101)]) (n := 4) (qz_b rfl)
  rw [lg_entry_eq]
  generalize (lg_sl ([.ref (B + 101)]) ++ List.replicate (4 - (lg_sl ([.ref (B + 101)])).length) Slot.unset).toArray = ls at hl ⊢
  exact w_X4_whichLaw_0 (wt_C_of B9 hml hK) hf ⟨hP, va_S.rf⟩ hl
section
variable {p : Program} {l : Launch} {e : Env} {s : State} {m : MethodId} {args : Array Value} {below : List Frame} {meth : Method} {c : Code} {D : va_G} {tI tII : ClassId} {B : Nat}
set_option maxHeartbeats 4000000 in
set_option maxRecDepth 100000 in
theorem w_X4_whichKind_154 (C : wt_C p s m args meth c RX4 cX4_whichKind 7 (some .int) D tI tII) {F : Nat} {k77 : Int32 → Int32 → Mem → Option (Int32 × Mem)} {x1 : Int32} {x2 : Int32} {x3 : Int32} {x6 : Int32} {t0 : Int32} {t1 : Int32} {σ : Mem} {r : Int32} {σ' : Mem} {H : Heap} {locs : List Loc} {ls : Array Slot} (hk77 : ∀ (x5 : Int32) (x6 : Int32) (σ : Mem) (H : Heap) (locs : List Loc) (ls : Array Slot), k77 x5 x6 σ = some (r, σ') → wt_St D tI tII B σ s H locs → lv_has ls 7 [(0, .ref (B + 101)), (1, .int x1), (2, .int x2), (3, .int x3), (5, .int x5), (6, .int x6)] → W p l e rm_X4_whichKind s m args below meth c H locs 0 0 (MQ below (wt_Qi D tI tII B r σ') args s 0 0 (fun q => B ≤ q)) (F0 m 77 ls [])) (hf : j_X4_whichKind_154 F k77 x1 x2 x3 x6 t0 t1 σ = some (r, σ')) (hM : wt_St D tI tII B σ s H locs) (hl : lv_has ls 7 [(0, .ref (B + 101)), (1, .int x1), (2, .int x2), (3, .int x3), (6, .int x6)]) : W p l e rm_X4_whichKind s m args below meth c H locs 0 0 (MQ below (wt_Qi D tI tII B r σ') args s 0 0 (fun q => B ≤ q)) (F0 m 154 ls [.int t1, .int t0]) := by
  obtain ⟨hx, hb, hts, hown, hml, hr, hlk, hK⟩ := id C
  replace hf := Eq.trans j_X4_whichKind_154_e.symm hf
  refine lv_ior hx hb dX4_whichKind_154 ?_
  refine lv_istore (lv' := [(5, .int (t0 ||| t1)), (0, .ref (B + 101)), (1, .int x1), (2, .int x2), (3, .int x3), (6, .int x6)]) hx hb dX4_whichKind_155 hl (by decide) rfl (fun ls hl => ?_)
  refine lv_iinc (v := (x6 + (1 : Int32))) (lv' := [(6, .int (x6 + (1 : Int32))), (5, .int (t0 ||| t1)), (0, .ref (B + 101)), (1, .int x1), (2, .int x2), (3, .int x3)]) hx hb dX4_whichKind_157 hl (k := 5) rfl rfl (by decide) rfl (fun ls hl => ?_)
  refine lv_goto (tgt := 77) hx hb dX4_whichKind_160 (by decide) ?_
  exact hk77 _ _ _ _ _ _ hf hM (lv_sub hl [2, 3, 4, 5, 1, 0] rfl)
set_option maxHeartbeats 4000000 in
set_option maxRecDepth 100000 in
theorem w_X4_whichKind_135 (C : wt_C p s m args meth c RX4 cX4_whichKind 7 (some .int) D tI tII) {F : Nat} {k77 : Int32 → Int32 → Mem → Option (Int32 × Mem)} {x1 : Int32} {x2 : Int32} {x3 : Int32} {x5 : Int32} {x6 : Int32} {t1 : Int32} {t2 : Int32} {σ : Mem} {r : Int32} {σ' : Mem} {H : Heap} {locs : List Loc} {ls : Array Slot} (hk77 : ∀ (x5 : Int32) (x6 : Int32) (σ : Mem) (H : Heap) (locs : List Loc) (ls : Array Slot), k77 x5 x6 σ = some (r, σ') → wt_St D tI tII B σ s H locs → lv_has ls 7 [(0, .ref (B + 101)), (1, .int x1), (2, .int x2), (3, .int x3), (5, .int x5), (6, .int x6)] → W p l e rm_X4_whichKind s m args below meth c H locs 0 0 (MQ below (wt_Qi D tI tII B r σ') args s 0 0 (fun q => B ≤ q)) (F0 m 77 ls [])) (hf : j_X4_whichKind_135 F k77 x1 x2 x3 x5 x6 t1 t2 σ = some (r, σ')) (hM : wt_St D tI tII B σ s H locs) (hl : lv_has ls 7 [(0, .ref (B + 101)), (1, .int x1), (2, .int x2), (3, .int x3), (5, .int x5), (6, .int x6)]) : W p l e rm_X4_whichKind s m args below meth c H locs 0 0 (MQ below (wt_Qi D tI tII B r σ') args s 0 0 (fun q => B ≤ q)) (F0 m 135 ls [.int t2, .int t1, .ref (B + 105)]) := by
  obtain ⟨hx, hb, hts, hown, hml, hr, hlk, hK⟩ := id C
  replace hf := Eq.trans j_X4_whichKind_135_e.symm hf
  obtain ⟨i1, hf⟩ := wt_chk_of hf
  refine wt_ist hx hb hK hM wt_a105 i1 dX4_whichKind_135 hf (fun s2 H locs hf hM => ?_)
  refine lv_iload hx hb dX4_whichKind_136 (lv_at hl 4 rfl) ?_
  refine lv_aload_n hx hb dX4_whichKind_138 rfl (lv_at hl 0 rfl) ?_
  refine lv_iload_n hx hb dX4_whichKind_139 rfl (lv_at hl 2 rfl) ?_
  refine wt_callVi (As := [.int x2]) (rest := [.int x5]) hx hb hml hts hown hK hM wt_rc_X4 cw_X4_282 hd_X4_isRow rfl ⟨qz_b rfl, qz_b rfl⟩ ⟨rfl, rfl⟩ hl.1 rfl (qz_b rfl) dX4_whichKind_140 hf (fun _ _ h9 => c_X4_isRow h9) (fun r3 s4 H locs hf hM => ?_)
  refine wq_if_eq (tgt := 153) hx hb dX4_whichKind_143 (by decide) hf (fun hf => ?_) (fun hf => ?_)
  · refine lv_iconst (v := 0) hx hb dX4_whichKind_153 (by decide) ?_
    exact w_X4_whichKind_154 C hk77 hf hM (lv_sub hl [0, 1, 2, 3, 5] rfl)
  refine lv_iconst (v := 1) hx hb dX4_whichKind_146 (by decide) ?_
  refine lv_iload hx hb dX4_whichKind_147 (lv_at hl 5 rfl) ?_
  refine lv_ishl hx hb dX4_whichKind_149 ?_
  refine lv_goto (tgt := 154) hx hb dX4_whichKind_150 (by decide) ?_
  exact w_X4_whichKind_154 C hk77 hf hM (lv_sub hl [0, 1, 2, 3, 5] rfl)
set_option maxHeartbeats 4000000 in
set_option maxRecDepth 100000 in
theorem w_X4_whichKind_113 (C : wt_C p s m args meth c RX4 cX4_whichKind 7 (some .int) D tI tII) {F : Nat} {k77 : Int32 → Int32 → Mem → Option (Int32 × Mem)} {x1 : Int32} {x2 : Int32} {x3 : Int32} {x5 : Int32} {x6 : Int32} {t1 : Int32} {t2 : Int32} {σ : Mem} {r : Int32} {σ' : Mem} {H : Heap} {locs : List Loc} {ls : Array Slot} (hk77 : ∀ (x5 : Int32) (x6 : Int32) (σ : Mem) (H : Heap) (locs : List Loc) (ls : Array Slot), k77 x5 x6 σ = some (r, σ') → wt_St D tI tII B σ s H locs → lv_has ls 7 [(0, .ref (B + 101)), (1, .int x1), (2, .int x2), (3, .int x3), (5, .int x5), (6, .int x6)] → W p l e rm_X4_whichKind s m args below meth c H locs 0 0 (MQ below (wt_Qi D tI tII B r σ') args s 0 0 (fun q => B ≤ q)) (F0 m 77 ls [])) (hf : j_X4_whichKind_113 F k77 x1 x2 x3 x5 x6 t1 t2 σ = some (r, σ')) (hM : wt_St D tI tII B σ s H locs) (hl : lv_has ls 7 [(0, .ref (B + 101)), (1, .int x1), (2, .int x2), (3, .int x3), (5, .int x5), (6, .int x6)]) : W p l e rm_X4_whichKind s m args below meth c H locs 0 0 (MQ below (wt_Qi D tI tII B r σ') args s 0 0 (fun q => B ≤ q)) (F0 m 113 ls [.int t2, .int t1, .ref (B + 104)]) := by
  obtain ⟨hx, hb, hts, hown, hml, hr, hlk, hK⟩ := id C
  replace hf := Eq.trans j_X4_whichKind_113_e.symm hf
  obtain ⟨i5, hf⟩ := wt_chk_of hf
  refine wt_ist hx hb hK hM wt_a104 i5 dX4_whichKind_113 hf (fun s6 H locs hf hM => ?_)
  refine lv_aload_n hx hb dX4_whichKind_114 rfl (lv_at hl 0 rfl) ?_
  refine gf_X4_figures  hx hb hts hown hK hM tw_715 dX4_whichKind_115 ?_
  refine lv_iload_n hx hb dX4_whichKind_118 rfl (lv_at hl 1 rfl) ?_
  refine lv_iload_n hx hb dX4_whichKind_119 rfl (lv_at hl 3 rfl) ?_
  refine lv_iconst (v := 1) hx hb dX4_whichKind_120 (by decide) ?_
  refine wq_icmp_ne (tgt := 129) hx hb dX4_whichKind_121 (by decide) hf (fun hf => ?_) (fun hf => ?_)
  · refine lv_aload_n hx hb dX4_whichKind_129 rfl (lv_at hl 0 rfl) ?_
    refine gf_X4_figures  hx hb hts hown hK hM tw_715 dX4_whichKind_130 ?_
    refine lv_iload_n hx hb dX4_whichKind_133 rfl (lv_at hl 1 rfl) ?_
    obtain ⟨i7, hf⟩ := wt_chk_of hf
    refine wt_ild hx hb hK hM wt_a105 i7 dX4_whichKind_134 ?_
    exact w_X4_whichKind_135 C hk77 hf hM hl
  refine lv_iload hx hb dX4_whichKind_124 (lv_at hl 5 rfl) ?_
  refine lv_goto (tgt := 135) hx hb dX4_whichKind_126 (by decide) ?_
  exact w_X4_whichKind_135 C hk77 hf hM hl
set_option maxHeartbeats 4000000 in
set_option maxRecDepth 100000 in
theorem w_X4_whichKind_90 (C : wt_C p s m args meth c RX4 cX4_whichKind 7 (some .int) D tI tII) {F : Nat} {k77 : Int32 → Int32 → Mem → Option (Int32 × Mem)} {x1 : Int32} {x2 : Int32} {x3 : Int32} {x5 : Int32} {x6 : Int32} {t0 : Int32} {t1 : Int32} {σ : Mem} {r : Int32} {σ' : Mem} {H : Heap} {locs : List Loc} {ls : Array Slot} (hk77 : ∀ (x5 : Int32) (x6 : Int32) (σ : Mem) (H : Heap) (locs : List Loc) (ls : Array Slot), k77 x5 x6 σ = some (r, σ') → wt_St D tI tII B σ s H locs → lv_has ls 7 [(0, .ref (B + 101)), (1, .int x1), (2, .int x2), (3, .int x3), (5, .int x5), (6, .int x6)] → W p l e rm_X4_whichKind s m args below meth c H locs 0 0 (MQ below (wt_Qi D tI tII B r σ') args s 0 0 (fun q => B ≤ q)) (F0 m 77 ls [])) (hf : j_X4_whichKind_90 F k77 x1 x2 x3 x5 x6 t0 t1 σ = some (r, σ')) (hM : wt_St D tI tII B σ s H locs) (hl : lv_has ls 7 [(0, .ref (B + 101)), (1, .int x1), (2, .int x2), (3, .int x3), (5, .int x5), (6, .int x6)]) : W p l e rm_X4_whichKind s m args below meth c H locs 0 0 (MQ below (wt_Qi D tI tII B r σ') args s 0 0 (fun q => B ≤ q)) (F0 m 90 ls [.int t1, .int t0]) := by
  obtain ⟨hx, hb, hts, hown, hml, hr, hlk, hK⟩ := id C
  replace hf := Eq.trans j_X4_whichKind_90_e.symm hf
  refine wq_icmp_ge (tgt := 163) hx hb dX4_whichKind_90 (by decide) hf (fun hf => ?_) (fun hf => ?_)
  · refine lv_aload_n hx hb dX4_whichKind_163 rfl (lv_at hl 0 rfl) ?_
    refine wt_callVv (As := []) (rest := []) hx hb hml hts hown hK hM wt_rc_X4 cw_X4_201 hd_X4_again rfl ⟨qz_b rfl, qz_b rfl⟩ ⟨rfl, rfl⟩ hl.1 rfl (qz_b rfl) dX4_whichKind_164 hf (fun _ _ h9 => c_X4_again h9) (fun r8 s9 H locs hf hM => ?_)
    refine lv_iload hx hb dX4_whichKind_167 (lv_at hl 4 rfl) ?_
    exact wt_iret hx hb hr hlk hK hM hf dX4_whichKind_169
  refine lv_aload_n hx hb dX4_whichKind_93 rfl (lv_at hl 0 rfl) ?_
  refine gf_X4_kinds  hx hb hts hown hK hM tw_714 dX4_whichKind_94 ?_
  refine lv_iload_n hx hb dX4_whichKind_97 rfl (lv_at hl 1 rfl) ?_
  refine lv_iload_n hx hb dX4_whichKind_98 rfl (lv_at hl 3 rfl) ?_
  refine wq_if_ne (tgt := 107) hx hb dX4_whichKind_99 (by decide) hf (fun hf => ?_) (fun hf => ?_)
  · refine lv_aload_n hx hb dX4_whichKind_107 rfl (lv_at hl 0 rfl) ?_
    refine gf_X4_kinds  hx hb hts hown hK hM tw_714 dX4_whichKind_108 ?_
    refine lv_iload_n hx hb dX4_whichKind_111 rfl (lv_at hl 1 rfl) ?_
    obtain ⟨i10, hf⟩ := wt_chk_of hf
    refine wt_ild hx hb hK hM wt_a104 i10 dX4_whichKind_112 ?_
    exact w_X4_whichKind_113 C hk77 hf hM hl
  refine lv_iload hx hb dX4_whichKind_102 (lv_at hl 5 rfl) ?_
  refine lv_goto (tgt := 113) hx hb dX4_whichKind_104 (by decide) ?_
  exact w_X4_whichKind_113 C hk77 hf hM hl
set_option maxHeartbeats 4000000 in
set_option maxRecDepth 100000 in
theorem w_X4_whichKind_77 (C : wt_C p s m args meth c RX4 cX4_whichKind 7 (some .int) D tI tII) {F : Nat} {x1 : Int32} {x2 : Int32} {x3 : Int32} {r : Int32} {σ' : Mem} : ∀ (N : Nat) (x5 : Int32) (x6 : Int32) (σ : Mem) (H : Heap) (locs : List Loc) (ls : Array Slot), lp_X4_whichKind_77 F x1 x2 x3 N x5 x6 σ = some (r, σ') → wt_St D tI tII B σ s H locs → lv_has ls 7 [(0, .ref (B + 101)), (1, .int x1), (2, .int x2), (3, .int x3), (5, .int x5), (6, .int x6)] → W p l e rm_X4_whichKind s m args below meth c H locs 0 0 (MQ below (wt_Qi D tI tII B r σ') args s 0 0 (fun q => B ≤ q)) (F0 m 77 ls []) := by
  obtain ⟨hx, hb, hts, hown, hml, hr, hlk, hK⟩ := id C
  intro N
  induction N with
  | zero => intro x5 x6 σ H locs ls hf; exact wt_none (show (none : Option (Int32 × Mem)) = some (r, σ') from hf)
  | succ N ih =>
    intro x5 x6 σ H locs ls hf hM hl
    replace hf := Eq.trans lp_X4_whichKind_77_s.symm hf
    refine lv_iload hx hb dX4_whichKind_77 (lv_at hl 5 rfl) ?_
    refine lv_iload_n hx hb dX4_whichKind_79 rfl (lv_at hl 3 rfl) ?_
    refine wq_if_ne (tgt := 88) hx hb dX4_whichKind_80 (by decide) hf (fun hf => ?_) (fun hf => ?_)
    · refine lv_bipush (v := 10) hx hb dX4_whichKind_88 (by decide) ?_
      exact w_X4_whichKind_90 C ih hf hM hl
    refine lv_bipush (v := 6) hx hb dX4_whichKind_83 (by decide) ?_
    refine lv_goto (tgt := 90) hx hb dX4_whichKind_85 (by decide) ?_
    exact w_X4_whichKind_90 C ih hf hM hl
set_option maxHeartbeats 4000000 in
set_option maxRecDepth 100000 in
theorem w_X4_whichKind_53 (C : wt_C p s m args meth c RX4 cX4_whichKind 7 (some .int) D tI tII) {F : Nat} {x1 : Int32} {x2 : Int32} {x3 : Int32} {t0 : Int32} {σ : Mem} {r : Int32} {σ' : Mem} {H : Heap} {locs : List Loc} {ls : Array Slot} (hf : j_X4_whichKind_53 F x1 x2 x3 t0 σ = some (r, σ')) (hM : wt_St D tI tII B σ s H locs) (hl : lv_has ls 7 [(0, .ref (B + 101)), (1, .int x1), (2, .int x2), (3, .int x3)]) : W p l e rm_X4_whichKind s m args below meth c H locs 0 0 (MQ below (wt_Qi D tI tII B r σ') args s 0 0 (fun q => B ≤ q)) (F0 m 53 ls [.int t0]) := by
  obtain ⟨hx, hb, hts, hown, hml, hr, hlk, hK⟩ := id C
  replace hf := Eq.trans j_X4_whichKind_53_e.symm hf
  refine lv_istore (lv' := [(4, .int t0), (0, .ref (B + 101)), (1, .int x1), (2, .int x2), (3, .int x3)]) hx hb dX4_whichKind_53 hl (by decide) rfl (fun ls hl => ?_)
  refine lv_iload hx hb dX4_whichKind_55 (lv_at hl 0 rfl) ?_
  refine wq_if_ge (tgt := 67) hx hb dX4_whichKind_57 (by decide) hf (fun hf => ?_) (fun hf => ?_)
  · refine lv_iconst (v := 0) hx hb dX4_whichKind_67 (by decide) ?_
    refine lv_istore (lv' := [(5, .int (0 : Int32)), (4, .int t0), (0, .ref (B + 101)), (1, .int x1), (2, .int x2), (3, .int x3)]) hx hb dX4_whichKind_68 hl (by decide) rfl (fun ls hl => ?_)
    refine lv_aload_n hx hb dX4_whichKind_70 rfl (lv_at hl 2 rfl) ?_
    refine wt_callVv (As := []) (rest := []) hx hb hml hts hown hK hM wt_rc_X4 cw_X4_195 hd_X4_think rfl ⟨qz_b rfl, qz_b rfl⟩ ⟨rfl, rfl⟩ hl.1 rfl (qz_b rfl) dX4_whichKind_71 hf (fun _ _ h9 => c_X4_think h9) (fun r11 s12 H locs hf hM => ?_)
    refine lv_iconst (v := 0) hx hb dX4_whichKind_74 (by decide) ?_
    refine lv_istore (lv' := [(6, .int (0 : Int32)), (5, .int (0 : Int32)), (4, .int t0), (0, .ref (B + 101)), (1, .int x1), (2, .int x2), (3, .int x3)]) hx hb dX4_whichKind_75 hl (by decide) rfl (fun ls hl => ?_)
    exact w_X4_whichKind_77 C _ _ _ _ _ _ _ hf hM (lv_sub hl [3, 4, 5, 6, 1, 0] rfl)
  refine lv_aload_n hx hb dX4_whichKind_60 rfl (lv_at hl 1 rfl) ?_
  refine lv_iload hx hb dX4_whichKind_61 (lv_at hl 0 rfl) ?_
  refine wt_callVi (As := [.int t0]) (rest := []) hx hb hml hts hown hK hM wt_rc_X4 cw_X4_143 hd_X4_refuse rfl ⟨qz_b rfl, qz_b rfl⟩ ⟨rfl, rfl⟩ hl.1 rfl (qz_b rfl) dX4_whichKind_63 hf (fun _ _ h9 => c_X4_refuse h9) (fun r13 s14 H locs hf hM => ?_)
  exact wt_iret hx hb hr hlk hK hM hf dX4_whichKind_66
set_option maxHeartbeats 4000000 in
set_option maxRecDepth 100000 in
theorem w_X4_whichKind_51 (C : wt_C p s m args meth c RX4 cX4_whichKind 7 (some .int) D tI tII) {F : Nat} {x1 : Int32} {x2 : Int32} {x3 : Int32} {x4 : Int32} {σ : Mem} {r : Int32} {σ' : Mem} {H : Heap} {locs : List Loc} {ls : Array Slot} (hf : j_X4_whichKind_51 F x1 x2 x3 x4 σ = some (r, σ')) (hM : wt_St D tI tII B σ s H locs) (hl : lv_has ls 7 [(0, .ref (B + 101)), (1, .int x1), (2, .int x2), (3, .int x3), (4, .int x4)]) : W p l e rm_X4_whichKind s m args below meth c H locs 0 0 (MQ below (wt_Qi D tI tII B r σ') args s 0 0 (fun q => B ≤ q)) (F0 m 51 ls []) := by
  obtain ⟨hx, hb, hts, hown, hml, hr, hlk, hK⟩ := id C
  replace hf := Eq.trans j_X4_whichKind_51_e.symm hf
  refine lv_iload hx hb dX4_whichKind_51 (lv_at hl 4 rfl) ?_
  exact w_X4_whichKind_53 C hf hM (lv_sub hl [0, 1, 2, 3] rfl)
set_option maxHeartbeats 4000000 in
set_option maxRecDepth 100000 in
theorem w_X4_whichKind_25 (C : wt_C p s m args meth c RX4 cX4_whichKind 7 (some .int) D tI tII) {F : Nat} {x1 : Int32} {x2 : Int32} {x3 : Int32} {t0 : Int32} {σ : Mem} {r : Int32} {σ' : Mem} {H : Heap} {locs : List Loc} {ls : Array Slot} (hf : j_X4_whichKind_25 F x1 x2 x3 t0 σ = some (r, σ')) (hM : wt_St D tI tII B σ s H locs) (hl : lv_has ls 7 [(0, .ref (B + 101)), (1, .int x1), (2, .int x2), (3, .int x3)]) : W p l e rm_X4_whichKind s m args below meth c H locs 0 0 (MQ below (wt_Qi D tI tII B r σ') args s 0 0 (fun q => B ≤ q)) (F0 m 25 ls [.int t0]) := by
  obtain ⟨hx, hb, hts, hown, hml, hr, hlk, hK⟩ := id C
  replace hf := Eq.trans j_X4_whichKind_25_e.symm hf
  refine lv_iload_n hx hb dX4_whichKind_25 rfl (lv_at hl 3 rfl) ?_
  refine lv_iconst (v := 1) hx hb dX4_whichKind_26 (by decide) ?_
  refine wt_callSi (As := [.int t0, .int x3, .int (1 : Int32)]) (rest := []) hx hb hml hts hown hK hM cw_X4_251 hd_X4_wrongBit rfl ⟨qz_b rfl, qz_b rfl⟩ ⟨rfl, rfl⟩ hl.1 rfl (qz_b rfl) dX4_whichKind_27 hf (fun _ _ h9 => c_X4_wrongBit h9) (fun r15 s16 H locs hf hM => ?_)
  refine lv_istore (lv' := [(4, .int r15), (0, .ref (B + 101)), (1, .int x1), (2, .int x2), (3, .int x3)]) hx hb dX4_whichKind_30 hl (by decide) rfl (fun ls hl => ?_)
  refine lv_iload hx hb dX4_whichKind_32 (lv_at hl 0 rfl) ?_
  refine wq_if_ne (tgt := 51) hx hb dX4_whichKind_34 (by decide) hf (fun hf => ?_) (fun hf => ?_)
  · exact w_X4_whichKind_51 C hf hM (lv_sub hl [1, 2, 3, 4, 0] rfl)
  refine lv_aload_n hx hb dX4_whichKind_37 rfl (lv_at hl 1 rfl) ?_
  refine gf_X4_rowMany  hx hb hts hown hK hM tw_744 dX4_whichKind_38 ?_
  refine lv_bipush (v := 8) hx hb dX4_whichKind_41 (by decide) ?_
  refine wq_icmp_le (tgt := 51) hx hb dX4_whichKind_43 (by decide) hf (fun hf => ?_) (fun hf => ?_)
  · exact w_X4_whichKind_51 C hf hM (lv_sub hl [1, 2, 3, 4, 0] rfl)
  refine lv_bipush (v := -3) hx hb dX4_whichKind_46 (by decide) ?_
  refine lv_goto (tgt := 53) hx hb dX4_whichKind_48 (by decide) ?_
  exact w_X4_whichKind_53 C hf hM (lv_sub hl [1, 2, 3, 4] rfl)
set_option maxHeartbeats 4000000 in
set_option maxRecDepth 100000 in
theorem w_X4_whichKind_0 (C : wt_C p s m args meth c RX4 cX4_whichKind 7 (some .int) D tI tII) {F : Nat} {x1 : Int32} {x2 : Int32} {x3 : Int32} {σ : Mem} {r : Int32} {σ' : Mem} {H : Heap} {locs : List Loc} {ls : Array Slot} (hf : f_X4_whichKind F x1 x2 x3 σ = some (r, σ')) (hM : wt_St D tI tII B σ s H locs) (hl : lv_has ls 7 [(0, .ref (B + 101)), (1, .int x1), (2, .int x2), (3, .int x3)]) : W p l e rm_X4_whichKind s m args below meth c H locs 0 0 (MQ below (wt_Qi D tI tII B r σ') args s 0 0 (fun q => B ≤ q)) (F0 m 0 ls []) := by
  obtain ⟨hx, hb, hts, hown, hml, hr, hlk, hK⟩ := id C
  replace hf := Eq.trans f_X4_whichKind_e.symm hf
  refine lv_aload_n hx hb dX4_whichKind_0 rfl (lv_at hl 0 rfl) ?_
  refine lv_iconst (v := 0) hx hb dX4_whichKind_1 (by decide) ?_
  refine pf_X4_thrown  hx hb hts hown hK hM tw_720 dX4_whichKind_2 hf (fun s17 H locs hf hM => ?_)
  refine lv_aload_n hx hb dX4_whichKind_5 rfl (lv_at hl 0 rfl) ?_
  refine lv_iload_n hx hb dX4_whichKind_6 rfl (lv_at hl 1 rfl) ?_
  refine wt_callVi (As := [.int x1]) (rest := []) hx hb hml hts hown hK hM wt_rc_X4 cw_X4_88 hd_X4_isLooker rfl ⟨qz_b rfl, qz_b rfl⟩ ⟨rfl, rfl⟩ hl.1 rfl (qz_b rfl) dX4_whichKind_7 hf (fun _ _ h9 => c_X4_isLooker h9) (fun r18 s19 H locs hf hM => ?_)
  refine wq_if_eq (tgt := 24) hx hb dX4_whichKind_10 (by decide) hf (fun hf => ?_) (fun hf => ?_)
  · refine lv_iconst (v := -1) hx hb dX4_whichKind_24 (by decide) ?_
    exact w_X4_whichKind_25 C hf hM hl
  refine lv_iload_n hx hb dX4_whichKind_13 rfl (lv_at hl 2 rfl) ?_
  refine lv_iconst (v := 0) hx hb dX4_whichKind_14 (by decide) ?_
  refine lv_sipush (v := 999) hx hb dX4_whichKind_15 (by decide) ?_
  refine wt_callSi (As := [.int x2, .int (0 : Int32), .int (999 : Int32)]) (rest := []) hx hb hml hts hown hK hM cw_X4_231 hd_X4_wrongNumber rfl ⟨qz_b rfl, qz_b rfl⟩ ⟨rfl, rfl⟩ hl.1 rfl (qz_b rfl) dX4_whichKind_18 hf (fun _ _ h9 => c_X4_wrongNumber h9) (fun r20 s21 H locs hf hM => ?_)
  refine lv_goto (tgt := 25) hx hb dX4_whichKind_21 (by decide) ?_
  exact w_X4_whichKind_25 C hf hM hl
end
set_option maxHeartbeats 4000000 in
set_option maxRecDepth 100000 in
theorem c_X4_whichKind {l : Launch} {D : va_G} {tI tII : ClassId} {B F : Nat} {x1 : Int32} {x2 : Int32} {x3 : Int32} {σ σ' : Mem} {r : Int32} (hf : f_X4_whichKind F x1 x2 x3 σ = some (r, σ')) : wt_Mi l yX4_whichKind cX4_whichKind 7 (some .int) rm_X4_whichKind [.ref (B + 101), .int x1, .int x2, .int x3] D tI tII B σ r σ' := by
  refine Met.ofW (cc := cX4_whichKind) (maxL := 7) (ret := (some .int)) (by decide) rfl ?_
  intro p e s m args below meth c s₁ B9 hml hv
  obtain ⟨rfl, hP, hK⟩ := hv
  have hl := lv_entry ([.ref (B + 101), .int x1, .int x2, .int x3]) (n := 7) (qz_b rfl)
  rw [lg_entry_eq]
  generalize (lg_sl ([.ref (B + 101), .int x1, .int x2, .int x3]) ++ List.replicate (7 - (lg_sl ([.ref (B + 101), .int x1, .int x2, .int x3])).length) Slot.unset).toArray = ls at hl ⊢
  exact w_X4_whichKind_0 (wt_C_of B9 hml hK) hf ⟨hP, va_S.rf⟩ hl
section
variable {p : Program} {l : Launch} {e : Env} {s : State} {m : MethodId} {args : Array Value} {below : List Frame} {meth : Method} {c : Code} {D : va_G} {tI tII : ClassId} {B : Nat}
set_option maxHeartbeats 4000000 in
set_option maxRecDepth 100000 in
theorem w_X4_ill_167 (C : wt_C p s m args meth c RX4 cX4_ill 15 (some .long) D tI tII) {F : Nat} {k126 : Int64 → Int32 → Mem → Option (Int64 × Mem)} {k140 : Int64 → Int32 → Mem → Option (Int64 × Mem)} {x1 : Int32} {x2 : Int32} {x3 : Int32} {x4 : Int32} {x5 : Int32} {y7 : Int64} {y9 : Int64} {x11 : Int32} {x14 : Int32} {t0 : Int64} {t1 : Int64} {σ : Mem} {r : Int64} {σ' : Mem} {H : Heap} {locs : List Loc} {ls : Array Slot} (hk126 : ∀ (y7 : Int64) (x11 : Int32) (σ : Mem) (H : Heap) (locs : List Loc) (ls : Array Slot), k126 y7 x11 σ = some (r, σ') → wt_St D tI tII B σ s H locs → lv_has ls 15 [(0, .ref (B + 101)), (1, .int x1), (2, .int x2), (3, .int x3), (4, .int x4), (5, .int x5), (7, .long y7), (9, .long y9), (11, .int x11)] → W p l e rm_X4_ill s m args below meth c H locs 0 0 (MQ below (wt_Ql D tI tII B r σ') args s 0 0 (fun q => B ≤ q)) (F0 m 126 ls [])) (hk140 : ∀ (y12 : Int64) (x14 : Int32) (σ : Mem) (H : Heap) (locs : List Loc) (ls : Array Slot), k140 y12 x14 σ = some (r, σ') → wt_St D tI tII B σ s H locs → lv_has ls 15 [(0, .ref (B + 101)), (1, .int x1), (2, .int x2), (3, .int x3), (4, .int x4), (5, .int x5), (7, .long y7), (9, .long y9), (11, .int x11), (12, .long y12), (14, .int x14)] → W p l e rm_X4_ill s m args below meth c H locs 0 0 (MQ below (wt_Ql D tI tII B r σ') args s 0 0 (fun q => B ≤ q)) (F0 m 140 ls [])) (hf : j_X4_ill_167 F k126 k140 x1 x2 x3 x4 x5 y7 y9 x11 x14 t0 t1 σ = some (r, σ')) (hM : wt_St D tI tII B σ s H locs) (hl : lv_has ls 15 [(0, .ref (B + 101)), (1, .int x1), (2, .int x2), (3, .int x3), (4, .int x4), (5, .int x5), (7, .long y7), (9, .long y9), (11, .int x11), (14, .int x14)]) : W p l e rm_X4_ill s m args below meth c H locs 0 0 (MQ below (wt_Ql D tI tII B r σ') args s 0 0 (fun q => B ≤ q)) (F0 m 167 ls [.long t1, .long t0]) := by
  obtain ⟨hx, hb, hts, hown, hml, hr, hlk, hK⟩ := id C
  replace hf := Eq.trans j_X4_ill_167_e.symm hf
  refine lv_lmul hx hb dX4_ill_167 ?_
  refine lv_lstore (lv' := [(12, .long (t0 * t1)), (0, .ref (B + 101)), (1, .int x1), (2, .int x2), (3, .int x3), (4, .int x4), (5, .int x5), (7, .long y7), (9, .long y9), (11, .int x11), (14, .int x14)]) hx hb dX4_ill_168 hl (by decide) rfl (fun ls hl => ?_)
  refine lv_iinc (v := (x14 + (1 : Int32))) (lv' := [(14, .int (x14 + (1 : Int32))), (12, .long (t0 * t1)), (0, .ref (B + 101)), (1, .int x1), (2, .int x2), (3, .int x3), (4, .int x4), (5, .int x5), (7, .long y7), (9, .long y9), (11, .int x11)]) hx hb dX4_ill_170 hl (k := 10) rfl rfl (by decide) rfl (fun ls hl => ?_)
  refine lv_goto (tgt := 140) hx hb dX4_ill_173 (by decide) ?_
  exact hk140 _ _ _ _ _ _ hf hM (lv_sub hl [2, 3, 4, 5, 6, 7, 8, 9, 10, 1, 0] rfl)
set_option maxHeartbeats 4000000 in
set_option maxRecDepth 100000 in
theorem w_X4_ill_237 (C : wt_C p s m args meth c RX4 cX4_ill 15 (some .long) D tI tII) {F : Nat} {k126 : Int64 → Int32 → Mem → Option (Int64 × Mem)} {x1 : Int32} {x2 : Int32} {x3 : Int32} {x4 : Int32} {x5 : Int32} {y9 : Int64} {x11 : Int32} {t0 : Int64} {t1 : Int64} {σ : Mem} {r : Int64} {σ' : Mem} {H : Heap} {locs : List Loc} {ls : Array Slot} (hk126 : ∀ (y7 : Int64) (x11 : Int32) (σ : Mem) (H : Heap) (locs : List Loc) (ls : Array Slot), k126 y7 x11 σ = some (r, σ') → wt_St D tI tII B σ s H locs → lv_has ls 15 [(0, .ref (B + 101)), (1, .int x1), (2, .int x2), (3, .int x3), (4, .int x4), (5, .int x5), (7, .long y7), (9, .long y9), (11, .int x11)] → W p l e rm_X4_ill s m args below meth c H locs 0 0 (MQ below (wt_Ql D tI tII B r σ') args s 0 0 (fun q => B ≤ q)) (F0 m 126 ls [])) (hf : j_X4_ill_237 F k126 x1 x2 x3 x4 x5 y9 x11 t0 t1 σ = some (r, σ')) (hM : wt_St D tI tII B σ s H locs) (hl : lv_has ls 15 [(0, .ref (B + 101)), (1, .int x1), (2, .int x2), (3, .int x3), (4, .int x4), (5, .int x5), (9, .long y9), (11, .int x11)]) : W p l e rm_X4_ill s m args below meth c H locs 0 0 (MQ below (wt_Ql D tI tII B r σ') args s 0 0 (fun q => B ≤ q)) (F0 m 237 ls [.long t1, .long t0]) := by
  obtain ⟨hx, hb, hts, hown, hml, hr, hlk, hK⟩ := id C
  replace hf := Eq.trans j_X4_ill_237_e.symm hf
  refine lv_ladd hx hb dX4_ill_237 ?_
  refine lv_lstore (lv' := [(7, .long (t0 + t1)), (0, .ref (B + 101)), (1, .int x1), (2, .int x2), (3, .int x3), (4, .int x4), (5, .int x5), (9, .long y9), (11, .int x11)]) hx hb dX4_ill_238 hl (by decide) rfl (fun ls hl => ?_)
  refine lv_iinc (v := (x11 + (1 : Int32))) (lv' := [(11, .int (x11 + (1 : Int32))), (7, .long (t0 + t1)), (0, .ref (B + 101)), (1, .int x1), (2, .int x2), (3, .int x3), (4, .int x4), (5, .int x5), (9, .long y9)]) hx hb dX4_ill_240 hl (k := 8) rfl rfl (by decide) rfl (fun ls hl => ?_)
  refine lv_goto (tgt := 126) hx hb dX4_ill_243 (by decide) ?_
  exact hk126 _ _ _ _ _ _ hf hM (lv_sub hl [2, 3, 4, 5, 6, 7, 1, 8, 0] rfl)
set_option maxHeartbeats 4000000 in
set_option maxRecDepth 100000 in
theorem w_X4_ill_140 (C : wt_C p s m args meth c RX4 cX4_ill 15 (some .long) D tI tII) {F : Nat} {k126 : Int64 → Int32 → Mem → Option (Int64 × Mem)} {x1 : Int32} {x2 : Int32} {x3 : Int32} {x4 : Int32} {x5 : Int32} {y7 : Int64} {y9 : Int64} {x11 : Int32} {r : Int64} {σ' : Mem} (hk126 : ∀ (y7 : Int64) (x11 : Int32) (σ : Mem) (H : Heap) (locs : List Loc) (ls : Array Slot), k126 y7 x11 σ = some (r, σ') → wt_St D tI tII B σ s H locs → lv_has ls 15 [(0, .ref (B + 101)), (1, .int x1), (2, .int x2), (3, .int x3), (4, .int x4), (5, .int x5), (7, .long y7), (9, .long y9), (11, .int x11)] → W p l e rm_X4_ill s m args below meth c H locs 0 0 (MQ below (wt_Ql D tI tII B r σ') args s 0 0 (fun q => B ≤ q)) (F0 m 126 ls [])) : ∀ (N : Nat) (y12 : Int64) (x14 : Int32) (σ : Mem) (H : Heap) (locs : List Loc) (ls : Array Slot), lp_X4_ill_140 F k126 x1 x2 x3 x4 x5 y7 y9 x11 N y12 x14 σ = some (r, σ') → wt_St D tI tII B σ s H locs → lv_has ls 15 [(0, .ref (B + 101)), (1, .int x1), (2, .int x2), (3, .int x3), (4, .int x4), (5, .int x5), (7, .long y7), (9, .long y9), (11, .int x11), (12, .long y12), (14, .int x14)] → W p l e rm_X4_ill s m args below meth c H locs 0 0 (MQ below (wt_Ql D tI tII B r σ') args s 0 0 (fun q => B ≤ q)) (F0 m 140 ls []) := by
  obtain ⟨hx, hb, hts, hown, hml, hr, hlk, hK⟩ := id C
  intro N
  induction N with
  | zero => intro y12 x14 σ H locs ls hf; exact wt_none (show (none : Option (Int64 × Mem)) = some (r, σ') from hf)
  | succ N ih =>
    intro y12 x14 σ H locs ls hf hM hl
    replace hf := Eq.trans lp_X4_ill_140_s.symm hf
    refine lv_iload hx hb dX4_ill_140 (lv_at hl 10 rfl) ?_
    refine lv_iload_n hx hb dX4_ill_142 rfl (lv_at hl 3 rfl) ?_
    refine wq_icmp_ge (tgt := 176) hx hb dX4_ill_143 (by decide) hf (fun hf => ?_) (fun hf => ?_)
    · refine lv_aload_n hx hb dX4_ill_176 rfl (lv_at hl 0 rfl) ?_
      refine lv_iload_n hx hb dX4_ill_177 rfl (lv_at hl 2 rfl) ?_
      refine lv_iload_n hx hb dX4_ill_178 rfl (lv_at hl 3 rfl) ?_
      refine wt_callVi (As := [.int x2, .int x3]) (rest := []) hx hb hml hts hown hK hM wt_rc_X4 cw_X4_125 hd_X4_ownerIn rfl ⟨qz_b rfl, qz_b rfl⟩ ⟨rfl, rfl⟩ hl.1 rfl (qz_b rfl) dX4_ill_179 hf (fun _ _ h9 => c_X4_ownerIn h9) (fun r1 s2 H locs hf hM => ?_)
      refine lv_pop hx hb dX4_ill_182 rfl ?_
      refine lv_aload_n hx hb dX4_ill_183 rfl (lv_at hl 0 rfl) ?_
      refine gf_X4_looked  hx hb hts hown hK hM tw_723 dX4_ill_184 ?_
      refine lv_iload_n hx hb dX4_ill_187 rfl (lv_at hl 1 rfl) ?_
      refine lv_aload_n hx hb dX4_ill_188 rfl (lv_at hl 0 rfl) ?_
      refine gf_X4_counted  hx hb hts hown hK hM tw_717 dX4_ill_189 ?_
      refine lv_bipush (v := 8) hx hb dX4_ill_192 (by decide) ?_
      refine lv_iload_n hx hb dX4_ill_194 rfl (lv_at hl 1 rfl) ?_
      refine lv_imul hx hb dX4_ill_195 ?_
      refine lv_iload_n hx hb dX4_ill_196 rfl (lv_at hl 2 rfl) ?_
      refine lv_iadd hx hb dX4_ill_197 ?_
      obtain ⟨i3, hf⟩ := wt_chk_of hf
      refine wt_ild hx hb hK hM wt_a107 i3 dX4_ill_198 ?_
      refine lv_iload hx hb dX4_ill_199 (lv_at hl 8 rfl) ?_
      refine wt_callSi (As := [.int x11]) (rest := [.int (s2 107 (Int32.toNatClampNeg (((8 : Int32) * x1) + x2))), .int x1, .ref (B + 110)]) hx hb hml hts hown hK hM cw_X4_263 hd_X4_onesOf rfl ⟨qz_b rfl, qz_b rfl⟩ ⟨rfl, rfl⟩ hl.1 rfl (qz_b rfl) dX4_ill_201 hf (fun _ _ h9 => c_X4_onesOf h9) (fun r4 s5 H locs hf hM => ?_)
      refine lv_aload_n hx hb dX4_ill_204 rfl (lv_at hl 0 rfl) ?_
      refine gf_X4_brings  hx hb hts hown hK hM tw_722 dX4_ill_205 ?_
      refine lv_bipush (v := 8) hx hb dX4_ill_208 (by decide) ?_
      refine lv_iload_n hx hb dX4_ill_210 rfl (lv_at hl 1 rfl) ?_
      refine lv_imul hx hb dX4_ill_211 ?_
      refine lv_iload_n hx hb dX4_ill_212 rfl (lv_at hl 2 rfl) ?_
      refine lv_iadd hx hb dX4_ill_213 ?_
      refine wt_ild hx hb hK hM wt_a109 i3 dX4_ill_214 ?_
      refine lv_imul hx hb dX4_ill_215 ?_
      refine lv_iadd hx hb dX4_ill_216 ?_
      refine wt_callSi (As := [.int ((s2 107 (Int32.toNatClampNeg (((8 : Int32) * x1) + x2))) + (r4 * (s5 109 (Int32.toNatClampNeg (((8 : Int32) * x1) + x2)))))]) (rest := [.int x1, .ref (B + 110)]) hx hb hml hts hown hK hM cw_X4_118 hd_X4_held rfl ⟨qz_b rfl, qz_b rfl⟩ ⟨rfl, rfl⟩ hl.1 rfl (qz_b rfl) dX4_ill_217 hf (fun _ _ h9 => c_X4_held h9) (fun r6 s7 H locs hf hM => ?_)
      obtain ⟨i8, hf⟩ := wt_chk_of hf
      refine wt_ist hx hb hK hM wt_a110 i8 dX4_ill_220 hf (fun s9 H locs hf hM => ?_)
      refine lv_lload hx hb dX4_ill_221 (lv_at hl 6 rfl) ?_
      refine lv_aload_n hx hb dX4_ill_223 rfl (lv_at hl 0 rfl) ?_
      refine wt_callVi (As := []) (rest := [.long y7]) hx hb hml hts hown hK hM wt_rc_X4 cw_X4_122 hd_X4_ownerLooked rfl ⟨qz_b rfl, qz_b rfl⟩ ⟨rfl, rfl⟩ hl.1 rfl (qz_b rfl) dX4_ill_224 hf (fun _ _ h9 => c_X4_ownerLooked h9) (fun r10 s11 H locs hf hM => ?_)
      refine lv_iload_n hx hb dX4_ill_227 rfl (lv_at hl 1 rfl) ?_
      refine wq_icmp_ne (tgt := 236) hx hb dX4_ill_228 (by decide) hf (fun hf => ?_) (fun hf => ?_)
      · refine lv_lconst (v := 0) hx hb dX4_ill_236 (by decide) ?_
        exact w_X4_ill_237 C hk126 hf hM (lv_sub hl [0, 1, 2, 3, 4, 5, 7, 8] rfl)
      refine lv_lload hx hb dX4_ill_231 (lv_at hl 9 rfl) ?_
      refine lv_goto (tgt := 237) hx hb dX4_ill_233 (by decide) ?_
      exact w_X4_ill_237 C hk126 hf hM (lv_sub hl [0, 1, 2, 3, 4, 5, 7, 8] rfl)
    refine lv_lload hx hb dX4_ill_146 (lv_at hl 9 rfl) ?_
    refine lv_iload hx hb dX4_ill_148 (lv_at hl 8 rfl) ?_
    refine lv_iload hx hb dX4_ill_150 (lv_at hl 10 rfl) ?_
    refine wt_callSi (As := [.int x11, .int x14]) (rest := [.long y12]) hx hb hml hts hown hK hM cw_X4_104 hd_X4_hasBit rfl ⟨qz_b rfl, qz_b rfl⟩ ⟨rfl, rfl⟩ hl.1 rfl (qz_b rfl) dX4_ill_152 hf (fun _ _ h9 => c_X4_hasBit h9) (fun r12 s13 H locs hf hM => ?_)
    refine wq_if_eq (tgt := 166) hx hb dX4_ill_155 (by decide) hf (fun hf => ?_) (fun hf => ?_)
    · refine lv_lconst (v := 1) hx hb dX4_ill_166 (by decide) ?_
      exact w_X4_ill_167 C hk126 ih hf hM (lv_sub hl [0, 1, 2, 3, 4, 5, 6, 7, 8, 10] rfl)
    refine lv_iload hx hb dX4_ill_158 (lv_at hl 4 rfl) ?_
    refine lv_iconst (v := 1) hx hb dX4_ill_160 (by decide) ?_
    refine lv_isub hx hb dX4_ill_161 ?_
    refine lv_i2l (v := (Int32.toInt64 (x4 - (1 : Int32)))) hx hb dX4_ill_162 rfl ?_
    refine lv_goto (tgt := 167) hx hb dX4_ill_163 (by decide) ?_
    exact w_X4_ill_167 C hk126 ih hf hM (lv_sub hl [0, 1, 2, 3, 4, 5, 6, 7, 8, 10] rfl)
set_option maxHeartbeats 4000000 in
set_option maxRecDepth 100000 in
theorem w_X4_ill_126 (C : wt_C p s m args meth c RX4 cX4_ill 15 (some .long) D tI tII) {F : Nat} {x1 : Int32} {x2 : Int32} {x3 : Int32} {x4 : Int32} {x5 : Int32} {y9 : Int64} {r : Int64} {σ' : Mem} : ∀ (N : Nat) (y7 : Int64) (x11 : Int32) (σ : Mem) (H : Heap) (locs : List Loc) (ls : Array Slot), lp_X4_ill_126 F x1 x2 x3 x4 x5 y9 N y7 x11 σ = some (r, σ') → wt_St D tI tII B σ s H locs → lv_has ls 15 [(0, .ref (B + 101)), (1, .int x1), (2, .int x2), (3, .int x3), (4, .int x4), (5, .int x5), (7, .long y7), (9, .long y9), (11, .int x11)] → W p l e rm_X4_ill s m args below meth c H locs 0 0 (MQ below (wt_Ql D tI tII B r σ') args s 0 0 (fun q => B ≤ q)) (F0 m 126 ls []) := by
  obtain ⟨hx, hb, hts, hown, hml, hr, hlk, hK⟩ := id C
  intro N
  induction N with
  | zero => intro y7 x11 σ H locs ls hf; exact wt_none (show (none : Option (Int64 × Mem)) = some (r, σ') from hf)
  | succ N ih =>
    intro y7 x11 σ H locs ls hf hM hl
    replace hf := Eq.trans lp_X4_ill_126_s.symm hf
    refine lv_iload hx hb dX4_ill_126 (lv_at hl 8 rfl) ?_
    refine lv_iconst (v := 1) hx hb dX4_ill_128 (by decide) ?_
    refine lv_iload_n hx hb dX4_ill_129 rfl (lv_at hl 3 rfl) ?_
    refine lv_ishl hx hb dX4_ill_130 ?_
    refine wq_icmp_ge (tgt := 246) hx hb dX4_ill_131 (by decide) hf (fun hf => ?_) (fun hf => ?_)
    · refine lv_lload hx hb dX4_ill_246 (lv_at hl 6 rfl) ?_
      refine lv_lload hx hb dX4_ill_248 (lv_at hl 7 rfl) ?_
      refine lv_iload hx hb dX4_ill_250 (lv_at hl 5 rfl) ?_
      refine wt_callSl (As := [.long y7, .long y9, .int x5]) (rest := []) hx hb hml hts hown hK hM cw_X4_272 hd_X4_partOf rfl ⟨qz_b rfl, qz_b rfl⟩ ⟨rfl, rfl⟩ hl.1 rfl (qz_b rfl) dX4_ill_252 hf (fun _ _ h9 => c_X4_partOf h9) (fun r14 s15 H locs hf hM => ?_)
      exact wt_lret hx hb hr hlk hK hM hf dX4_ill_255
    refine lv_lconst (v := 1) hx hb dX4_ill_134 (by decide) ?_
    refine lv_lstore (lv' := [(12, .long (1 : Int64)), (0, .ref (B + 101)), (1, .int x1), (2, .int x2), (3, .int x3), (4, .int x4), (5, .int x5), (7, .long y7), (9, .long y9), (11, .int x11)]) hx hb dX4_ill_135 hl (by decide) rfl (fun ls hl => ?_)
    refine lv_iconst (v := 0) hx hb dX4_ill_137 (by decide) ?_
    refine lv_istore (lv' := [(14, .int (0 : Int32)), (12, .long (1 : Int64)), (0, .ref (B + 101)), (1, .int x1), (2, .int x2), (3, .int x3), (4, .int x4), (5, .int x5), (7, .long y7), (9, .long y9), (11, .int x11)]) hx hb dX4_ill_138 hl (by decide) rfl (fun ls hl => ?_)
    exact w_X4_ill_140 C ih _ _ _ _ _ _ _ hf hM (lv_sub hl [2, 3, 4, 5, 6, 7, 8, 9, 10, 1, 0] rfl)
set_option maxHeartbeats 4000000 in
set_option maxRecDepth 100000 in
theorem w_X4_ill_103 (C : wt_C p s m args meth c RX4 cX4_ill 15 (some .long) D tI tII) {F : Nat} {x1 : Int32} {x2 : Int32} {x3 : Int32} {x4 : Int32} {x5 : Int32} {y7 : Int64} {r : Int64} {σ' : Mem} : ∀ (N : Nat) (y9 : Int64) (x11 : Int32) (σ : Mem) (H : Heap) (locs : List Loc) (ls : Array Slot), lp_X4_ill_103 F x1 x2 x3 x4 x5 y7 N y9 x11 σ = some (r, σ') → wt_St D tI tII B σ s H locs → lv_has ls 15 [(0, .ref (B + 101)), (1, .int x1), (2, .int x2), (3, .int x3), (4, .int x4), (5, .int x5), (7, .long y7), (9, .long y9), (11, .int x11)] → W p l e rm_X4_ill s m args below meth c H locs 0 0 (MQ below (wt_Ql D tI tII B r σ') args s 0 0 (fun q => B ≤ q)) (F0 m 103 ls []) := by
  obtain ⟨hx, hb, hts, hown, hml, hr, hlk, hK⟩ := id C
  intro N
  induction N with
  | zero => intro y9 x11 σ H locs ls hf; exact wt_none (show (none : Option (Int64 × Mem)) = some (r, σ') from hf)
  | succ N ih =>
    intro y9 x11 σ H locs ls hf hM hl
    replace hf := Eq.trans lp_X4_ill_103_s.symm hf
    refine lv_iload hx hb dX4_ill_103 (lv_at hl 8 rfl) ?_
    refine lv_iload_n hx hb dX4_ill_105 rfl (lv_at hl 3 rfl) ?_
    refine wq_icmp_ge (tgt := 123) hx hb dX4_ill_106 (by decide) hf (fun hf => ?_) (fun hf => ?_)
    · refine lv_iconst (v := 0) hx hb dX4_ill_123 (by decide) ?_
      refine lv_istore (lv' := [(11, .int (0 : Int32)), (0, .ref (B + 101)), (1, .int x1), (2, .int x2), (3, .int x3), (4, .int x4), (5, .int x5), (7, .long y7), (9, .long y9)]) hx hb dX4_ill_124 hl (by decide) rfl (fun ls hl => ?_)
      exact w_X4_ill_126 C _ _ _ _ _ _ _ hf hM (lv_sub hl [1, 2, 3, 4, 5, 6, 7, 8, 0] rfl)
    refine lv_lload hx hb dX4_ill_109 (lv_at hl 7 rfl) ?_
    refine lv_iload hx hb dX4_ill_111 (lv_at hl 4 rfl) ?_
    refine lv_i2l (v := (Int32.toInt64 x4)) hx hb dX4_ill_113 rfl ?_
    refine lv_lmul hx hb dX4_ill_114 ?_
    refine wt_letl hf (fun z16 hf => ?_)
    refine lv_lstore (lv' := [(9, .long z16), (0, .ref (B + 101)), (1, .int x1), (2, .int x2), (3, .int x3), (4, .int x4), (5, .int x5), (7, .long y7), (11, .int x11)]) hx hb dX4_ill_115 hl (by decide) rfl (fun ls hl => ?_)
    refine lv_iinc (v := (x11 + (1 : Int32))) (lv' := [(11, .int (x11 + (1 : Int32))), (9, .long z16), (0, .ref (B + 101)), (1, .int x1), (2, .int x2), (3, .int x3), (4, .int x4), (5, .int x5), (7, .long y7)]) hx hb dX4_ill_117 hl (k := 8) rfl rfl (by decide) rfl (fun ls hl => ?_)
    refine lv_goto (tgt := 103) hx hb dX4_ill_120 (by decide) ?_
    exact ih _ _ _ _ _ _ hf hM (lv_sub hl [2, 3, 4, 5, 6, 7, 8, 1, 0] rfl)
set_option maxHeartbeats 4000000 in
set_option maxRecDepth 100000 in
theorem w_X4_ill_63 (C : wt_C p s m args meth c RX4 cX4_ill 15 (some .long) D tI tII) {F : Nat} {x1 : Int32} {x2 : Int32} {x3 : Int32} {x4 : Int32} {x5 : Int32} {x6 : Int32} {σ : Mem} {r : Int64} {σ' : Mem} {H : Heap} {locs : List Loc} {ls : Array Slot} (hf : j_X4_ill_63 F x1 x2 x3 x4 x5 x6 σ = some (r, σ')) (hM : wt_St D tI tII B σ s H locs) (hl : lv_has ls 15 [(0, .ref (B + 101)), (1, .int x1), (2, .int x2), (3, .int x3), (4, .int x4), (5, .int x5), (6, .int x6)]) : W p l e rm_X4_ill s m args below meth c H locs 0 0 (MQ below (wt_Ql D tI tII B r σ') args s 0 0 (fun q => B ≤ q)) (F0 m 63 ls []) := by
  obtain ⟨hx, hb, hts, hown, hml, hr, hlk, hK⟩ := id C
  replace hf := Eq.trans j_X4_ill_63_e.symm hf
  refine lv_iload hx hb dX4_ill_63 (lv_at hl 6 rfl) ?_
  refine lv_iload hx hb dX4_ill_65 (lv_at hl 5 rfl) ?_
  refine lv_iconst (v := 1) hx hb dX4_ill_67 (by decide) ?_
  refine wt_callSi (As := [.int x6, .int x5, .int (1 : Int32)]) (rest := []) hx hb hml hts hown hK hM cw_X4_251 hd_X4_wrongBit rfl ⟨qz_b rfl, qz_b rfl⟩ ⟨rfl, rfl⟩ hl.1 rfl (qz_b rfl) dX4_ill_68 hf (fun _ _ h9 => c_X4_wrongBit h9) (fun r17 s18 H locs hf hM => ?_)
  refine lv_istore (lv' := [(6, .int r17), (0, .ref (B + 101)), (1, .int x1), (2, .int x2), (3, .int x3), (4, .int x4), (5, .int x5)]) hx hb dX4_ill_71 hl (by decide) rfl (fun ls hl => ?_)
  refine lv_iload hx hb dX4_ill_73 (lv_at hl 0 rfl) ?_
  refine wq_if_ge (tgt := 90) hx hb dX4_ill_75 (by decide) hf (fun hf => ?_) (fun hf => ?_)
  · refine lv_aload_n hx hb dX4_ill_90 rfl (lv_at hl 1 rfl) ?_
    refine wt_callVv (As := []) (rest := []) hx hb hml hts hown hK hM wt_rc_X4 cw_X4_134 hd_X4_layBrings rfl ⟨qz_b rfl, qz_b rfl⟩ ⟨rfl, rfl⟩ hl.1 rfl (qz_b rfl) dX4_ill_91 hf (fun _ _ h9 => c_X4_layBrings h9) (fun r19 s20 H locs hf hM => ?_)
    refine lv_lconst (v := 0) hx hb dX4_ill_94 (by decide) ?_
    refine lv_lstore (lv' := [(7, .long (0 : Int64)), (6, .int r17), (0, .ref (B + 101)), (1, .int x1), (2, .int x2), (3, .int x3), (4, .int x4), (5, .int x5)]) hx hb dX4_ill_95 hl (by decide) rfl (fun ls hl => ?_)
    refine lv_lconst (v := 1) hx hb dX4_ill_97 (by decide) ?_
    refine lv_lstore (lv' := [(9, .long (1 : Int64)), (7, .long (0 : Int64)), (6, .int r17), (0, .ref (B + 101)), (1, .int x1), (2, .int x2), (3, .int x3), (4, .int x4), (5, .int x5)]) hx hb dX4_ill_98 hl (by decide) rfl (fun ls hl => ?_)
    refine lv_iconst (v := 0) hx hb dX4_ill_100 (by decide) ?_
    refine lv_istore (lv' := [(11, .int (0 : Int32)), (9, .long (1 : Int64)), (7, .long (0 : Int64)), (6, .int r17), (0, .ref (B + 101)), (1, .int x1), (2, .int x2), (3, .int x3), (4, .int x4), (5, .int x5)]) hx hb dX4_ill_101 hl (by decide) rfl (fun ls hl => ?_)
    exact w_X4_ill_103 C _ _ _ _ _ _ _ hf hM (lv_sub hl [4, 5, 6, 7, 8, 9, 2, 1, 0] rfl)
  refine lv_ldc2 (v := 4000000000000000000) hx hb hown (hts _ tw_1101) dX4_ill_78 ?_
  refine lv_aload_n hx hb dX4_ill_81 rfl (lv_at hl 1 rfl) ?_
  refine lv_iload hx hb dX4_ill_82 (lv_at hl 0 rfl) ?_
  refine wt_callVi (As := [.int r17]) (rest := [.long (4000000000000000000 : Int64)]) hx hb hml hts hown hK hM wt_rc_X4 cw_X4_143 hd_X4_refuse rfl ⟨qz_b rfl, qz_b rfl⟩ ⟨rfl, rfl⟩ hl.1 rfl (qz_b rfl) dX4_ill_84 hf (fun _ _ h9 => c_X4_refuse h9) (fun r21 s22 H locs hf hM => ?_)
  refine lv_i2l (v := (Int32.toInt64 r21)) hx hb dX4_ill_87 rfl ?_
  refine lv_lsub hx hb dX4_ill_88 ?_
  exact wt_lret hx hb hr hlk hK hM hf dX4_ill_89
set_option maxHeartbeats 4000000 in
set_option maxRecDepth 100000 in
theorem w_X4_ill_23 (C : wt_C p s m args meth c RX4 cX4_ill 15 (some .long) D tI tII) {F : Nat} {x1 : Int32} {x2 : Int32} {x3 : Int32} {x4 : Int32} {x5 : Int32} {σ : Mem} {r : Int64} {σ' : Mem} {H : Heap} {locs : List Loc} {ls : Array Slot} (hf : j_X4_ill_23 F x1 x2 x3 x4 x5 σ = some (r, σ')) (hM : wt_St D tI tII B σ s H locs) (hl : lv_has ls 15 [(0, .ref (B + 101)), (1, .int x1), (2, .int x2), (3, .int x3), (4, .int x4), (5, .int x5)]) : W p l e rm_X4_ill s m args below meth c H locs 0 0 (MQ below (wt_Ql D tI tII B r σ') args s 0 0 (fun q => B ≤ q)) (F0 m 23 ls []) := by
  obtain ⟨hx, hb, hts, hown, hml, hr, hlk, hK⟩ := id C
  replace hf := Eq.trans j_X4_ill_23_e.symm hf
  refine lv_iconst (v := -1) hx hb dX4_ill_23 (by decide) ?_
  refine lv_istore (lv' := [(6, .int (-1 : Int32)), (0, .ref (B + 101)), (1, .int x1), (2, .int x2), (3, .int x3), (4, .int x4), (5, .int x5)]) hx hb dX4_ill_24 hl (by decide) rfl (fun ls hl => ?_)
  refine lv_goto (tgt := 63) hx hb dX4_ill_26 (by decide) ?_
  exact w_X4_ill_63 C hf hM (lv_sub hl [1, 2, 3, 4, 5, 6, 0] rfl)
set_option maxHeartbeats 4000000 in
set_option maxRecDepth 100000 in
theorem w_X4_ill_39 (C : wt_C p s m args meth c RX4 cX4_ill 15 (some .long) D tI tII) {F : Nat} {x1 : Int32} {x2 : Int32} {x3 : Int32} {x4 : Int32} {x5 : Int32} {σ : Mem} {r : Int64} {σ' : Mem} {H : Heap} {locs : List Loc} {ls : Array Slot} (hf : j_X4_ill_39 F x1 x2 x3 x4 x5 σ = some (r, σ')) (hM : wt_St D tI tII B σ s H locs) (hl : lv_has ls 15 [(0, .ref (B + 101)), (1, .int x1), (2, .int x2), (3, .int x3), (4, .int x4), (5, .int x5)]) : W p l e rm_X4_ill s m args below meth c H locs 0 0 (MQ below (wt_Ql D tI tII B r σ') args s 0 0 (fun q => B ≤ q)) (F0 m 39 ls []) := by
  obtain ⟨hx, hb, hts, hown, hml, hr, hlk, hK⟩ := id C
  replace hf := Eq.trans j_X4_ill_39_e.symm hf
  refine lv_bipush (v := -4) hx hb dX4_ill_39 (by decide) ?_
  refine lv_istore (lv' := [(6, .int (-4 : Int32)), (0, .ref (B + 101)), (1, .int x1), (2, .int x2), (3, .int x3), (4, .int x4), (5, .int x5)]) hx hb dX4_ill_41 hl (by decide) rfl (fun ls hl => ?_)
  refine lv_goto (tgt := 63) hx hb dX4_ill_43 (by decide) ?_
  exact w_X4_ill_63 C hf hM (lv_sub hl [1, 2, 3, 4, 5, 6, 0] rfl)
set_option maxHeartbeats 4000000 in
set_option maxRecDepth 100000 in
theorem w_X4_ill_59 (C : wt_C p s m args meth c RX4 cX4_ill 15 (some .long) D tI tII) {F : Nat} {x1 : Int32} {x2 : Int32} {x3 : Int32} {x4 : Int32} {x5 : Int32} {σ : Mem} {r : Int64} {σ' : Mem} {H : Heap} {locs : List Loc} {ls : Array Slot} (hf : j_X4_ill_59 F x1 x2 x3 x4 x5 σ = some (r, σ')) (hM : wt_St D tI tII B σ s H locs) (hl : lv_has ls 15 [(0, .ref (B + 101)), (1, .int x1), (2, .int x2), (3, .int x3), (4, .int x4), (5, .int x5)]) : W p l e rm_X4_ill s m args below meth c H locs 0 0 (MQ below (wt_Ql D tI tII B r σ') args s 0 0 (fun q => B ≤ q)) (F0 m 59 ls []) := by
  obtain ⟨hx, hb, hts, hown, hml, hr, hlk, hK⟩ := id C
  replace hf := Eq.trans j_X4_ill_59_e.symm hf
  refine lv_bipush (v := -6) hx hb dX4_ill_59 (by decide) ?_
  refine lv_istore (lv' := [(6, .int (-6 : Int32)), (0, .ref (B + 101)), (1, .int x1), (2, .int x2), (3, .int x3), (4, .int x4), (5, .int x5)]) hx hb dX4_ill_61 hl (by decide) rfl (fun ls hl => ?_)
  exact w_X4_ill_63 C hf hM (lv_sub hl [1, 2, 3, 4, 5, 6, 0] rfl)
set_option maxHeartbeats 4000000 in
set_option maxRecDepth 100000 in
theorem w_X4_ill_0 (C : wt_C p s m args meth c RX4 cX4_ill 15 (some .long) D tI tII) {F : Nat} {x1 : Int32} {x2 : Int32} {x3 : Int32} {x4 : Int32} {x5 : Int32} {σ : Mem} {r : Int64} {σ' : Mem} {H : Heap} {locs : List Loc} {ls : Array Slot} (hf : f_X4_ill F x1 x2 x3 x4 x5 σ = some (r, σ')) (hM : wt_St D tI tII B σ s H locs) (hl : lv_has ls 15 [(0, .ref (B + 101)), (1, .int x1), (2, .int x2), (3, .int x3), (4, .int x4), (5, .int x5)]) : W p l e rm_X4_ill s m args below meth c H locs 0 0 (MQ below (wt_Ql D tI tII B r σ') args s 0 0 (fun q => B ≤ q)) (F0 m 0 ls []) := by
  obtain ⟨hx, hb, hts, hown, hml, hr, hlk, hK⟩ := id C
  replace hf := Eq.trans f_X4_ill_e.symm hf
  refine lv_aload_n hx hb dX4_ill_0 rfl (lv_at hl 0 rfl) ?_
  refine lv_iconst (v := 0) hx hb dX4_ill_1 (by decide) ?_
  refine pf_X4_thrown  hx hb hts hown hK hM tw_720 dX4_ill_2 hf (fun s23 H locs hf hM => ?_)
  refine lv_iconst (v := 0) hx hb dX4_ill_5 (by decide) ?_
  refine lv_istore (lv' := [(6, .int (0 : Int32)), (0, .ref (B + 101)), (1, .int x1), (2, .int x2), (3, .int x3), (4, .int x4), (5, .int x5)]) hx hb dX4_ill_6 hl (by decide) rfl (fun ls hl => ?_)
  refine lv_aload_n hx hb dX4_ill_8 rfl (lv_at hl 1 rfl) ?_
  refine lv_iload_n hx hb dX4_ill_9 rfl (lv_at hl 2 rfl) ?_
  refine wt_callVi (As := [.int x1]) (rest := []) hx hb hml hts hown hK hM wt_rc_X4 cw_X4_88 hd_X4_isLooker rfl ⟨qz_b rfl, qz_b rfl⟩ ⟨rfl, rfl⟩ hl.1 rfl (qz_b rfl) dX4_ill_10 hf (fun _ _ h9 => c_X4_isLooker h9) (fun r24 s25 H locs hf hM => ?_)
  refine wq_if_eq (tgt := 23) hx hb dX4_ill_13 (by decide) hf (fun hf => ?_) (fun hf => ?_)
  · exact w_X4_ill_23 C hf hM (lv_sub hl [1, 2, 3, 4, 5, 6] rfl)
  refine lv_iload_n hx hb dX4_ill_16 rfl (lv_at hl 3 rfl) ?_
  refine wt_callSi (As := [.int x2]) (rest := []) hx hb hml hts hown hK hM cw_X4_243 hd_X4_isView rfl ⟨qz_b rfl, qz_b rfl⟩ ⟨rfl, rfl⟩ hl.1 rfl (qz_b rfl) dX4_ill_17 hf (fun _ _ h9 => c_X4_isView h9) (fun r26 s27 H locs hf hM => ?_)
  refine wq_if_ne (tgt := 29) hx hb dX4_ill_20 (by decide) hf (fun hf => ?_) (fun hf => ?_)
  · refine lv_iload_n hx hb dX4_ill_29 rfl (lv_at hl 4 rfl) ?_
    refine wq_if_lt (tgt := 39) hx hb dX4_ill_30 (by decide) hf (fun hf => ?_) (fun hf => ?_)
    · exact w_X4_ill_39 C hf hM (lv_sub hl [1, 2, 3, 4, 5, 6] rfl)
    refine lv_iload hx hb dX4_ill_33 (lv_at hl 5 rfl) ?_
    refine lv_iconst (v := 2) hx hb dX4_ill_35 (by decide) ?_
    refine wq_icmp_ge (tgt := 46) hx hb dX4_ill_36 (by decide) hf (fun hf => ?_) (fun hf => ?_)
    · refine lv_iload_n hx hb dX4_ill_46 rfl (lv_at hl 4 rfl) ?_
      refine lv_bipush (v := 8) hx hb dX4_ill_47 (by decide) ?_
      refine wq_icmp_gt (tgt := 59) hx hb dX4_ill_49 (by decide) hf (fun hf => ?_) (fun hf => ?_)
      · exact w_X4_ill_59 C hf hM (lv_sub hl [1, 2, 3, 4, 5, 6] rfl)
      refine lv_iload hx hb dX4_ill_52 (lv_at hl 5 rfl) ?_
      refine lv_bipush (v := 20) hx hb dX4_ill_54 (by decide) ?_
      refine wq_icmp_le (tgt := 63) hx hb dX4_ill_56 (by decide) hf (fun hf => ?_) (fun hf => ?_)
      · exact w_X4_ill_63 C hf hM (lv_sub hl [1, 2, 3, 4, 5, 6, 0] rfl)
      exact w_X4_ill_59 C hf hM (lv_sub hl [1, 2, 3, 4, 5, 6] rfl)
    exact w_X4_ill_39 C hf hM (lv_sub hl [1, 2, 3, 4, 5, 6] rfl)
  exact w_X4_ill_23 C hf hM (lv_sub hl [1, 2, 3, 4, 5, 6] rfl)
end
set_option maxHeartbeats 4000000 in
set_option maxRecDepth 100000 in
theorem c_X4_ill {l : Launch} {D : va_G} {tI tII : ClassId} {B F : Nat} {x1 : Int32} {x2 : Int32} {x3 : Int32} {x4 : Int32} {x5 : Int32} {σ σ' : Mem} {r : Int64} (hf : f_X4_ill F x1 x2 x3 x4 x5 σ = some (r, σ')) : wt_Ml l yX4_ill cX4_ill 15 (some .long) rm_X4_ill [.ref (B + 101), .int x1, .int x2, .int x3, .int x4, .int x5] D tI tII B σ r σ' := by
  refine Met.ofW (cc := cX4_ill) (maxL := 15) (ret := (some .long)) (by decide) rfl ?_
  intro p e s m args below meth c s₁ B9 hml hv
  obtain ⟨rfl, hP, hK⟩ := hv
  have hl := lv_entry ([.ref (B + 101), .int x1, .int x2, .int x3, .int x4, .int x5]) (n := 15) (qz_b rfl)
  rw [lg_entry_eq]
  generalize (lg_sl ([.ref (B + 101), .int x1, .int x2, .int x3, .int x4, .int x5]) ++ List.replicate (15 - (lg_sl ([.ref (B + 101), .int x1, .int x2, .int x3, .int x4, .int x5])).length) Slot.unset).toArray = ls at hl ⊢
  exact w_X4_ill_0 (wt_C_of B9 hml hK) hf ⟨hP, va_S.rf⟩ hl
section
variable {p : Program} {l : Launch} {e : Env} {s : State} {m : MethodId} {args : Array Value} {below : List Frame} {meth : Method} {c : Code} {D : va_G} {tI tII : ClassId} {B : Nat}
set_option maxHeartbeats 4000000 in
set_option maxRecDepth 100000 in
theorem w_X4_standing_32 (C : wt_C p s m args meth c RX4 cX4_standing 4 (some .int) D tI tII) {F : Nat} {k4 : Int32 → Int32 → Mem → Option (Int32 × Mem)} {x1 : Int32} {x3 : Int32} {t0 : Int32} {t1 : Int32} {σ : Mem} {r : Int32} {σ' : Mem} {H : Heap} {locs : List Loc} {ls : Array Slot} (hk4 : ∀ (x2 : Int32) (x3 : Int32) (σ : Mem) (H : Heap) (locs : List Loc) (ls : Array Slot), k4 x2 x3 σ = some (r, σ') → wt_St D tI tII B σ s H locs → lv_has ls 4 [(0, .ref (B + 101)), (1, .int x1), (2, .int x2), (3, .int x3)] → W p l e rm_X4_standing s m args below meth c H locs 0 0 (MQ below (wt_Qi D tI tII B r σ') args s 0 0 (fun q => B ≤ q)) (F0 m 4 ls [])) (hf : j_X4_standing_32 F k4 x1 x3 t0 t1 σ = some (r, σ')) (hM : wt_St D tI tII B σ s H locs) (hl : lv_has ls 4 [(0, .ref (B + 101)), (1, .int x1), (3, .int x3)]) : W p l e rm_X4_standing s m args below meth c H locs 0 0 (MQ below (wt_Qi D tI tII B r σ') args s 0 0 (fun q => B ≤ q)) (F0 m 32 ls [.int t1, .int t0]) := by
  obtain ⟨hx, hb, hts, hown, hml, hr, hlk, hK⟩ := id C
  replace hf := Eq.trans j_X4_standing_32_e.symm hf
  refine lv_iadd hx hb dX4_standing_32 ?_
  refine lv_istore_n (lv' := [(2, .int (t0 + t1)), (0, .ref (B + 101)), (1, .int x1), (3, .int x3)]) hx hb dX4_standing_33 rfl hl (by decide) rfl (fun ls hl => ?_)
  refine lv_iinc (v := (x3 + (1 : Int32))) (lv' := [(3, .int (x3 + (1 : Int32))), (2, .int (t0 + t1)), (0, .ref (B + 101)), (1, .int x1)]) hx hb dX4_standing_34 hl (k := 3) rfl rfl (by decide) rfl (fun ls hl => ?_)
  refine lv_goto (tgt := 4) hx hb dX4_standing_37 (by decide) ?_
  exact hk4 _ _ _ _ _ _ hf hM (lv_sub hl [2, 3, 1, 0] rfl)
set_option maxHeartbeats 4000000 in
set_option maxRecDepth 100000 in
theorem w_X4_standing_4 (C : wt_C p s m args meth c RX4 cX4_standing 4 (some .int) D tI tII) {F : Nat} {x1 : Int32} {r : Int32} {σ' : Mem} : ∀ (N : Nat) (x2 : Int32) (x3 : Int32) (σ : Mem) (H : Heap) (locs : List Loc) (ls : Array Slot), lp_X4_standing_4 F x1 N x2 x3 σ = some (r, σ') → wt_St D tI tII B σ s H locs → lv_has ls 4 [(0, .ref (B + 101)), (1, .int x1), (2, .int x2), (3, .int x3)] → W p l e rm_X4_standing s m args below meth c H locs 0 0 (MQ below (wt_Qi D tI tII B r σ') args s 0 0 (fun q => B ≤ q)) (F0 m 4 ls []) := by
  obtain ⟨hx, hb, hts, hown, hml, hr, hlk, hK⟩ := id C
  intro N
  induction N with
  | zero => intro x2 x3 σ H locs ls hf; exact wt_none (show (none : Option (Int32 × Mem)) = some (r, σ') from hf)
  | succ N ih =>
    intro x2 x3 σ H locs ls hf hM hl
    replace hf := Eq.trans lp_X4_standing_4_s.symm hf
    refine lv_iload_n hx hb dX4_standing_4 rfl (lv_at hl 3 rfl) ?_
    refine lv_aload_n hx hb dX4_standing_5 rfl (lv_at hl 0 rfl) ?_
    refine gf_X4_lookers  hx hb hts hown hK hM tw_713 dX4_standing_6 ?_
    refine wq_icmp_ge (tgt := 40) hx hb dX4_standing_9 (by decide) hf (fun hf => ?_) (fun hf => ?_)
    · refine lv_iload_n hx hb dX4_standing_40 rfl (lv_at hl 2 rfl) ?_
      exact wt_iret hx hb hr hlk hK hM hf dX4_standing_41
    refine lv_iload_n hx hb dX4_standing_12 rfl (lv_at hl 2 rfl) ?_
    refine lv_aload_n hx hb dX4_standing_13 rfl (lv_at hl 0 rfl) ?_
    refine gf_X4_rosters  hx hb hts hown hK hM tw_716 dX4_standing_14 ?_
    refine lv_bipush (v := 24) hx hb dX4_standing_17 (by decide) ?_
    refine lv_iload_n hx hb dX4_standing_19 rfl (lv_at hl 3 rfl) ?_
    refine lv_imul hx hb dX4_standing_20 ?_
    refine lv_iload_n hx hb dX4_standing_21 rfl (lv_at hl 1 rfl) ?_
    refine lv_iadd hx hb dX4_standing_22 ?_
    obtain ⟨i1, hf⟩ := wt_chk_of hf
    refine wt_ild hx hb hK hM wt_a106 i1 dX4_standing_23 ?_
    refine wq_if_lt (tgt := 31) hx hb dX4_standing_24 (by decide) hf (fun hf => ?_) (fun hf => ?_)
    · refine lv_iconst (v := 0) hx hb dX4_standing_31 (by decide) ?_
      exact w_X4_standing_32 C ih hf hM (lv_sub hl [0, 1, 3] rfl)
    refine lv_iconst (v := 1) hx hb dX4_standing_27 (by decide) ?_
    refine lv_goto (tgt := 32) hx hb dX4_standing_28 (by decide) ?_
    exact w_X4_standing_32 C ih hf hM (lv_sub hl [0, 1, 3] rfl)
set_option maxHeartbeats 4000000 in
set_option maxRecDepth 100000 in
theorem w_X4_standing_0 (C : wt_C p s m args meth c RX4 cX4_standing 4 (some .int) D tI tII) {F : Nat} {x1 : Int32} {σ : Mem} {r : Int32} {σ' : Mem} {H : Heap} {locs : List Loc} {ls : Array Slot} (hf : f_X4_standing F x1 σ = some (r, σ')) (hM : wt_St D tI tII B σ s H locs) (hl : lv_has ls 4 [(0, .ref (B + 101)), (1, .int x1)]) : W p l e rm_X4_standing s m args below meth c H locs 0 0 (MQ below (wt_Qi D tI tII B r σ') args s 0 0 (fun q => B ≤ q)) (F0 m 0 ls []) := by
  obtain ⟨hx, hb, hts, hown, hml, hr, hlk, hK⟩ := id C
  replace hf := Eq.trans f_X4_standing_e.symm hf
  refine lv_iconst (v := 0) hx hb dX4_standing_0 (by decide) ?_
  refine lv_istore_n (lv' := [(2, .int (0 : Int32)), (0, .ref (B + 101)), (1, .int x1)]) hx hb dX4_standing_1 rfl hl (by decide) rfl (fun ls hl => ?_)
  refine lv_iconst (v := 0) hx hb dX4_standing_2 (by decide) ?_
  refine lv_istore_n (lv' := [(3, .int (0 : Int32)), (2, .int (0 : Int32)), (0, .ref (B + 101)), (1, .int x1)]) hx hb dX4_standing_3 rfl hl (by decide) rfl (fun ls hl => ?_)
  exact w_X4_standing_4 C _ _ _ _ _ _ _ hf hM (lv_sub hl [2, 3, 1, 0] rfl)
end
set_option maxHeartbeats 4000000 in
set_option maxRecDepth 100000 in
theorem c_X4_standing {l : Launch} {D : va_G} {tI tII : ClassId} {B F : Nat} {x1 : Int32} {σ σ' : Mem} {r : Int32} (hf : f_X4_standing F x1 σ = some (r, σ')) : wt_Mi l yX4_standing cX4_standing 4 (some .int) rm_X4_standing [.ref (B + 101), .int x1] D tI tII B σ r σ' := by
  refine Met.ofW (cc := cX4_standing) (maxL := 4) (ret := (some .int)) (by decide) rfl ?_
  intro p e s m args below meth c s₁ B9 hml hv
  obtain ⟨rfl, hP, hK⟩ := hv
  have hl := lv_entry ([.ref (B + 101), .int x1]) (n := 4) (qz_b rfl)
  rw [lg_entry_eq]
  generalize (lg_sl ([.ref (B + 101), .int x1]) ++ List.replicate (4 - (lg_sl ([.ref (B + 101), .int x1])).length) Slot.unset).toArray = ls at hl ⊢
  exact w_X4_standing_0 (wt_C_of B9 hml hK) hf ⟨hP, va_S.rf⟩ hl
section
variable {p : Program} {l : Launch} {e : Env} {s : State} {m : MethodId} {args : Array Value} {below : List Frame} {meth : Method} {c : Code} {D : va_G} {tI tII : ClassId} {B : Nat}
set_option maxHeartbeats 4000000 in
set_option maxRecDepth 100000 in
theorem w_X4_busy_50 (C : wt_C p s m args meth c RX4 cX4_busy 4 (some .int) D tI tII) {F : Nat} {k26 : Int32 → Int32 → Mem → Option (Int32 × Mem)} {x1 : Int32} {x3 : Int32} {t0 : Int32} {σ : Mem} {r : Int32} {σ' : Mem} {H : Heap} {locs : List Loc} {ls : Array Slot} (hk26 : ∀ (x2 : Int32) (x3 : Int32) (σ : Mem) (H : Heap) (locs : List Loc) (ls : Array Slot), k26 x2 x3 σ = some (r, σ') → wt_St D tI tII B σ s H locs → lv_has ls 4 [(0, .ref (B + 101)), (1, .int x1), (2, .int x2), (3, .int x3)] → W p l e rm_X4_busy s m args below meth c H locs 0 0 (MQ below (wt_Qi D tI tII B r σ') args s 0 0 (fun q => B ≤ q)) (F0 m 26 ls [])) (hf : j_X4_busy_50 F k26 x1 x3 t0 σ = some (r, σ')) (hM : wt_St D tI tII B σ s H locs) (hl : lv_has ls 4 [(0, .ref (B + 101)), (1, .int x1), (3, .int x3)]) : W p l e rm_X4_busy s m args below meth c H locs 0 0 (MQ below (wt_Qi D tI tII B r σ') args s 0 0 (fun q => B ≤ q)) (F0 m 50 ls [.int t0]) := by
  obtain ⟨hx, hb, hts, hown, hml, hr, hlk, hK⟩ := id C
  replace hf := Eq.trans j_X4_busy_50_e.symm hf
  refine lv_istore_n (lv' := [(2, .int t0), (0, .ref (B + 101)), (1, .int x1), (3, .int x3)]) hx hb dX4_busy_50 rfl hl (by decide) rfl (fun ls hl => ?_)
  refine lv_iinc (v := (x3 + (1 : Int32))) (lv' := [(3, .int (x3 + (1 : Int32))), (2, .int t0), (0, .ref (B + 101)), (1, .int x1)]) hx hb dX4_busy_51 hl (k := 3) rfl rfl (by decide) rfl (fun ls hl => ?_)
  refine lv_goto (tgt := 26) hx hb dX4_busy_54 (by decide) ?_
  exact hk26 _ _ _ _ _ _ hf hM (lv_sub hl [2, 3, 1, 0] rfl)
set_option maxHeartbeats 4000000 in
set_option maxRecDepth 100000 in
theorem w_X4_busy_26 (C : wt_C p s m args meth c RX4 cX4_busy 4 (some .int) D tI tII) {F : Nat} {x1 : Int32} {r : Int32} {σ' : Mem} : ∀ (N : Nat) (x2 : Int32) (x3 : Int32) (σ : Mem) (H : Heap) (locs : List Loc) (ls : Array Slot), lp_X4_busy_26 F x1 N x2 x3 σ = some (r, σ') → wt_St D tI tII B σ s H locs → lv_has ls 4 [(0, .ref (B + 101)), (1, .int x1), (2, .int x2), (3, .int x3)] → W p l e rm_X4_busy s m args below meth c H locs 0 0 (MQ below (wt_Qi D tI tII B r σ') args s 0 0 (fun q => B ≤ q)) (F0 m 26 ls []) := by
  obtain ⟨hx, hb, hts, hown, hml, hr, hlk, hK⟩ := id C
  intro N
  induction N with
  | zero => intro x2 x3 σ H locs ls hf; exact wt_none (show (none : Option (Int32 × Mem)) = some (r, σ') from hf)
  | succ N ih =>
    intro x2 x3 σ H locs ls hf hM hl
    replace hf := Eq.trans lp_X4_busy_26_s.symm hf
    refine lv_iload_n hx hb dX4_busy_26 rfl (lv_at hl 3 rfl) ?_
    refine lv_bipush (v := 24) hx hb dX4_busy_27 (by decide) ?_
    refine wq_icmp_ge (tgt := 57) hx hb dX4_busy_29 (by decide) hf (fun hf => ?_) (fun hf => ?_)
    · refine lv_iload_n hx hb dX4_busy_57 rfl (lv_at hl 1 rfl) ?_
      refine wq_if_ne (tgt := 65) hx hb dX4_busy_58 (by decide) hf (fun hf => ?_) (fun hf => ?_)
      · refine lv_aload_n hx hb dX4_busy_65 rfl (lv_at hl 0 rfl) ?_
        refine lv_iload_n hx hb dX4_busy_66 rfl (lv_at hl 2 rfl) ?_
        refine wt_callVi (As := [.int x2]) (rest := []) hx hb hml hts hown hK hM wt_rc_X4 cw_X4_285 hd_X4_standing rfl ⟨qz_b rfl, qz_b rfl⟩ ⟨rfl, rfl⟩ hl.1 rfl (qz_b rfl) dX4_busy_67 hf (fun _ _ h9 => c_X4_standing h9) (fun r1 s2 H locs hf hM => ?_)
        exact wt_iret hx hb hr hlk hK hM hf dX4_busy_70
      refine lv_iload_n hx hb dX4_busy_61 rfl (lv_at hl 2 rfl) ?_
      refine lv_goto (tgt := 70) hx hb dX4_busy_62 (by decide) ?_
      exact wt_iret hx hb hr hlk hK hM hf dX4_busy_70
    refine lv_aload_n hx hb dX4_busy_32 rfl (lv_at hl 0 rfl) ?_
    refine lv_iload_n hx hb dX4_busy_33 rfl (lv_at hl 3 rfl) ?_
    refine wt_callVi (As := [.int x3]) (rest := []) hx hb hml hts hown hK hM wt_rc_X4 cw_X4_285 hd_X4_standing rfl ⟨qz_b rfl, qz_b rfl⟩ ⟨rfl, rfl⟩ hl.1 rfl (qz_b rfl) dX4_busy_34 hf (fun _ _ h9 => c_X4_standing h9) (fun r3 s4 H locs hf hM => ?_)
    refine lv_aload_n hx hb dX4_busy_37 rfl (lv_at hl 0 rfl) ?_
    refine lv_iload_n hx hb dX4_busy_38 rfl (lv_at hl 2 rfl) ?_
    refine wt_callVi (As := [.int x2]) (rest := [.int r3]) hx hb hml hts hown hK hM wt_rc_X4 cw_X4_285 hd_X4_standing rfl ⟨qz_b rfl, qz_b rfl⟩ ⟨rfl, rfl⟩ hl.1 rfl (qz_b rfl) dX4_busy_39 hf (fun _ _ h9 => c_X4_standing h9) (fun r5 s6 H locs hf hM => ?_)
    refine wq_icmp_le (tgt := 49) hx hb dX4_busy_42 (by decide) hf (fun hf => ?_) (fun hf => ?_)
    · refine lv_iload_n hx hb dX4_busy_49 rfl (lv_at hl 2 rfl) ?_
      exact w_X4_busy_50 C ih hf hM (lv_sub hl [0, 1, 3] rfl)
    refine lv_iload_n hx hb dX4_busy_45 rfl (lv_at hl 3 rfl) ?_
    refine lv_goto (tgt := 50) hx hb dX4_busy_46 (by decide) ?_
    exact w_X4_busy_50 C ih hf hM (lv_sub hl [0, 1, 3] rfl)
set_option maxHeartbeats 4000000 in
set_option maxRecDepth 100000 in
theorem w_X4_busy_0 (C : wt_C p s m args meth c RX4 cX4_busy 4 (some .int) D tI tII) {F : Nat} {x1 : Int32} {σ : Mem} {r : Int32} {σ' : Mem} {H : Heap} {locs : List Loc} {ls : Array Slot} (hf : f_X4_busy F x1 σ = some (r, σ')) (hM : wt_St D tI tII B σ s H locs) (hl : lv_has ls 4 [(0, .ref (B + 101)), (1, .int x1)]) : W p l e rm_X4_busy s m args below meth c H locs 0 0 (MQ below (wt_Qi D tI tII B r σ') args s 0 0 (fun q => B ≤ q)) (F0 m 0 ls []) := by
  obtain ⟨hx, hb, hts, hown, hml, hr, hlk, hK⟩ := id C
  replace hf := Eq.trans f_X4_busy_e.symm hf
  refine lv_aload_n hx hb dX4_busy_0 rfl (lv_at hl 0 rfl) ?_
  refine lv_iconst (v := 0) hx hb dX4_busy_1 (by decide) ?_
  refine pf_X4_thrown  hx hb hts hown hK hM tw_720 dX4_busy_2 hf (fun s7 H locs hf hM => ?_)
  refine lv_iload_n hx hb dX4_busy_5 rfl (lv_at hl 1 rfl) ?_
  refine lv_i2l (v := (Int32.toInt64 x1)) hx hb dX4_busy_6 rfl ?_
  refine lv_lconst (v := 0) hx hb dX4_busy_7 (by decide) ?_
  refine lv_lconst (v := 1) hx hb dX4_busy_8 (by decide) ?_
  refine wt_callSi (As := [.long (Int32.toInt64 x1), .long (0 : Int64), .long (1 : Int64)]) (rest := []) hx hb hml hts hown hK hM cw_X4_77 hd_X4_in rfl ⟨qz_b rfl, qz_b rfl⟩ ⟨rfl, rfl⟩ hl.1 rfl (qz_b rfl) dX4_busy_9 hf (fun _ _ h9 => c_X4_in h9) (fun r8 s9 H locs hf hM => ?_)
  refine wq_if_ne (tgt := 22) hx hb dX4_busy_12 (by decide) hf (fun hf => ?_) (fun hf => ?_)
  · refine lv_iconst (v := 0) hx hb dX4_busy_22 (by decide) ?_
    refine lv_istore_n (lv' := [(2, .int (0 : Int32)), (0, .ref (B + 101)), (1, .int x1)]) hx hb dX4_busy_23 rfl hl (by decide) rfl (fun ls hl => ?_)
    refine lv_iconst (v := 1) hx hb dX4_busy_24 (by decide) ?_
    refine lv_istore_n (lv' := [(3, .int (1 : Int32)), (2, .int (0 : Int32)), (0, .ref (B + 101)), (1, .int x1)]) hx hb dX4_busy_25 rfl hl (by decide) rfl (fun ls hl => ?_)
    exact w_X4_busy_26 C _ _ _ _ _ _ _ hf hM (lv_sub hl [2, 3, 1, 0] rfl)
  refine lv_aload_n hx hb dX4_busy_15 rfl (lv_at hl 0 rfl) ?_
  refine lv_bipush (v := -2) hx hb dX4_busy_16 (by decide) ?_
  refine wt_callVi (As := [.int (-2 : Int32)]) (rest := []) hx hb hml hts hown hK hM wt_rc_X4 cw_X4_143 hd_X4_refuse rfl ⟨qz_b rfl, qz_b rfl⟩ ⟨rfl, rfl⟩ hl.1 rfl (qz_b rfl) dX4_busy_18 hf (fun _ _ h9 => c_X4_refuse h9) (fun r10 s11 H locs hf hM => ?_)
  exact wt_iret hx hb hr hlk hK hM hf dX4_busy_21
end
set_option maxHeartbeats 4000000 in
set_option maxRecDepth 100000 in
theorem c_X4_busy {l : Launch} {D : va_G} {tI tII : ClassId} {B F : Nat} {x1 : Int32} {σ σ' : Mem} {r : Int32} (hf : f_X4_busy F x1 σ = some (r, σ')) : wt_Mi l yX4_busy cX4_busy 4 (some .int) rm_X4_busy [.ref (B + 101), .int x1] D tI tII B σ r σ' := by
  refine Met.ofW (cc := cX4_busy) (maxL := 4) (ret := (some .int)) (by decide) rfl ?_
  intro p e s m args below meth c s₁ B9 hml hv
  obtain ⟨rfl, hP, hK⟩ := hv
  have hl := lv_entry ([.ref (B + 101), .int x1]) (n := 4) (qz_b rfl)
  rw [lg_entry_eq]
  generalize (lg_sl ([.ref (B + 101), .int x1]) ++ List.replicate (4 - (lg_sl ([.ref (B + 101), .int x1])).length) Slot.unset).toArray = ls at hl ⊢
  exact w_X4_busy_0 (wt_C_of B9 hml hK) hf ⟨hP, va_S.rf⟩ hl
section
variable {p : Program} {l : Launch} {e : Env} {s : State} {m : MethodId} {args : Array Value} {below : List Frame} {meth : Method} {c : Code} {D : va_G} {tI tII : ClassId} {B : Nat}
set_option maxHeartbeats 4000000 in
set_option maxRecDepth 100000 in
theorem w_X4_together_77 (C : wt_C p s m args meth c RX4 cX4_together 6 (some .int) D tI tII) {F : Nat} {k25 : Int32 → Int32 → Mem → Option (Int32 × Mem)} {x1 : Int32} {x2 : Int32} {x4 : Int32} {t0 : Int32} {t1 : Int32} {σ : Mem} {r : Int32} {σ' : Mem} {H : Heap} {locs : List Loc} {ls : Array Slot} (hk25 : ∀ (x3 : Int32) (x4 : Int32) (σ : Mem) (H : Heap) (locs : List Loc) (ls : Array Slot), k25 x3 x4 σ = some (r, σ') → wt_St D tI tII B σ s H locs → lv_has ls 6 [(0, .ref (B + 101)), (1, .int x1), (2, .int x2), (3, .int x3), (4, .int x4)] → W p l e rm_X4_together s m args below meth c H locs 0 0 (MQ below (wt_Qi D tI tII B r σ') args s 0 0 (fun q => B ≤ q)) (F0 m 25 ls [])) (hf : j_X4_together_77 F k25 x1 x2 x4 t0 t1 σ = some (r, σ')) (hM : wt_St D tI tII B σ s H locs) (hl : lv_has ls 6 [(0, .ref (B + 101)), (1, .int x1), (2, .int x2), (4, .int x4)]) : W p l e rm_X4_together s m args below meth c H locs 0 0 (MQ below (wt_Qi D tI tII B r σ') args s 0 0 (fun q => B ≤ q)) (F0 m 77 ls [.int t1, .int t0]) := by
  obtain ⟨hx, hb, hts, hown, hml, hr, hlk, hK⟩ := id C
  replace hf := Eq.trans j_X4_together_77_e.symm hf
  refine lv_ior hx hb dX4_together_77 ?_
  refine lv_istore_n (lv' := [(3, .int (t0 ||| t1)), (0, .ref (B + 101)), (1, .int x1), (2, .int x2), (4, .int x4)]) hx hb dX4_together_78 rfl hl (by decide) rfl (fun ls hl => ?_)
  refine lv_iinc (v := (x4 + (1 : Int32))) (lv' := [(4, .int (x4 + (1 : Int32))), (3, .int (t0 ||| t1)), (0, .ref (B + 101)), (1, .int x1), (2, .int x2)]) hx hb dX4_together_79 hl (k := 4) rfl rfl (by decide) rfl (fun ls hl => ?_)
  refine lv_goto (tgt := 25) hx hb dX4_together_82 (by decide) ?_
  exact hk25 _ _ _ _ _ _ hf hM (lv_sub hl [2, 3, 4, 1, 0] rfl)
set_option maxHeartbeats 4000000 in
set_option maxRecDepth 100000 in
theorem w_X4_together_76 (C : wt_C p s m args meth c RX4 cX4_together 6 (some .int) D tI tII) {F : Nat} {k25 : Int32 → Int32 → Mem → Option (Int32 × Mem)} {x1 : Int32} {x2 : Int32} {x4 : Int32} {t0 : Int32} {σ : Mem} {r : Int32} {σ' : Mem} {H : Heap} {locs : List Loc} {ls : Array Slot} (hk25 : ∀ (x3 : Int32) (x4 : Int32) (σ : Mem) (H : Heap) (locs : List Loc) (ls : Array Slot), k25 x3 x4 σ = some (r, σ') → wt_St D tI tII B σ s H locs → lv_has ls 6 [(0, .ref (B + 101)), (1, .int x1), (2, .int x2), (3, .int x3), (4, .int x4)] → W p l e rm_X4_together s m args below meth c H locs 0 0 (MQ below (wt_Qi D tI tII B r σ') args s 0 0 (fun q => B ≤ q)) (F0 m 25 ls [])) (hf : j_X4_together_76 F k25 x1 x2 x4 t0 σ = some (r, σ')) (hM : wt_St D tI tII B σ s H locs) (hl : lv_has ls 6 [(0, .ref (B + 101)), (1, .int x1), (2, .int x2), (4, .int x4)]) : W p l e rm_X4_together s m args below meth c H locs 0 0 (MQ below (wt_Qi D tI tII B r σ') args s 0 0 (fun q => B ≤ q)) (F0 m 76 ls [.int t0]) := by
  obtain ⟨hx, hb, hts, hown, hml, hr, hlk, hK⟩ := id C
  replace hf := Eq.trans j_X4_together_76_e.symm hf
  refine lv_iconst (v := 0) hx hb dX4_together_76 (by decide) ?_
  exact w_X4_together_77 C hk25 hf hM hl
set_option maxHeartbeats 4000000 in
set_option maxRecDepth 100000 in
theorem w_X4_together_25 (C : wt_C p s m args meth c RX4 cX4_together 6 (some .int) D tI tII) {F : Nat} {x1 : Int32} {x2 : Int32} {r : Int32} {σ' : Mem} : ∀ (N : Nat) (x3 : Int32) (x4 : Int32) (σ : Mem) (H : Heap) (locs : List Loc) (ls : Array Slot), lp_X4_together_25 F x1 x2 N x3 x4 σ = some (r, σ') → wt_St D tI tII B σ s H locs → lv_has ls 6 [(0, .ref (B + 101)), (1, .int x1), (2, .int x2), (3, .int x3), (4, .int x4)] → W p l e rm_X4_together s m args below meth c H locs 0 0 (MQ below (wt_Qi D tI tII B r σ') args s 0 0 (fun q => B ≤ q)) (F0 m 25 ls []) := by
  obtain ⟨hx, hb, hts, hown, hml, hr, hlk, hK⟩ := id C
  intro N
  induction N with
  | zero => intro x3 x4 σ H locs ls hf; exact wt_none (show (none : Option (Int32 × Mem)) = some (r, σ') from hf)
  | succ N ih =>
    intro x3 x4 σ H locs ls hf hM hl
    replace hf := Eq.trans lp_X4_together_25_s.symm hf
    refine lv_iload hx hb dX4_together_25 (lv_at hl 4 rfl) ?_
    refine lv_bipush (v := 24) hx hb dX4_together_27 (by decide) ?_
    refine wq_icmp_ge (tgt := 85) hx hb dX4_together_29 (by decide) hf (fun hf => ?_) (fun hf => ?_)
    · refine lv_iload_n hx hb dX4_together_85 rfl (lv_at hl 3 rfl) ?_
      exact wt_iret hx hb hr hlk hK hM hf dX4_together_86
    refine lv_aload_n hx hb dX4_together_32 rfl (lv_at hl 0 rfl) ?_
    refine gf_X4_rosters  hx hb hts hown hK hM tw_716 dX4_together_33 ?_
    refine lv_bipush (v := 24) hx hb dX4_together_36 (by decide) ?_
    refine lv_iload_n hx hb dX4_together_38 rfl (lv_at hl 1 rfl) ?_
    refine lv_imul hx hb dX4_together_39 ?_
    refine lv_iload hx hb dX4_together_40 (lv_at hl 4 rfl) ?_
    refine lv_iadd hx hb dX4_together_42 ?_
    obtain ⟨i1, hf⟩ := wt_chk_of hf
    refine wt_ild hx hb hK hM wt_a106 i1 dX4_together_43 ?_
    refine wt_leti hf (fun z2 hf => ?_)
    refine lv_istore (lv' := [(5, .int z2), (0, .ref (B + 101)), (1, .int x1), (2, .int x2), (3, .int x3), (4, .int x4)]) hx hb dX4_together_44 hl (by decide) rfl (fun ls hl => ?_)
    refine lv_iload_n hx hb dX4_together_46 rfl (lv_at hl 4 rfl) ?_
    refine lv_iload hx hb dX4_together_47 (lv_at hl 0 rfl) ?_
    refine wq_if_lt (tgt := 76) hx hb dX4_together_49 (by decide) hf (fun hf => ?_) (fun hf => ?_)
    · exact w_X4_together_76 C ih hf hM (lv_sub hl [1, 2, 3, 5] rfl)
    refine lv_iload hx hb dX4_together_52 (lv_at hl 0 rfl) ?_
    refine lv_aload_n hx hb dX4_together_54 rfl (lv_at hl 1 rfl) ?_
    refine gf_X4_rosters  hx hb hts hown hK hM tw_716 dX4_together_55 ?_
    refine lv_bipush (v := 24) hx hb dX4_together_58 (by decide) ?_
    refine lv_iload_n hx hb dX4_together_60 rfl (lv_at hl 3 rfl) ?_
    refine lv_imul hx hb dX4_together_61 ?_
    refine lv_iload hx hb dX4_together_62 (lv_at hl 5 rfl) ?_
    refine lv_iadd hx hb dX4_together_64 ?_
    obtain ⟨i3, hf⟩ := wt_chk_of hf
    refine wt_ild hx hb hK hM wt_a106 i3 dX4_together_65 ?_
    refine wq_icmp_ne (tgt := 76) hx hb dX4_together_66 (by decide) hf (fun hf => ?_) (fun hf => ?_)
    · exact w_X4_together_76 C ih hf hM (lv_sub hl [1, 2, 3, 5] rfl)
    refine lv_iconst (v := 1) hx hb dX4_together_69 (by decide) ?_
    refine lv_iload hx hb dX4_together_70 (lv_at hl 5 rfl) ?_
    refine lv_ishl hx hb dX4_together_72 ?_
    refine lv_goto (tgt := 77) hx hb dX4_together_73 (by decide) ?_
    exact w_X4_together_77 C ih hf hM (lv_sub hl [1, 2, 3, 5] rfl)
set_option maxHeartbeats 4000000 in
set_option maxRecDepth 100000 in
theorem w_X4_together_0 (C : wt_C p s m args meth c RX4 cX4_together 6 (some .int) D tI tII) {F : Nat} {x1 : Int32} {x2 : Int32} {σ : Mem} {r : Int32} {σ' : Mem} {H : Heap} {locs : List Loc} {ls : Array Slot} (hf : f_X4_together F x1 x2 σ = some (r, σ')) (hM : wt_St D tI tII B σ s H locs) (hl : lv_has ls 6 [(0, .ref (B + 101)), (1, .int x1), (2, .int x2)]) : W p l e rm_X4_together s m args below meth c H locs 0 0 (MQ below (wt_Qi D tI tII B r σ') args s 0 0 (fun q => B ≤ q)) (F0 m 0 ls []) := by
  obtain ⟨hx, hb, hts, hown, hml, hr, hlk, hK⟩ := id C
  replace hf := Eq.trans f_X4_together_e.symm hf
  refine lv_aload_n hx hb dX4_together_0 rfl (lv_at hl 0 rfl) ?_
  refine lv_iconst (v := 0) hx hb dX4_together_1 (by decide) ?_
  refine pf_X4_thrown  hx hb hts hown hK hM tw_720 dX4_together_2 hf (fun s4 H locs hf hM => ?_)
  refine lv_aload_n hx hb dX4_together_5 rfl (lv_at hl 0 rfl) ?_
  refine lv_iload_n hx hb dX4_together_6 rfl (lv_at hl 1 rfl) ?_
  refine lv_iload_n hx hb dX4_together_7 rfl (lv_at hl 2 rfl) ?_
  refine wt_callVi (As := [.int x1, .int x2]) (rest := []) hx hb hml hts hown hK hM wt_rc_X4 cw_X4_257 hd_X4_areTwo rfl ⟨qz_b rfl, qz_b rfl⟩ ⟨rfl, rfl⟩ hl.1 rfl (qz_b rfl) dX4_together_8 hf (fun _ _ h9 => c_X4_areTwo h9) (fun r5 s6 H locs hf hM => ?_)
  refine wq_if_ne (tgt := 20) hx hb dX4_together_11 (by decide) hf (fun hf => ?_) (fun hf => ?_)
  · refine lv_iconst (v := 0) hx hb dX4_together_20 (by decide) ?_
    refine lv_istore_n (lv' := [(3, .int (0 : Int32)), (0, .ref (B + 101)), (1, .int x1), (2, .int x2)]) hx hb dX4_together_21 rfl hl (by decide) rfl (fun ls hl => ?_)
    refine lv_iconst (v := 0) hx hb dX4_together_22 (by decide) ?_
    refine lv_istore (lv' := [(4, .int (0 : Int32)), (3, .int (0 : Int32)), (0, .ref (B + 101)), (1, .int x1), (2, .int x2)]) hx hb dX4_together_23 hl (by decide) rfl (fun ls hl => ?_)
    exact w_X4_together_25 C _ _ _ _ _ _ _ hf hM (lv_sub hl [2, 3, 4, 1, 0] rfl)
  refine lv_aload_n hx hb dX4_together_14 rfl (lv_at hl 0 rfl) ?_
  refine lv_iconst (v := -1) hx hb dX4_together_15 (by decide) ?_
  refine wt_callVi (As := [.int (-1 : Int32)]) (rest := []) hx hb hml hts hown hK hM wt_rc_X4 cw_X4_143 hd_X4_refuse rfl ⟨qz_b rfl, qz_b rfl⟩ ⟨rfl, rfl⟩ hl.1 rfl (qz_b rfl) dX4_together_16 hf (fun _ _ h9 => c_X4_refuse h9) (fun r7 s8 H locs hf hM => ?_)
  exact wt_iret hx hb hr hlk hK hM hf dX4_together_19
end
set_option maxHeartbeats 4000000 in
set_option maxRecDepth 100000 in
theorem c_X4_together {l : Launch} {D : va_G} {tI tII : ClassId} {B F : Nat} {x1 : Int32} {x2 : Int32} {σ σ' : Mem} {r : Int32} (hf : f_X4_together F x1 x2 σ = some (r, σ')) : wt_Mi l yX4_together cX4_together 6 (some .int) rm_X4_together [.ref (B + 101), .int x1, .int x2] D tI tII B σ r σ' := by
  refine Met.ofW (cc := cX4_together) (maxL := 6) (ret := (some .int)) (by decide) rfl ?_
  intro p e s m args below meth c s₁ B9 hml hv
  obtain ⟨rfl, hP, hK⟩ := hv
  have hl := lv_entry ([.ref (B + 101), .int x1, .int x2]) (n := 6) (qz_b rfl)
  rw [lg_entry_eq]
  generalize (lg_sl ([.ref (B + 101), .int x1, .int x2]) ++ List.replicate (6 - (lg_sl ([.ref (B + 101), .int x1, .int x2])).length) Slot.unset).toArray = ls at hl ⊢
  exact w_X4_together_0 (wt_C_of B9 hml hK) hf ⟨hP, va_S.rf⟩ hl
section
variable {p : Program} {l : Launch} {e : Env} {s : State} {m : MethodId} {args : Array Value} {below : List Frame} {meth : Method} {c : Code} {D : va_G} {tI tII : ClassId} {B : Nat}
set_option maxHeartbeats 4000000 in
set_option maxRecDepth 100000 in
theorem w_X4_swapRosters_2 (C : wt_C p s m args meth c RX4 cX4_swapRosters 5 none D tI tII) {F : Nat} {x1 : Int32} {x2 : Int32} {σ' : Mem} : ∀ (N : Nat) (x3 : Int32) (σ : Mem) (H : Heap) (locs : List Loc) (ls : Array Slot), lp_X4_swapRosters_2 F x1 x2 N x3 σ = some ((), σ') → wt_St D tI tII B σ s H locs → lv_has ls 5 [(0, .ref (B + 101)), (1, .int x1), (2, .int x2), (3, .int x3)] → W p l e rm_X4_swapRosters s m args below meth c H locs 0 0 (MQ below (wt_Qv D tI tII B σ') args s 0 0 (fun q => B ≤ q)) (F0 m 2 ls []) := by
  obtain ⟨hx, hb, hts, hown, hml, hr, hlk, hK⟩ := id C
  intro N
  induction N with
  | zero => intro x3 σ H locs ls hf; exact wt_none (show (none : Option (Unit × Mem)) = some ((), σ') from hf)
  | succ N ih =>
    intro x3 σ H locs ls hf hM hl
    replace hf := Eq.trans lp_X4_swapRosters_2_s.symm hf
    refine lv_iload_n hx hb dX4_swapRosters_2 rfl (lv_at hl 3 rfl) ?_
    refine lv_bipush (v := 24) hx hb dX4_swapRosters_3 (by decide) ?_
    refine wq_icmp_ge (tgt := 62) hx hb dX4_swapRosters_5 (by decide) hf (fun hf => ?_) (fun hf => ?_)
    · exact wt_vret hx hb hr hlk hK hM hf dX4_swapRosters_62
    refine lv_aload_n hx hb dX4_swapRosters_8 rfl (lv_at hl 0 rfl) ?_
    refine gf_X4_rosters  hx hb hts hown hK hM tw_716 dX4_swapRosters_9 ?_
    refine lv_bipush (v := 24) hx hb dX4_swapRosters_12 (by decide) ?_
    refine lv_iload_n hx hb dX4_swapRosters_14 rfl (lv_at hl 1 rfl) ?_
    refine lv_imul hx hb dX4_swapRosters_15 ?_
    refine lv_iload_n hx hb dX4_swapRosters_16 rfl (lv_at hl 3 rfl) ?_
    refine lv_iadd hx hb dX4_swapRosters_17 ?_
    obtain ⟨i1, hf⟩ := wt_chk_of hf
    refine wt_ild hx hb hK hM wt_a106 i1 dX4_swapRosters_18 ?_
    refine wt_leti hf (fun z2 hf => ?_)
    refine lv_istore (lv' := [(4, .int z2), (0, .ref (B + 101)), (1, .int x1), (2, .int x2), (3, .int x3)]) hx hb dX4_swapRosters_19 hl (by decide) rfl (fun ls hl => ?_)
    refine lv_aload_n hx hb dX4_swapRosters_21 rfl (lv_at hl 1 rfl) ?_
    refine gf_X4_rosters  hx hb hts hown hK hM tw_716 dX4_swapRosters_22 ?_
    refine lv_bipush (v := 24) hx hb dX4_swapRosters_25 (by decide) ?_
    refine lv_iload_n hx hb dX4_swapRosters_27 rfl (lv_at hl 2 rfl) ?_
    refine lv_imul hx hb dX4_swapRosters_28 ?_
    refine lv_iload_n hx hb dX4_swapRosters_29 rfl (lv_at hl 4 rfl) ?_
    refine lv_iadd hx hb dX4_swapRosters_30 ?_
    refine lv_aload_n hx hb dX4_swapRosters_31 rfl (lv_at hl 1 rfl) ?_
    refine gf_X4_rosters  hx hb hts hown hK hM tw_716 dX4_swapRosters_32 ?_
    refine lv_bipush (v := 24) hx hb dX4_swapRosters_35 (by decide) ?_
    refine lv_iload_n hx hb dX4_swapRosters_37 rfl (lv_at hl 3 rfl) ?_
    refine lv_imul hx hb dX4_swapRosters_38 ?_
    refine lv_iload_n hx hb dX4_swapRosters_39 rfl (lv_at hl 4 rfl) ?_
    refine lv_iadd hx hb dX4_swapRosters_40 ?_
    obtain ⟨i3, hf⟩ := wt_chk_of hf
    refine wt_ild hx hb hK hM wt_a106 i3 dX4_swapRosters_41 ?_
    refine wt_ist hx hb hK hM wt_a106 i1 dX4_swapRosters_42 hf (fun s4 H locs hf hM => ?_)
    refine lv_aload_n hx hb dX4_swapRosters_43 rfl (lv_at hl 1 rfl) ?_
    refine gf_X4_rosters  hx hb hts hown hK hM tw_716 dX4_swapRosters_44 ?_
    refine lv_bipush (v := 24) hx hb dX4_swapRosters_47 (by decide) ?_
    refine lv_iload_n hx hb dX4_swapRosters_49 rfl (lv_at hl 3 rfl) ?_
    refine lv_imul hx hb dX4_swapRosters_50 ?_
    refine lv_iload_n hx hb dX4_swapRosters_51 rfl (lv_at hl 4 rfl) ?_
    refine lv_iadd hx hb dX4_swapRosters_52 ?_
    refine lv_iload hx hb dX4_swapRosters_53 (lv_at hl 0 rfl) ?_
    refine wt_ist hx hb hK hM wt_a106 i3 dX4_swapRosters_55 hf (fun s5 H locs hf hM => ?_)
    refine lv_iinc (v := (x3 + (1 : Int32))) (lv' := [(3, .int (x3 + (1 : Int32))), (4, .int z2), (0, .ref (B + 101)), (1, .int x1), (2, .int x2)]) hx hb dX4_swapRosters_56 hl (k := 4) rfl rfl (by decide) rfl (fun ls hl => ?_)
    refine lv_goto (tgt := 2) hx hb dX4_swapRosters_59 (by decide) ?_
    exact ih _ _ _ _ _ hf hM (lv_sub hl [2, 3, 4, 0] rfl)
set_option maxHeartbeats 4000000 in
set_option maxRecDepth 100000 in
theorem w_X4_swapRosters_0 (C : wt_C p s m args meth c RX4 cX4_swapRosters 5 none D tI tII) {F : Nat} {x1 : Int32} {x2 : Int32} {σ : Mem} {σ' : Mem} {H : Heap} {locs : List Loc} {ls : Array Slot} (hf : f_X4_swapRosters F x1 x2 σ = some ((), σ')) (hM : wt_St D tI tII B σ s H locs) (hl : lv_has ls 5 [(0, .ref (B + 101)), (1, .int x1), (2, .int x2)]) : W p l e rm_X4_swapRosters s m args below meth c H locs 0 0 (MQ below (wt_Qv D tI tII B σ') args s 0 0 (fun q => B ≤ q)) (F0 m 0 ls []) := by
  obtain ⟨hx, hb, hts, hown, hml, hr, hlk, hK⟩ := id C
  replace hf := Eq.trans f_X4_swapRosters_e.symm hf
  refine lv_iconst (v := 0) hx hb dX4_swapRosters_0 (by decide) ?_
  refine lv_istore_n (lv' := [(3, .int (0 : Int32)), (0, .ref (B + 101)), (1, .int x1), (2, .int x2)]) hx hb dX4_swapRosters_1 rfl hl (by decide) rfl (fun ls hl => ?_)
  exact w_X4_swapRosters_2 C _ _ _ _ _ _ hf hM (lv_sub hl [1, 2, 3, 0] rfl)
end
set_option maxHeartbeats 4000000 in
set_option maxRecDepth 100000 in
theorem c_X4_swapRosters {l : Launch} {D : va_G} {tI tII : ClassId} {B F : Nat} {x1 : Int32} {x2 : Int32} {σ σ' : Mem} (hf : f_X4_swapRosters F x1 x2 σ = some ((), σ')) : wt_Mv l yX4_swapRosters cX4_swapRosters 5 none rm_X4_swapRosters [.ref (B + 101), .int x1, .int x2] D tI tII B σ σ' := by
  refine Met.ofW (cc := cX4_swapRosters) (maxL := 5) (ret := none) (by decide) rfl ?_
  intro p e s m args below meth c s₁ B9 hml hv
  obtain ⟨rfl, hP, hK⟩ := hv
  have hl := lv_entry ([.ref (B + 101), .int x1, .int x2]) (n := 5) (qz_b rfl)
  rw [lg_entry_eq]
  generalize (lg_sl ([.ref (B + 101), .int x1, .int x2]) ++ List.replicate (5 - (lg_sl ([.ref (B + 101), .int x1, .int x2])).length) Slot.unset).toArray = ls at hl ⊢
  exact w_X4_swapRosters_0 (wt_C_of B9 hml hK) hf ⟨hP, va_S.rf⟩ hl
section
variable {p : Program} {l : Launch} {e : Env} {s : State} {m : MethodId} {args : Array Value} {below : List Frame} {meth : Method} {c : Code} {D : va_G} {tI tII : ClassId} {B : Nat}
set_option maxHeartbeats 4000000 in
set_option maxRecDepth 100000 in
theorem w_X4_swap_160 (C : wt_C p s m args meth c RX4 cX4_swap 9 (some .int) D tI tII) {F : Nat} {k37 : Int32 → Int32 → Int32 → Mem → Option (Int32 × Mem)} {k52 : Int32 → Int32 → Int32 → Mem → Option (Int32 × Mem)} {x1 : Int32} {x2 : Int32} {x4 : Int32} {x5 : Int32} {t0 : Int32} {σ : Mem} {r : Int32} {σ' : Mem} {H : Heap} {locs : List Loc} {ls : Array Slot} (hk37 : ∀ (x2 : Int32) (x3 : Int32) (x4 : Int32) (σ : Mem) (H : Heap) (locs : List Loc) (ls : Array Slot), k37 x2 x3 x4 σ = some (r, σ') → wt_St D tI tII B σ s H locs → lv_has ls 9 [(0, .ref (B + 101)), (1, .int x1), (2, .int x2), (3, .int x3), (4, .int x4)] → W p l e rm_X4_swap s m args below meth c H locs 0 0 (MQ below (wt_Qi D tI tII B r σ') args s 0 0 (fun q => B ≤ q)) (F0 m 37 ls [])) (hk52 : ∀ (x2 : Int32) (x3 : Int32) (x5 : Int32) (σ : Mem) (H : Heap) (locs : List Loc) (ls : Array Slot), k52 x2 x3 x5 σ = some (r, σ') → wt_St D tI tII B σ s H locs → lv_has ls 9 [(0, .ref (B + 101)), (1, .int x1), (2, .int x2), (3, .int x3), (4, .int x4), (5, .int x5)] → W p l e rm_X4_swap s m args below meth c H locs 0 0 (MQ below (wt_Qi D tI tII B r σ') args s 0 0 (fun q => B ≤ q)) (F0 m 52 ls [])) (hf : j_X4_swap_160 F k37 k52 x1 x2 x4 x5 t0 σ = some (r, σ')) (hM : wt_St D tI tII B σ s H locs) (hl : lv_has ls 9 [(0, .ref (B + 101)), (1, .int x1), (2, .int x2), (4, .int x4), (5, .int x5)]) : W p l e rm_X4_swap s m args below meth c H locs 0 0 (MQ below (wt_Qi D tI tII B r σ') args s 0 0 (fun q => B ≤ q)) (F0 m 160 ls [.int t0]) := by
  obtain ⟨hx, hb, hts, hown, hml, hr, hlk, hK⟩ := id C
  replace hf := Eq.trans j_X4_swap_160_e.symm hf
  refine lv_istore_n (lv' := [(3, .int t0), (0, .ref (B + 101)), (1, .int x1), (2, .int x2), (4, .int x4), (5, .int x5)]) hx hb dX4_swap_160 rfl hl (by decide) rfl (fun ls hl => ?_)
  refine lv_iinc (v := (x5 + (1 : Int32))) (lv' := [(5, .int (x5 + (1 : Int32))), (3, .int t0), (0, .ref (B + 101)), (1, .int x1), (2, .int x2), (4, .int x4)]) hx hb dX4_swap_161 hl (k := 5) rfl rfl (by decide) rfl (fun ls hl => ?_)
  refine lv_goto (tgt := 52) hx hb dX4_swap_164 (by decide) ?_
  exact hk52 _ _ _ _ _ _ _ hf hM (lv_sub hl [2, 3, 4, 1, 5, 0] rfl)
set_option maxHeartbeats 4000000 in
set_option maxRecDepth 100000 in
theorem w_X4_swap_148 (C : wt_C p s m args meth c RX4 cX4_swap 9 (some .int) D tI tII) {F : Nat} {k37 : Int32 → Int32 → Int32 → Mem → Option (Int32 × Mem)} {k52 : Int32 → Int32 → Int32 → Mem → Option (Int32 × Mem)} {x1 : Int32} {x3 : Int32} {x4 : Int32} {x5 : Int32} {x7 : Int32} {x8 : Int32} {t0 : Int32} {σ : Mem} {r : Int32} {σ' : Mem} {H : Heap} {locs : List Loc} {ls : Array Slot} (hk37 : ∀ (x2 : Int32) (x3 : Int32) (x4 : Int32) (σ : Mem) (H : Heap) (locs : List Loc) (ls : Array Slot), k37 x2 x3 x4 σ = some (r, σ') → wt_St D tI tII B σ s H locs → lv_has ls 9 [(0, .ref (B + 101)), (1, .int x1), (2, .int x2), (3, .int x3), (4, .int x4)] → W p l e rm_X4_swap s m args below meth c H locs 0 0 (MQ below (wt_Qi D tI tII B r σ') args s 0 0 (fun q => B ≤ q)) (F0 m 37 ls [])) (hk52 : ∀ (x2 : Int32) (x3 : Int32) (x5 : Int32) (σ : Mem) (H : Heap) (locs : List Loc) (ls : Array Slot), k52 x2 x3 x5 σ = some (r, σ') → wt_St D tI tII B σ s H locs → lv_has ls 9 [(0, .ref (B + 101)), (1, .int x1), (2, .int x2), (3, .int x3), (4, .int x4), (5, .int x5)] → W p l e rm_X4_swap s m args below meth c H locs 0 0 (MQ below (wt_Qi D tI tII B r σ') args s 0 0 (fun q => B ≤ q)) (F0 m 52 ls [])) (hf : j_X4_swap_148 F k37 k52 x1 x3 x4 x5 x7 x8 t0 σ = some (r, σ')) (hM : wt_St D tI tII B σ s H locs) (hl : lv_has ls 9 [(0, .ref (B + 101)), (1, .int x1), (3, .int x3), (4, .int x4), (5, .int x5), (7, .int x7), (8, .int x8)]) : W p l e rm_X4_swap s m args below meth c H locs 0 0 (MQ below (wt_Qi D tI tII B r σ') args s 0 0 (fun q => B ≤ q)) (F0 m 148 ls [.int t0]) := by
  obtain ⟨hx, hb, hts, hown, hml, hr, hlk, hK⟩ := id C
  replace hf := Eq.trans j_X4_swap_148_e.symm hf
  refine lv_istore_n (lv' := [(2, .int t0), (0, .ref (B + 101)), (1, .int x1), (3, .int x3), (4, .int x4), (5, .int x5), (7, .int x7), (8, .int x8)]) hx hb dX4_swap_148 rfl hl (by decide) rfl (fun ls hl => ?_)
  refine lv_iload hx hb dX4_swap_149 (lv_at hl 7 rfl) ?_
  refine wq_if_eq (tgt := 159) hx hb dX4_swap_151 (by decide) hf (fun hf => ?_) (fun hf => ?_)
  · refine lv_iload_n hx hb dX4_swap_159 rfl (lv_at hl 3 rfl) ?_
    exact w_X4_swap_160 C hk37 hk52 hf hM (lv_sub hl [1, 2, 0, 4, 5] rfl)
  refine lv_iload hx hb dX4_swap_154 (lv_at hl 6 rfl) ?_
  refine lv_goto (tgt := 160) hx hb dX4_swap_156 (by decide) ?_
  exact w_X4_swap_160 C hk37 hk52 hf hM (lv_sub hl [1, 2, 0, 4, 5] rfl)
set_option maxHeartbeats 4000000 in
set_option maxRecDepth 100000 in
theorem w_X4_swap_129 (C : wt_C p s m args meth c RX4 cX4_swap 9 (some .int) D tI tII) {F : Nat} {k37 : Int32 → Int32 → Int32 → Mem → Option (Int32 × Mem)} {k52 : Int32 → Int32 → Int32 → Mem → Option (Int32 × Mem)} {x1 : Int32} {x2 : Int32} {x3 : Int32} {x4 : Int32} {x5 : Int32} {x7 : Int32} {t0 : Int32} {σ : Mem} {r : Int32} {σ' : Mem} {H : Heap} {locs : List Loc} {ls : Array Slot} (hk37 : ∀ (x2 : Int32) (x3 : Int32) (x4 : Int32) (σ : Mem) (H : Heap) (locs : List Loc) (ls : Array Slot), k37 x2 x3 x4 σ = some (r, σ') → wt_St D tI tII B σ s H locs → lv_has ls 9 [(0, .ref (B + 101)), (1, .int x1), (2, .int x2), (3, .int x3), (4, .int x4)] → W p l e rm_X4_swap s m args below meth c H locs 0 0 (MQ below (wt_Qi D tI tII B r σ') args s 0 0 (fun q => B ≤ q)) (F0 m 37 ls [])) (hk52 : ∀ (x2 : Int32) (x3 : Int32) (x5 : Int32) (σ : Mem) (H : Heap) (locs : List Loc) (ls : Array Slot), k52 x2 x3 x5 σ = some (r, σ') → wt_St D tI tII B σ s H locs → lv_has ls 9 [(0, .ref (B + 101)), (1, .int x1), (2, .int x2), (3, .int x3), (4, .int x4), (5, .int x5)] → W p l e rm_X4_swap s m args below meth c H locs 0 0 (MQ below (wt_Qi D tI tII B r σ') args s 0 0 (fun q => B ≤ q)) (F0 m 52 ls [])) (hf : j_X4_swap_129 F k37 k52 x1 x2 x3 x4 x5 x7 t0 σ = some (r, σ')) (hM : wt_St D tI tII B σ s H locs) (hl : lv_has ls 9 [(0, .ref (B + 101)), (1, .int x1), (2, .int x2), (3, .int x3), (4, .int x4), (5, .int x5), (7, .int x7)]) : W p l e rm_X4_swap s m args below meth c H locs 0 0 (MQ below (wt_Qi D tI tII B r σ') args s 0 0 (fun q => B ≤ q)) (F0 m 129 ls [.int t0]) := by
  obtain ⟨hx, hb, hts, hown, hml, hr, hlk, hK⟩ := id C
  replace hf := Eq.trans j_X4_swap_129_e.symm hf
  refine lv_istore (lv' := [(8, .int t0), (0, .ref (B + 101)), (1, .int x1), (2, .int x2), (3, .int x3), (4, .int x4), (5, .int x5), (7, .int x7)]) hx hb dX4_swap_129 hl (by decide) rfl (fun ls hl => ?_)
  refine lv_iload hx hb dX4_swap_131 (lv_at hl 0 rfl) ?_
  refine wq_if_eq (tgt := 147) hx hb dX4_swap_133 (by decide) hf (fun hf => ?_) (fun hf => ?_)
  · refine lv_iload_n hx hb dX4_swap_147 rfl (lv_at hl 3 rfl) ?_
    exact w_X4_swap_148 C hk37 hk52 hf hM (lv_sub hl [1, 2, 4, 5, 6, 7, 0] rfl)
  refine lv_bipush (v := 10) hx hb dX4_swap_136 (by decide) ?_
  refine lv_iload hx hb dX4_swap_138 (lv_at hl 5 rfl) ?_
  refine lv_imul hx hb dX4_swap_140 ?_
  refine lv_iload hx hb dX4_swap_141 (lv_at hl 6 rfl) ?_
  refine lv_iadd hx hb dX4_swap_143 ?_
  refine lv_goto (tgt := 148) hx hb dX4_swap_144 (by decide) ?_
  exact w_X4_swap_148 C hk37 hk52 hf hM (lv_sub hl [1, 2, 4, 5, 6, 7, 0] rfl)
set_option maxHeartbeats 4000000 in
set_option maxRecDepth 100000 in
theorem w_X4_swap_128 (C : wt_C p s m args meth c RX4 cX4_swap 9 (some .int) D tI tII) {F : Nat} {k37 : Int32 → Int32 → Int32 → Mem → Option (Int32 × Mem)} {k52 : Int32 → Int32 → Int32 → Mem → Option (Int32 × Mem)} {x1 : Int32} {x2 : Int32} {x3 : Int32} {x4 : Int32} {x5 : Int32} {x7 : Int32} {σ : Mem} {r : Int32} {σ' : Mem} {H : Heap} {locs : List Loc} {ls : Array Slot} (hk37 : ∀ (x2 : Int32) (x3 : Int32) (x4 : Int32) (σ : Mem) (H : Heap) (locs : List Loc) (ls : Array Slot), k37 x2 x3 x4 σ = some (r, σ') → wt_St D tI tII B σ s H locs → lv_has ls 9 [(0, .ref (B + 101)), (1, .int x1), (2, .int x2), (3, .int x3), (4, .int x4)] → W p l e rm_X4_swap s m args below meth c H locs 0 0 (MQ below (wt_Qi D tI tII B r σ') args s 0 0 (fun q => B ≤ q)) (F0 m 37 ls [])) (hk52 : ∀ (x2 : Int32) (x3 : Int32) (x5 : Int32) (σ : Mem) (H : Heap) (locs : List Loc) (ls : Array Slot), k52 x2 x3 x5 σ = some (r, σ') → wt_St D tI tII B σ s H locs → lv_has ls 9 [(0, .ref (B + 101)), (1, .int x1), (2, .int x2), (3, .int x3), (4, .int x4), (5, .int x5)] → W p l e rm_X4_swap s m args below meth c H locs 0 0 (MQ below (wt_Qi D tI tII B r σ') args s 0 0 (fun q => B ≤ q)) (F0 m 52 ls [])) (hf : j_X4_swap_128 F k37 k52 x1 x2 x3 x4 x5 x7 σ = some (r, σ')) (hM : wt_St D tI tII B σ s H locs) (hl : lv_has ls 9 [(0, .ref (B + 101)), (1, .int x1), (2, .int x2), (3, .int x3), (4, .int x4), (5, .int x5), (7, .int x7)]) : W p l e rm_X4_swap s m args below meth c H locs 0 0 (MQ below (wt_Qi D tI tII B r σ') args s 0 0 (fun q => B ≤ q)) (F0 m 128 ls []) := by
  obtain ⟨hx, hb, hts, hown, hml, hr, hlk, hK⟩ := id C
  replace hf := Eq.trans j_X4_swap_128_e.symm hf
  refine lv_iconst (v := 0) hx hb dX4_swap_128 (by decide) ?_
  exact w_X4_swap_129 C hk37 hk52 hf hM hl
set_option maxHeartbeats 4000000 in
set_option maxRecDepth 100000 in
theorem w_X4_swap_52 (C : wt_C p s m args meth c RX4 cX4_swap 9 (some .int) D tI tII) {F : Nat} {k37 : Int32 → Int32 → Int32 → Mem → Option (Int32 × Mem)} {x1 : Int32} {x4 : Int32} {r : Int32} {σ' : Mem} (hk37 : ∀ (x2 : Int32) (x3 : Int32) (x4 : Int32) (σ : Mem) (H : Heap) (locs : List Loc) (ls : Array Slot), k37 x2 x3 x4 σ = some (r, σ') → wt_St D tI tII B σ s H locs → lv_has ls 9 [(0, .ref (B + 101)), (1, .int x1), (2, .int x2), (3, .int x3), (4, .int x4)] → W p l e rm_X4_swap s m args below meth c H locs 0 0 (MQ below (wt_Qi D tI tII B r σ') args s 0 0 (fun q => B ≤ q)) (F0 m 37 ls [])) : ∀ (N : Nat) (x2 : Int32) (x3 : Int32) (x5 : Int32) (σ : Mem) (H : Heap) (locs : List Loc) (ls : Array Slot), lp_X4_swap_52 F k37 x1 x4 N x2 x3 x5 σ = some (r, σ') → wt_St D tI tII B σ s H locs → lv_has ls 9 [(0, .ref (B + 101)), (1, .int x1), (2, .int x2), (3, .int x3), (4, .int x4), (5, .int x5)] → W p l e rm_X4_swap s m args below meth c H locs 0 0 (MQ below (wt_Qi D tI tII B r σ') args s 0 0 (fun q => B ≤ q)) (F0 m 52 ls []) := by
  obtain ⟨hx, hb, hts, hown, hml, hr, hlk, hK⟩ := id C
  intro N
  induction N with
  | zero => intro x2 x3 x5 σ H locs ls hf; exact wt_none (show (none : Option (Int32 × Mem)) = some (r, σ') from hf)
  | succ N ih =>
    intro x2 x3 x5 σ H locs ls hf hM hl
    replace hf := Eq.trans lp_X4_swap_52_s.symm hf
    refine lv_iload hx hb dX4_swap_52 (lv_at hl 5 rfl) ?_
    refine lv_aload_n hx hb dX4_swap_54 rfl (lv_at hl 0 rfl) ?_
    refine gf_X4_lookers  hx hb hts hown hK hM tw_713 dX4_swap_55 ?_
    refine wq_icmp_ge (tgt := 167) hx hb dX4_swap_58 (by decide) hf (fun hf => ?_) (fun hf => ?_)
    · refine lv_iinc (v := (x4 + (1 : Int32))) (lv' := [(4, .int (x4 + (1 : Int32))), (0, .ref (B + 101)), (1, .int x1), (2, .int x2), (3, .int x3), (5, .int x5)]) hx hb dX4_swap_167 hl (k := 4) rfl rfl (by decide) rfl (fun ls hl => ?_)
      refine lv_goto (tgt := 37) hx hb dX4_swap_170 (by decide) ?_
      exact hk37 _ _ _ _ _ _ _ hf hM (lv_sub hl [1, 2, 3, 4, 0] rfl)
    refine lv_aload_n hx hb dX4_swap_61 rfl (lv_at hl 0 rfl) ?_
    refine lv_iload hx hb dX4_swap_62 (lv_at hl 4 rfl) ?_
    refine lv_iload_n hx hb dX4_swap_64 rfl (lv_at hl 1 rfl) ?_
    refine wt_callVi (As := [.int x4, .int x1]) (rest := []) hx hb hml hts hown hK hM wt_rc_X4 cw_X4_260 hd_X4_worthAnew rfl ⟨qz_b rfl, qz_b rfl⟩ ⟨rfl, rfl⟩ hl.1 rfl (qz_b rfl) dX4_swap_65 hf (fun _ _ h9 => c_X4_worthAnew h9) (fun r1 s2 H locs hf hM => ?_)
    refine lv_aload_n hx hb dX4_swap_68 rfl (lv_at hl 0 rfl) ?_
    refine lv_iload hx hb dX4_swap_69 (lv_at hl 5 rfl) ?_
    refine lv_iload_n hx hb dX4_swap_71 rfl (lv_at hl 1 rfl) ?_
    refine wt_callVi (As := [.int x5, .int x1]) (rest := [.int r1]) hx hb hml hts hown hK hM wt_rc_X4 cw_X4_137 hd_X4_worthIn rfl ⟨qz_b rfl, qz_b rfl⟩ ⟨rfl, rfl⟩ hl.1 rfl (qz_b rfl) dX4_swap_72 hf (fun _ _ h9 => c_X4_worthIn h9) (fun r3 s4 H locs hf hM => ?_)
    refine lv_iadd hx hb dX4_swap_75 ?_
    refine lv_istore (lv' := [(6, .int (r1 + r3)), (0, .ref (B + 101)), (1, .int x1), (2, .int x2), (3, .int x3), (4, .int x4), (5, .int x5)]) hx hb dX4_swap_76 hl (by decide) rfl (fun ls hl => ?_)
    refine lv_aload_n hx hb dX4_swap_78 rfl (lv_at hl 1 rfl) ?_
    refine lv_iload hx hb dX4_swap_79 (lv_at hl 5 rfl) ?_
    refine lv_iload hx hb dX4_swap_81 (lv_at hl 6 rfl) ?_
    refine wt_callVv (As := [.int x4, .int x5]) (rest := []) hx hb hml hts hown hK hM wt_rc_X4 cw_X4_288 hd_X4_swapRosters rfl ⟨qz_b rfl, qz_b rfl⟩ ⟨rfl, rfl⟩ hl.1 rfl (qz_b rfl) dX4_swap_83 hf (fun _ _ h9 => c_X4_swapRosters h9) (fun r5 s6 H locs hf hM => ?_)
    refine lv_aload_n hx hb dX4_swap_86 rfl (lv_at hl 1 rfl) ?_
    refine lv_iload hx hb dX4_swap_87 (lv_at hl 5 rfl) ?_
    refine lv_iload_n hx hb dX4_swap_89 rfl (lv_at hl 2 rfl) ?_
    refine wt_callVi (As := [.int x4, .int x1]) (rest := []) hx hb hml hts hown hK hM wt_rc_X4 cw_X4_260 hd_X4_worthAnew rfl ⟨qz_b rfl, qz_b rfl⟩ ⟨rfl, rfl⟩ hl.1 rfl (qz_b rfl) dX4_swap_90 hf (fun _ _ h9 => c_X4_worthAnew h9) (fun r7 s8 H locs hf hM => ?_)
    refine lv_aload_n hx hb dX4_swap_93 rfl (lv_at hl 1 rfl) ?_
    refine lv_iload hx hb dX4_swap_94 (lv_at hl 6 rfl) ?_
    refine lv_iload_n hx hb dX4_swap_96 rfl (lv_at hl 2 rfl) ?_
    refine wt_callVi (As := [.int x5, .int x1]) (rest := [.int r7]) hx hb hml hts hown hK hM wt_rc_X4 cw_X4_137 hd_X4_worthIn rfl ⟨qz_b rfl, qz_b rfl⟩ ⟨rfl, rfl⟩ hl.1 rfl (qz_b rfl) dX4_swap_97 hf (fun _ _ h9 => c_X4_worthIn h9) (fun r9 s10 H locs hf hM => ?_)
    refine lv_iadd hx hb dX4_swap_100 ?_
    refine lv_istore (lv' := [(7, .int (r7 + r9)), (6, .int (r1 + r3)), (0, .ref (B + 101)), (1, .int x1), (2, .int x2), (3, .int x3), (4, .int x4), (5, .int x5)]) hx hb dX4_swap_101 hl (by decide) rfl (fun ls hl => ?_)
    refine lv_aload_n hx hb dX4_swap_103 rfl (lv_at hl 2 rfl) ?_
    refine lv_iload hx hb dX4_swap_104 (lv_at hl 6 rfl) ?_
    refine lv_iload hx hb dX4_swap_106 (lv_at hl 7 rfl) ?_
    refine wt_callVv (As := [.int x4, .int x5]) (rest := []) hx hb hml hts hown hK hM wt_rc_X4 cw_X4_288 hd_X4_swapRosters rfl ⟨qz_b rfl, qz_b rfl⟩ ⟨rfl, rfl⟩ hl.1 rfl (qz_b rfl) dX4_swap_108 hf (fun _ _ h9 => c_X4_swapRosters h9) (fun r11 s12 H locs hf hM => ?_)
    refine lv_iload hx hb dX4_swap_111 (lv_at hl 0 rfl) ?_
    refine lv_iload hx hb dX4_swap_113 (lv_at hl 1 rfl) ?_
    refine wq_icmp_le (tgt := 128) hx hb dX4_swap_115 (by decide) hf (fun hf => ?_) (fun hf => ?_)
    · exact w_X4_swap_128 C hk37 ih hf hM (lv_sub hl [2, 3, 4, 5, 6, 7, 0] rfl)
    refine lv_iload hx hb dX4_swap_118 (lv_at hl 0 rfl) ?_
    refine lv_iload_n hx hb dX4_swap_120 rfl (lv_at hl 5 rfl) ?_
    refine wq_icmp_le (tgt := 128) hx hb dX4_swap_121 (by decide) hf (fun hf => ?_) (fun hf => ?_)
    · exact w_X4_swap_128 C hk37 ih hf hM (lv_sub hl [2, 3, 4, 5, 6, 7, 0] rfl)
    refine lv_iconst (v := 1) hx hb dX4_swap_124 (by decide) ?_
    refine lv_goto (tgt := 129) hx hb dX4_swap_125 (by decide) ?_
    exact w_X4_swap_129 C hk37 ih hf hM (lv_sub hl [2, 3, 4, 5, 6, 7, 0] rfl)
set_option maxHeartbeats 4000000 in
set_option maxRecDepth 100000 in
theorem w_X4_swap_37 (C : wt_C p s m args meth c RX4 cX4_swap 9 (some .int) D tI tII) {F : Nat} {x1 : Int32} {r : Int32} {σ' : Mem} : ∀ (N : Nat) (x2 : Int32) (x3 : Int32) (x4 : Int32) (σ : Mem) (H : Heap) (locs : List Loc) (ls : Array Slot), lp_X4_swap_37 F x1 N x2 x3 x4 σ = some (r, σ') → wt_St D tI tII B σ s H locs → lv_has ls 9 [(0, .ref (B + 101)), (1, .int x1), (2, .int x2), (3, .int x3), (4, .int x4)] → W p l e rm_X4_swap s m args below meth c H locs 0 0 (MQ below (wt_Qi D tI tII B r σ') args s 0 0 (fun q => B ≤ q)) (F0 m 37 ls []) := by
  obtain ⟨hx, hb, hts, hown, hml, hr, hlk, hK⟩ := id C
  intro N
  induction N with
  | zero => intro x2 x3 x4 σ H locs ls hf; exact wt_none (show (none : Option (Int32 × Mem)) = some (r, σ') from hf)
  | succ N ih =>
    intro x2 x3 x4 σ H locs ls hf hM hl
    replace hf := Eq.trans lp_X4_swap_37_s.symm hf
    refine lv_iload hx hb dX4_swap_37 (lv_at hl 4 rfl) ?_
    refine lv_aload_n hx hb dX4_swap_39 rfl (lv_at hl 0 rfl) ?_
    refine gf_X4_lookers  hx hb hts hown hK hM tw_713 dX4_swap_40 ?_
    refine wq_icmp_ge (tgt := 173) hx hb dX4_swap_43 (by decide) hf (fun hf => ?_) (fun hf => ?_)
    · refine lv_iload_n hx hb dX4_swap_173 rfl (lv_at hl 2 rfl) ?_
      exact wt_iret hx hb hr hlk hK hM hf dX4_swap_174
    refine lv_iload hx hb dX4_swap_46 (lv_at hl 4 rfl) ?_
    refine lv_iconst (v := 1) hx hb dX4_swap_48 (by decide) ?_
    refine lv_iadd hx hb dX4_swap_49 ?_
    refine lv_istore (lv' := [(5, .int (x4 + (1 : Int32))), (0, .ref (B + 101)), (1, .int x1), (2, .int x2), (3, .int x3), (4, .int x4)]) hx hb dX4_swap_50 hl (by decide) rfl (fun ls hl => ?_)
    exact w_X4_swap_52 C ih _ _ _ _ _ _ _ _ hf hM (lv_sub hl [1, 2, 3, 4, 5, 0] rfl)
set_option maxHeartbeats 4000000 in
set_option maxRecDepth 100000 in
theorem w_X4_swap_0 (C : wt_C p s m args meth c RX4 cX4_swap 9 (some .int) D tI tII) {F : Nat} {x1 : Int32} {σ : Mem} {r : Int32} {σ' : Mem} {H : Heap} {locs : List Loc} {ls : Array Slot} (hf : f_X4_swap F x1 σ = some (r, σ')) (hM : wt_St D tI tII B σ s H locs) (hl : lv_has ls 9 [(0, .ref (B + 101)), (1, .int x1)]) : W p l e rm_X4_swap s m args below meth c H locs 0 0 (MQ below (wt_Qi D tI tII B r σ') args s 0 0 (fun q => B ≤ q)) (F0 m 0 ls []) := by
  obtain ⟨hx, hb, hts, hown, hml, hr, hlk, hK⟩ := id C
  replace hf := Eq.trans f_X4_swap_e.symm hf
  refine lv_aload_n hx hb dX4_swap_0 rfl (lv_at hl 0 rfl) ?_
  refine lv_iconst (v := 0) hx hb dX4_swap_1 (by decide) ?_
  refine pf_X4_thrown  hx hb hts hown hK hM tw_720 dX4_swap_2 hf (fun s13 H locs hf hM => ?_)
  refine lv_iload_n hx hb dX4_swap_5 rfl (lv_at hl 1 rfl) ?_
  refine lv_iconst (v := 0) hx hb dX4_swap_6 (by decide) ?_
  refine lv_sipush (v := 999) hx hb dX4_swap_7 (by decide) ?_
  refine wt_callSi (As := [.int x1, .int (0 : Int32), .int (999 : Int32)]) (rest := []) hx hb hml hts hown hK hM cw_X4_231 hd_X4_wrongNumber rfl ⟨qz_b rfl, qz_b rfl⟩ ⟨rfl, rfl⟩ hl.1 rfl (qz_b rfl) dX4_swap_10 hf (fun _ _ h9 => c_X4_wrongNumber h9) (fun r14 s15 H locs hf hM => ?_)
  refine wq_if_ge (tgt := 29) hx hb dX4_swap_13 (by decide) hf (fun hf => ?_) (fun hf => ?_)
  · refine lv_bipush (v := -9) hx hb dX4_swap_29 (by decide) ?_
    refine lv_istore_n (lv' := [(2, .int (-9 : Int32)), (0, .ref (B + 101)), (1, .int x1)]) hx hb dX4_swap_31 rfl hl (by decide) rfl (fun ls hl => ?_)
    refine lv_iconst (v := -1) hx hb dX4_swap_32 (by decide) ?_
    refine lv_istore_n (lv' := [(3, .int (-1 : Int32)), (2, .int (-9 : Int32)), (0, .ref (B + 101)), (1, .int x1)]) hx hb dX4_swap_33 rfl hl (by decide) rfl (fun ls hl => ?_)
    refine lv_iconst (v := 0) hx hb dX4_swap_34 (by decide) ?_
    refine lv_istore (lv' := [(4, .int (0 : Int32)), (3, .int (-1 : Int32)), (2, .int (-9 : Int32)), (0, .ref (B + 101)), (1, .int x1)]) hx hb dX4_swap_35 hl (by decide) rfl (fun ls hl => ?_)
    exact w_X4_swap_37 C _ _ _ _ _ _ _ _ hf hM (lv_sub hl [3, 4, 2, 1, 0] rfl)
  refine lv_aload_n hx hb dX4_swap_16 rfl (lv_at hl 0 rfl) ?_
  refine lv_iload_n hx hb dX4_swap_17 rfl (lv_at hl 1 rfl) ?_
  refine lv_iconst (v := 0) hx hb dX4_swap_18 (by decide) ?_
  refine lv_sipush (v := 999) hx hb dX4_swap_19 (by decide) ?_
  refine wt_callSi (As := [.int x1, .int (0 : Int32), .int (999 : Int32)]) (rest := [.ref (B + 101)]) hx hb hml hts hown hK hM cw_X4_231 hd_X4_wrongNumber rfl ⟨qz_b rfl, qz_b rfl⟩ ⟨rfl, rfl⟩ hl.1 rfl (qz_b rfl) dX4_swap_22 hf (fun _ _ h9 => c_X4_wrongNumber h9) (fun r16 s17 H locs hf hM => ?_)
  refine wt_callVi (As := [.int r16]) (rest := []) hx hb hml hts hown hK hM wt_rc_X4 cw_X4_143 hd_X4_refuse rfl ⟨qz_b rfl, qz_b rfl⟩ ⟨rfl, rfl⟩ hl.1 rfl (qz_b rfl) dX4_swap_25 hf (fun _ _ h9 => c_X4_refuse h9) (fun r18 s19 H locs hf hM => ?_)
  exact wt_iret hx hb hr hlk hK hM hf dX4_swap_28
end
set_option maxHeartbeats 4000000 in
set_option maxRecDepth 100000 in
theorem c_X4_swap {l : Launch} {D : va_G} {tI tII : ClassId} {B F : Nat} {x1 : Int32} {σ σ' : Mem} {r : Int32} (hf : f_X4_swap F x1 σ = some (r, σ')) : wt_Mi l yX4_swap cX4_swap 9 (some .int) rm_X4_swap [.ref (B + 101), .int x1] D tI tII B σ r σ' := by
  refine Met.ofW (cc := cX4_swap) (maxL := 9) (ret := (some .int)) (by decide) rfl ?_
  intro p e s m args below meth c s₁ B9 hml hv
  obtain ⟨rfl, hP, hK⟩ := hv
  have hl := lv_entry ([.ref (B + 101), .int x1]) (n := 9) (qz_b rfl)
  rw [lg_entry_eq]
  generalize (lg_sl ([.ref (B + 101), .int x1]) ++ List.replicate (9 - (lg_sl ([.ref (B + 101), .int x1])).length) Slot.unset).toArray = ls at hl ⊢
  exact w_X4_swap_0 (wt_C_of B9 hml hK) hf ⟨hP, va_S.rf⟩ hl
section
variable {p : Program} {l : Launch} {e : Env} {s : State} {m : MethodId} {args : Array Value} {below : List Frame} {meth : Method} {c : Code} {D : va_G} {tI tII : ClassId} {B : Nat}
set_option maxHeartbeats 4000000 in
set_option maxRecDepth 100000 in
theorem w_X4_heir_63 (C : wt_C p s m args meth c RX4 cX4_heir 6 (some .int) D tI tII) {F : Nat} {x1 : Int32} {x2 : Int32} {x3 : Int32} {r : Int32} {σ' : Mem} : ∀ (N : Nat) (x5 : Int32) (σ : Mem) (H : Heap) (locs : List Loc) (ls : Array Slot), lp_X4_heir_63 F x1 x2 x3 N x5 σ = some (r, σ') → wt_St D tI tII B σ s H locs → lv_has ls 6 [(0, .ref (B + 101)), (1, .int x1), (2, .int x2), (3, .int x3), (5, .int x5)] → W p l e rm_X4_heir s m args below meth c H locs 0 0 (MQ below (wt_Qi D tI tII B r σ') args s 0 0 (fun q => B ≤ q)) (F0 m 63 ls []) := by
  obtain ⟨hx, hb, hts, hown, hml, hr, hlk, hK⟩ := id C
  intro N
  induction N with
  | zero => intro x5 σ H locs ls hf; exact wt_none (show (none : Option (Int32 × Mem)) = some (r, σ') from hf)
  | succ N ih =>
    intro x5 σ H locs ls hf hM hl
    replace hf := Eq.trans lp_X4_heir_63_s.symm hf
    refine lv_iload hx hb dX4_heir_63 (lv_at hl 4 rfl) ?_
    refine lv_bipush (v := 8) hx hb dX4_heir_65 (by decide) ?_
    refine wq_icmp_ge (tgt := 89) hx hb dX4_heir_67 (by decide) hf (fun hf => ?_) (fun hf => ?_)
    · refine lv_aload_n hx hb dX4_heir_89 rfl (lv_at hl 0 rfl) ?_
      refine wt_callVv (As := []) (rest := []) hx hb hml hts hown hK hM wt_rc_X4 cw_X4_134 hd_X4_layBrings rfl ⟨qz_b rfl, qz_b rfl⟩ ⟨rfl, rfl⟩ hl.1 rfl (qz_b rfl) dX4_heir_90 hf (fun _ _ h9 => c_X4_layBrings h9) (fun r1 s2 H locs hf hM => ?_)
      refine lv_aload_n hx hb dX4_heir_93 rfl (lv_at hl 0 rfl) ?_
      refine lv_iload_n hx hb dX4_heir_94 rfl (lv_at hl 2 rfl) ?_
      refine lv_iload_n hx hb dX4_heir_95 rfl (lv_at hl 3 rfl) ?_
      refine wt_callVi (As := [.int x2, .int x3]) (rest := []) hx hb hml hts hown hK hM wt_rc_X4 cw_X4_125 hd_X4_ownerIn rfl ⟨qz_b rfl, qz_b rfl⟩ ⟨rfl, rfl⟩ hl.1 rfl (qz_b rfl) dX4_heir_96 hf (fun _ _ h9 => c_X4_ownerIn h9) (fun r3 s4 H locs hf hM => ?_)
      refine lv_istore (lv' := [(5, .int r3), (0, .ref (B + 101)), (1, .int x1), (2, .int x2), (3, .int x3)]) hx hb dX4_heir_99 hl (by decide) rfl (fun ls hl => ?_)
      refine lv_aload_n hx hb dX4_heir_101 rfl (lv_at hl 1 rfl) ?_
      refine wt_callVv (As := []) (rest := []) hx hb hml hts hown hK hM wt_rc_X4 cw_X4_201 hd_X4_again rfl ⟨qz_b rfl, qz_b rfl⟩ ⟨rfl, rfl⟩ hl.1 rfl (qz_b rfl) dX4_heir_102 hf (fun _ _ h9 => c_X4_again h9) (fun r5 s6 H locs hf hM => ?_)
      refine lv_iload hx hb dX4_heir_105 (lv_at hl 0 rfl) ?_
      exact wt_iret hx hb hr hlk hK hM hf dX4_heir_107
    refine lv_aload_n hx hb dX4_heir_70 rfl (lv_at hl 0 rfl) ?_
    refine gf_X4_counted  hx hb hts hown hK hM tw_717 dX4_heir_71 ?_
    refine lv_bipush (v := 8) hx hb dX4_heir_74 (by decide) ?_
    refine lv_iload_n hx hb dX4_heir_76 rfl (lv_at hl 1 rfl) ?_
    refine lv_imul hx hb dX4_heir_77 ?_
    refine lv_iload hx hb dX4_heir_78 (lv_at hl 4 rfl) ?_
    refine lv_iadd hx hb dX4_heir_80 ?_
    refine lv_iconst (v := 0) hx hb dX4_heir_81 (by decide) ?_
    obtain ⟨i7, hf⟩ := wt_chk_of hf
    refine wt_ist hx hb hK hM wt_a107 i7 dX4_heir_82 hf (fun s8 H locs hf hM => ?_)
    refine lv_iinc (v := (x5 + (1 : Int32))) (lv' := [(5, .int (x5 + (1 : Int32))), (0, .ref (B + 101)), (1, .int x1), (2, .int x2), (3, .int x3)]) hx hb dX4_heir_83 hl (k := 4) rfl rfl (by decide) rfl (fun ls hl => ?_)
    refine lv_goto (tgt := 63) hx hb dX4_heir_86 (by decide) ?_
    exact ih _ _ _ _ _ hf hM (lv_sub hl [1, 2, 3, 4, 0] rfl)
set_option maxHeartbeats 4000000 in
set_option maxRecDepth 100000 in
theorem w_X4_heir_32 (C : wt_C p s m args meth c RX4 cX4_heir 6 (some .int) D tI tII) {F : Nat} {x1 : Int32} {x2 : Int32} {x3 : Int32} {t0 : Int32} {σ : Mem} {r : Int32} {σ' : Mem} {H : Heap} {locs : List Loc} {ls : Array Slot} (hf : j_X4_heir_32 F x1 x2 x3 t0 σ = some (r, σ')) (hM : wt_St D tI tII B σ s H locs) (hl : lv_has ls 6 [(0, .ref (B + 101)), (1, .int x1), (2, .int x2), (3, .int x3)]) : W p l e rm_X4_heir s m args below meth c H locs 0 0 (MQ below (wt_Qi D tI tII B r σ') args s 0 0 (fun q => B ≤ q)) (F0 m 32 ls [.int t0]) := by
  obtain ⟨hx, hb, hts, hown, hml, hr, hlk, hK⟩ := id C
  replace hf := Eq.trans j_X4_heir_32_e.symm hf
  refine lv_istore (lv' := [(4, .int t0), (0, .ref (B + 101)), (1, .int x1), (2, .int x2), (3, .int x3)]) hx hb dX4_heir_32 hl (by decide) rfl (fun ls hl => ?_)
  refine lv_iload hx hb dX4_heir_34 (lv_at hl 0 rfl) ?_
  refine wq_if_ge (tgt := 46) hx hb dX4_heir_36 (by decide) hf (fun hf => ?_) (fun hf => ?_)
  · refine lv_aload_n hx hb dX4_heir_46 rfl (lv_at hl 1 rfl) ?_
    refine wt_callVv (As := []) (rest := []) hx hb hml hts hown hK hM wt_rc_X4 cw_X4_195 hd_X4_think rfl ⟨qz_b rfl, qz_b rfl⟩ ⟨rfl, rfl⟩ hl.1 rfl (qz_b rfl) dX4_heir_47 hf (fun _ _ h9 => c_X4_think h9) (fun r9 s10 H locs hf hM => ?_)
    refine lv_aload_n hx hb dX4_heir_50 rfl (lv_at hl 1 rfl) ?_
    refine lv_iload_n hx hb dX4_heir_51 rfl (lv_at hl 2 rfl) ?_
    refine lv_iconst (v := 0) hx hb dX4_heir_52 (by decide) ?_
    refine lv_bipush (v := 23) hx hb dX4_heir_53 (by decide) ?_
    refine lv_bipush (v := 9) hx hb dX4_heir_55 (by decide) ?_
    refine wt_callVv (As := [.int x1, .int (0 : Int32), .int (23 : Int32), .int (9 : Int32)]) (rest := []) hx hb hml hts hown hK hM wt_rc_X4 cw_X4_182 hd_X4_stand rfl ⟨qz_b rfl, qz_b rfl⟩ ⟨rfl, rfl⟩ hl.1 rfl (qz_b rfl) dX4_heir_57 hf (fun _ _ h9 => c_X4_stand h9) (fun r11 s12 H locs hf hM => ?_)
    refine lv_iconst (v := 0) hx hb dX4_heir_60 (by decide) ?_
    refine lv_istore (lv' := [(5, .int (0 : Int32)), (4, .int t0), (0, .ref (B + 101)), (1, .int x1), (2, .int x2), (3, .int x3)]) hx hb dX4_heir_61 hl (by decide) rfl (fun ls hl => ?_)
    exact w_X4_heir_63 C _ _ _ _ _ _ hf hM (lv_sub hl [2, 3, 4, 5, 0] rfl)
  refine lv_aload_n hx hb dX4_heir_39 rfl (lv_at hl 1 rfl) ?_
  refine lv_iload hx hb dX4_heir_40 (lv_at hl 0 rfl) ?_
  refine wt_callVi (As := [.int t0]) (rest := []) hx hb hml hts hown hK hM wt_rc_X4 cw_X4_143 hd_X4_refuse rfl ⟨qz_b rfl, qz_b rfl⟩ ⟨rfl, rfl⟩ hl.1 rfl (qz_b rfl) dX4_heir_42 hf (fun _ _ h9 => c_X4_refuse h9) (fun r13 s14 H locs hf hM => ?_)
  exact wt_iret hx hb hr hlk hK hM hf dX4_heir_45
set_option maxHeartbeats 4000000 in
set_option maxRecDepth 100000 in
theorem w_X4_heir_31 (C : wt_C p s m args meth c RX4 cX4_heir 6 (some .int) D tI tII) {F : Nat} {x1 : Int32} {x2 : Int32} {x3 : Int32} {σ : Mem} {r : Int32} {σ' : Mem} {H : Heap} {locs : List Loc} {ls : Array Slot} (hf : j_X4_heir_31 F x1 x2 x3 σ = some (r, σ')) (hM : wt_St D tI tII B σ s H locs) (hl : lv_has ls 6 [(0, .ref (B + 101)), (1, .int x1), (2, .int x2), (3, .int x3)]) : W p l e rm_X4_heir s m args below meth c H locs 0 0 (MQ below (wt_Qi D tI tII B r σ') args s 0 0 (fun q => B ≤ q)) (F0 m 31 ls []) := by
  obtain ⟨hx, hb, hts, hown, hml, hr, hlk, hK⟩ := id C
  replace hf := Eq.trans j_X4_heir_31_e.symm hf
  refine lv_iconst (v := -1) hx hb dX4_heir_31 (by decide) ?_
  exact w_X4_heir_32 C hf hM hl
set_option maxHeartbeats 4000000 in
set_option maxRecDepth 100000 in
theorem w_X4_heir_0 (C : wt_C p s m args meth c RX4 cX4_heir 6 (some .int) D tI tII) {F : Nat} {x1 : Int32} {x2 : Int32} {x3 : Int32} {σ : Mem} {r : Int32} {σ' : Mem} {H : Heap} {locs : List Loc} {ls : Array Slot} (hf : f_X4_heir F x1 x2 x3 σ = some (r, σ')) (hM : wt_St D tI tII B σ s H locs) (hl : lv_has ls 6 [(0, .ref (B + 101)), (1, .int x1), (2, .int x2), (3, .int x3)]) : W p l e rm_X4_heir s m args below meth c H locs 0 0 (MQ below (wt_Qi D tI tII B r σ') args s 0 0 (fun q => B ≤ q)) (F0 m 0 ls []) := by
  obtain ⟨hx, hb, hts, hown, hml, hr, hlk, hK⟩ := id C
  replace hf := Eq.trans f_X4_heir_e.symm hf
  refine lv_aload_n hx hb dX4_heir_0 rfl (lv_at hl 0 rfl) ?_
  refine lv_iconst (v := 0) hx hb dX4_heir_1 (by decide) ?_
  refine pf_X4_thrown  hx hb hts hown hK hM tw_720 dX4_heir_2 hf (fun s15 H locs hf hM => ?_)
  refine lv_aload_n hx hb dX4_heir_5 rfl (lv_at hl 0 rfl) ?_
  refine lv_iload_n hx hb dX4_heir_6 rfl (lv_at hl 1 rfl) ?_
  refine wt_callVi (As := [.int x1]) (rest := []) hx hb hml hts hown hK hM wt_rc_X4 cw_X4_88 hd_X4_isLooker rfl ⟨qz_b rfl, qz_b rfl⟩ ⟨rfl, rfl⟩ hl.1 rfl (qz_b rfl) dX4_heir_7 hf (fun _ _ h9 => c_X4_isLooker h9) (fun r16 s17 H locs hf hM => ?_)
  refine wq_if_eq (tgt := 31) hx hb dX4_heir_10 (by decide) hf (fun hf => ?_) (fun hf => ?_)
  · exact w_X4_heir_31 C hf hM hl
  refine lv_iload_n hx hb dX4_heir_13 rfl (lv_at hl 2 rfl) ?_
  refine wt_callSi (As := [.int x2]) (rest := []) hx hb hml hts hown hK hM cw_X4_243 hd_X4_isView rfl ⟨qz_b rfl, qz_b rfl⟩ ⟨rfl, rfl⟩ hl.1 rfl (qz_b rfl) dX4_heir_14 hf (fun _ _ h9 => c_X4_isView h9) (fun r18 s19 H locs hf hM => ?_)
  refine wq_if_eq (tgt := 31) hx hb dX4_heir_17 (by decide) hf (fun hf => ?_) (fun hf => ?_)
  · exact w_X4_heir_31 C hf hM hl
  refine lv_iload_n hx hb dX4_heir_20 rfl (lv_at hl 3 rfl) ?_
  refine lv_iconst (v := 0) hx hb dX4_heir_21 (by decide) ?_
  refine lv_sipush (v := 999) hx hb dX4_heir_22 (by decide) ?_
  refine wt_callSi (As := [.int x3, .int (0 : Int32), .int (999 : Int32)]) (rest := []) hx hb hml hts hown hK hM cw_X4_231 hd_X4_wrongNumber rfl ⟨qz_b rfl, qz_b rfl⟩ ⟨rfl, rfl⟩ hl.1 rfl (qz_b rfl) dX4_heir_25 hf (fun _ _ h9 => c_X4_wrongNumber h9) (fun r20 s21 H locs hf hM => ?_)
  refine lv_goto (tgt := 32) hx hb dX4_heir_28 (by decide) ?_
  exact w_X4_heir_32 C hf hM hl
end
set_option maxHeartbeats 4000000 in
set_option maxRecDepth 100000 in
theorem c_X4_heir {l : Launch} {D : va_G} {tI tII : ClassId} {B F : Nat} {x1 : Int32} {x2 : Int32} {x3 : Int32} {σ σ' : Mem} {r : Int32} (hf : f_X4_heir F x1 x2 x3 σ = some (r, σ')) : wt_Mi l yX4_heir cX4_heir 6 (some .int) rm_X4_heir [.ref (B + 101), .int x1, .int x2, .int x3] D tI tII B σ r σ' := by
  refine Met.ofW (cc := cX4_heir) (maxL := 6) (ret := (some .int)) (by decide) rfl ?_
  intro p e s m args below meth c s₁ B9 hml hv
  obtain ⟨rfl, hP, hK⟩ := hv
  have hl := lv_entry ([.ref (B + 101), .int x1, .int x2, .int x3]) (n := 6) (qz_b rfl)
  rw [lg_entry_eq]
  generalize (lg_sl ([.ref (B + 101), .int x1, .int x2, .int x3]) ++ List.replicate (6 - (lg_sl ([.ref (B + 101), .int x1, .int x2, .int x3])).length) Slot.unset).toArray = ls at hl ⊢
  exact w_X4_heir_0 (wt_C_of B9 hml hK) hf ⟨hP, va_S.rf⟩ hl
section
variable {p : Program} {l : Launch} {e : Env} {s : State} {m : MethodId} {args : Array Value} {below : List Frame} {meth : Method} {c : Code} {D : va_G} {tI tII : ClassId} {B : Nat}
set_option maxHeartbeats 4000000 in
set_option maxRecDepth 100000 in
theorem w_X4_even_81 (C : wt_C p s m args meth c RX4 cX4_even 5 (some .int) D tI tII) {F : Nat} {k37 : Int32 → Int32 → Mem → Option (Int32 × Mem)} {k50 : Int32 → Int32 → Mem → Option (Int32 × Mem)} {x1 : Int32} {x3 : Int32} {x4 : Int32} {t0 : Int32} {t1 : Int32} {σ : Mem} {r : Int32} {σ' : Mem} {H : Heap} {locs : List Loc} {ls : Array Slot} (hk37 : ∀ (x2 : Int32) (x3 : Int32) (σ : Mem) (H : Heap) (locs : List Loc) (ls : Array Slot), k37 x2 x3 σ = some (r, σ') → wt_St D tI tII B σ s H locs → lv_has ls 5 [(0, .ref (B + 101)), (1, .int x1), (2, .int x2), (3, .int x3)] → W p l e rm_X4_even s m args below meth c H locs 0 0 (MQ below (wt_Qi D tI tII B r σ') args s 0 0 (fun q => B ≤ q)) (F0 m 37 ls [])) (hk50 : ∀ (x2 : Int32) (x4 : Int32) (σ : Mem) (H : Heap) (locs : List Loc) (ls : Array Slot), k50 x2 x4 σ = some (r, σ') → wt_St D tI tII B σ s H locs → lv_has ls 5 [(0, .ref (B + 101)), (1, .int x1), (2, .int x2), (3, .int x3), (4, .int x4)] → W p l e rm_X4_even s m args below meth c H locs 0 0 (MQ below (wt_Qi D tI tII B r σ') args s 0 0 (fun q => B ≤ q)) (F0 m 50 ls [])) (hf : j_X4_even_81 F k37 k50 x1 x3 x4 t0 t1 σ = some (r, σ')) (hM : wt_St D tI tII B σ s H locs) (hl : lv_has ls 5 [(0, .ref (B + 101)), (1, .int x1), (3, .int x3), (4, .int x4)]) : W p l e rm_X4_even s m args below meth c H locs 0 0 (MQ below (wt_Qi D tI tII B r σ') args s 0 0 (fun q => B ≤ q)) (F0 m 81 ls [.int t1, .int t0]) := by
  obtain ⟨hx, hb, hts, hown, hml, hr, hlk, hK⟩ := id C
  replace hf := Eq.trans j_X4_even_81_e.symm hf
  refine lv_iadd hx hb dX4_even_81 ?_
  refine lv_istore_n (lv' := [(2, .int (t0 + t1)), (0, .ref (B + 101)), (1, .int x1), (3, .int x3), (4, .int x4)]) hx hb dX4_even_82 rfl hl (by decide) rfl (fun ls hl => ?_)
  refine lv_iinc (v := (x4 + (1 : Int32))) (lv' := [(4, .int (x4 + (1 : Int32))), (2, .int (t0 + t1)), (0, .ref (B + 101)), (1, .int x1), (3, .int x3)]) hx hb dX4_even_83 hl (k := 4) rfl rfl (by decide) rfl (fun ls hl => ?_)
  refine lv_goto (tgt := 50) hx hb dX4_even_86 (by decide) ?_
  exact hk50 _ _ _ _ _ _ hf hM (lv_sub hl [2, 3, 1, 4, 0] rfl)
set_option maxHeartbeats 4000000 in
set_option maxRecDepth 100000 in
theorem w_X4_even_50 (C : wt_C p s m args meth c RX4 cX4_even 5 (some .int) D tI tII) {F : Nat} {k37 : Int32 → Int32 → Mem → Option (Int32 × Mem)} {x1 : Int32} {x3 : Int32} {r : Int32} {σ' : Mem} (hk37 : ∀ (x2 : Int32) (x3 : Int32) (σ : Mem) (H : Heap) (locs : List Loc) (ls : Array Slot), k37 x2 x3 σ = some (r, σ') → wt_St D tI tII B σ s H locs → lv_has ls 5 [(0, .ref (B + 101)), (1, .int x1), (2, .int x2), (3, .int x3)] → W p l e rm_X4_even s m args below meth c H locs 0 0 (MQ below (wt_Qi D tI tII B r σ') args s 0 0 (fun q => B ≤ q)) (F0 m 37 ls [])) : ∀ (N : Nat) (x2 : Int32) (x4 : Int32) (σ : Mem) (H : Heap) (locs : List Loc) (ls : Array Slot), lp_X4_even_50 F k37 x1 x3 N x2 x4 σ = some (r, σ') → wt_St D tI tII B σ s H locs → lv_has ls 5 [(0, .ref (B + 101)), (1, .int x1), (2, .int x2), (3, .int x3), (4, .int x4)] → W p l e rm_X4_even s m args below meth c H locs 0 0 (MQ below (wt_Qi D tI tII B r σ') args s 0 0 (fun q => B ≤ q)) (F0 m 50 ls []) := by
  obtain ⟨hx, hb, hts, hown, hml, hr, hlk, hK⟩ := id C
  intro N
  induction N with
  | zero => intro x2 x4 σ H locs ls hf; exact wt_none (show (none : Option (Int32 × Mem)) = some (r, σ') from hf)
  | succ N ih =>
    intro x2 x4 σ H locs ls hf hM hl
    replace hf := Eq.trans lp_X4_even_50_s.symm hf
    refine lv_iload hx hb dX4_even_50 (lv_at hl 4 rfl) ?_
    refine lv_aload_n hx hb dX4_even_52 rfl (lv_at hl 0 rfl) ?_
    refine gf_X4_lookers  hx hb hts hown hK hM tw_713 dX4_even_53 ?_
    refine wq_icmp_ge (tgt := 89) hx hb dX4_even_56 (by decide) hf (fun hf => ?_) (fun hf => ?_)
    · refine lv_iinc (v := (x3 + (1 : Int32))) (lv' := [(3, .int (x3 + (1 : Int32))), (0, .ref (B + 101)), (1, .int x1), (2, .int x2), (4, .int x4)]) hx hb dX4_even_89 hl (k := 3) rfl rfl (by decide) rfl (fun ls hl => ?_)
      refine lv_goto (tgt := 37) hx hb dX4_even_92 (by decide) ?_
      exact hk37 _ _ _ _ _ _ hf hM (lv_sub hl [1, 2, 3, 0] rfl)
    refine lv_iload_n hx hb dX4_even_59 rfl (lv_at hl 2 rfl) ?_
    refine lv_aload_n hx hb dX4_even_60 rfl (lv_at hl 0 rfl) ?_
    refine lv_iload_n hx hb dX4_even_61 rfl (lv_at hl 3 rfl) ?_
    refine lv_iload_n hx hb dX4_even_62 rfl (lv_at hl 1 rfl) ?_
    refine wt_callVi (As := [.int x3, .int x1]) (rest := [.int x2]) hx hb hml hts hown hK hM wt_rc_X4 cw_X4_137 hd_X4_worthIn rfl ⟨qz_b rfl, qz_b rfl⟩ ⟨rfl, rfl⟩ hl.1 rfl (qz_b rfl) dX4_even_63 hf (fun _ _ h9 => c_X4_worthIn h9) (fun r1 s2 H locs hf hM => ?_)
    refine lv_aload_n hx hb dX4_even_66 rfl (lv_at hl 0 rfl) ?_
    refine lv_iload hx hb dX4_even_67 (lv_at hl 4 rfl) ?_
    refine lv_iload_n hx hb dX4_even_69 rfl (lv_at hl 1 rfl) ?_
    refine wt_callVi (As := [.int x4, .int x1]) (rest := [.int r1, .int x2]) hx hb hml hts hown hK hM wt_rc_X4 cw_X4_137 hd_X4_worthIn rfl ⟨qz_b rfl, qz_b rfl⟩ ⟨rfl, rfl⟩ hl.1 rfl (qz_b rfl) dX4_even_70 hf (fun _ _ h9 => c_X4_worthIn h9) (fun r3 s4 H locs hf hM => ?_)
    refine wq_icmp_ne (tgt := 80) hx hb dX4_even_73 (by decide) hf (fun hf => ?_) (fun hf => ?_)
    · refine lv_iconst (v := 0) hx hb dX4_even_80 (by decide) ?_
      exact w_X4_even_81 C hk37 ih hf hM (lv_sub hl [0, 1, 3, 4] rfl)
    refine lv_iconst (v := 1) hx hb dX4_even_76 (by decide) ?_
    refine lv_goto (tgt := 81) hx hb dX4_even_77 (by decide) ?_
    exact w_X4_even_81 C hk37 ih hf hM (lv_sub hl [0, 1, 3, 4] rfl)
set_option maxHeartbeats 4000000 in
set_option maxRecDepth 100000 in
theorem w_X4_even_37 (C : wt_C p s m args meth c RX4 cX4_even 5 (some .int) D tI tII) {F : Nat} {x1 : Int32} {r : Int32} {σ' : Mem} : ∀ (N : Nat) (x2 : Int32) (x3 : Int32) (σ : Mem) (H : Heap) (locs : List Loc) (ls : Array Slot), lp_X4_even_37 F x1 N x2 x3 σ = some (r, σ') → wt_St D tI tII B σ s H locs → lv_has ls 5 [(0, .ref (B + 101)), (1, .int x1), (2, .int x2), (3, .int x3)] → W p l e rm_X4_even s m args below meth c H locs 0 0 (MQ below (wt_Qi D tI tII B r σ') args s 0 0 (fun q => B ≤ q)) (F0 m 37 ls []) := by
  obtain ⟨hx, hb, hts, hown, hml, hr, hlk, hK⟩ := id C
  intro N
  induction N with
  | zero => intro x2 x3 σ H locs ls hf; exact wt_none (show (none : Option (Int32 × Mem)) = some (r, σ') from hf)
  | succ N ih =>
    intro x2 x3 σ H locs ls hf hM hl
    replace hf := Eq.trans lp_X4_even_37_s.symm hf
    refine lv_iload_n hx hb dX4_even_37 rfl (lv_at hl 3 rfl) ?_
    refine lv_aload_n hx hb dX4_even_38 rfl (lv_at hl 0 rfl) ?_
    refine gf_X4_lookers  hx hb hts hown hK hM tw_713 dX4_even_39 ?_
    refine wq_icmp_ge (tgt := 95) hx hb dX4_even_42 (by decide) hf (fun hf => ?_) (fun hf => ?_)
    · refine lv_iload_n hx hb dX4_even_95 rfl (lv_at hl 2 rfl) ?_
      exact wt_iret hx hb hr hlk hK hM hf dX4_even_96
    refine lv_iload_n hx hb dX4_even_45 rfl (lv_at hl 3 rfl) ?_
    refine lv_iconst (v := 1) hx hb dX4_even_46 (by decide) ?_
    refine lv_iadd hx hb dX4_even_47 ?_
    refine lv_istore (lv' := [(4, .int (x3 + (1 : Int32))), (0, .ref (B + 101)), (1, .int x1), (2, .int x2), (3, .int x3)]) hx hb dX4_even_48 hl (by decide) rfl (fun ls hl => ?_)
    exact w_X4_even_50 C ih _ _ _ _ _ _ _ hf hM (lv_sub hl [1, 2, 3, 4, 0] rfl)
set_option maxHeartbeats 4000000 in
set_option maxRecDepth 100000 in
theorem w_X4_even_0 (C : wt_C p s m args meth c RX4 cX4_even 5 (some .int) D tI tII) {F : Nat} {x1 : Int32} {σ : Mem} {r : Int32} {σ' : Mem} {H : Heap} {locs : List Loc} {ls : Array Slot} (hf : f_X4_even F x1 σ = some (r, σ')) (hM : wt_St D tI tII B σ s H locs) (hl : lv_has ls 5 [(0, .ref (B + 101)), (1, .int x1)]) : W p l e rm_X4_even s m args below meth c H locs 0 0 (MQ below (wt_Qi D tI tII B r σ') args s 0 0 (fun q => B ≤ q)) (F0 m 0 ls []) := by
  obtain ⟨hx, hb, hts, hown, hml, hr, hlk, hK⟩ := id C
  replace hf := Eq.trans f_X4_even_e.symm hf
  refine lv_aload_n hx hb dX4_even_0 rfl (lv_at hl 0 rfl) ?_
  refine lv_iconst (v := 0) hx hb dX4_even_1 (by decide) ?_
  refine pf_X4_thrown  hx hb hts hown hK hM tw_720 dX4_even_2 hf (fun s5 H locs hf hM => ?_)
  refine lv_iload_n hx hb dX4_even_5 rfl (lv_at hl 1 rfl) ?_
  refine lv_iconst (v := 0) hx hb dX4_even_6 (by decide) ?_
  refine lv_sipush (v := 999) hx hb dX4_even_7 (by decide) ?_
  refine wt_callSi (As := [.int x1, .int (0 : Int32), .int (999 : Int32)]) (rest := []) hx hb hml hts hown hK hM cw_X4_231 hd_X4_wrongNumber rfl ⟨qz_b rfl, qz_b rfl⟩ ⟨rfl, rfl⟩ hl.1 rfl (qz_b rfl) dX4_even_10 hf (fun _ _ h9 => c_X4_wrongNumber h9) (fun r6 s7 H locs hf hM => ?_)
  refine wq_if_ge (tgt := 29) hx hb dX4_even_13 (by decide) hf (fun hf => ?_) (fun hf => ?_)
  · refine lv_aload_n hx hb dX4_even_29 rfl (lv_at hl 0 rfl) ?_
    refine wt_callVv (As := []) (rest := []) hx hb hml hts hown hK hM wt_rc_X4 cw_X4_134 hd_X4_layBrings rfl ⟨qz_b rfl, qz_b rfl⟩ ⟨rfl, rfl⟩ hl.1 rfl (qz_b rfl) dX4_even_30 hf (fun _ _ h9 => c_X4_layBrings h9) (fun r8 s9 H locs hf hM => ?_)
    refine lv_iconst (v := 0) hx hb dX4_even_33 (by decide) ?_
    refine lv_istore_n (lv' := [(2, .int (0 : Int32)), (0, .ref (B + 101)), (1, .int x1)]) hx hb dX4_even_34 rfl hl (by decide) rfl (fun ls hl => ?_)
    refine lv_iconst (v := 0) hx hb dX4_even_35 (by decide) ?_
    refine lv_istore_n (lv' := [(3, .int (0 : Int32)), (2, .int (0 : Int32)), (0, .ref (B + 101)), (1, .int x1)]) hx hb dX4_even_36 rfl hl (by decide) rfl (fun ls hl => ?_)
    exact w_X4_even_37 C _ _ _ _ _ _ _ hf hM (lv_sub hl [2, 3, 1, 0] rfl)
  refine lv_aload_n hx hb dX4_even_16 rfl (lv_at hl 0 rfl) ?_
  refine lv_iload_n hx hb dX4_even_17 rfl (lv_at hl 1 rfl) ?_
  refine lv_iconst (v := 0) hx hb dX4_even_18 (by decide) ?_
  refine lv_sipush (v := 999) hx hb dX4_even_19 (by decide) ?_
  refine wt_callSi (As := [.int x1, .int (0 : Int32), .int (999 : Int32)]) (rest := [.ref (B + 101)]) hx hb hml hts hown hK hM cw_X4_231 hd_X4_wrongNumber rfl ⟨qz_b rfl, qz_b rfl⟩ ⟨rfl, rfl⟩ hl.1 rfl (qz_b rfl) dX4_even_22 hf (fun _ _ h9 => c_X4_wrongNumber h9) (fun r10 s11 H locs hf hM => ?_)
  refine wt_callVi (As := [.int r10]) (rest := []) hx hb hml hts hown hK hM wt_rc_X4 cw_X4_143 hd_X4_refuse rfl ⟨qz_b rfl, qz_b rfl⟩ ⟨rfl, rfl⟩ hl.1 rfl (qz_b rfl) dX4_even_25 hf (fun _ _ h9 => c_X4_refuse h9) (fun r12 s13 H locs hf hM => ?_)
  exact wt_iret hx hb hr hlk hK hM hf dX4_even_28
end
set_option maxHeartbeats 4000000 in
set_option maxRecDepth 100000 in
theorem c_X4_even {l : Launch} {D : va_G} {tI tII : ClassId} {B F : Nat} {x1 : Int32} {σ σ' : Mem} {r : Int32} (hf : f_X4_even F x1 σ = some (r, σ')) : wt_Mi l yX4_even cX4_even 5 (some .int) rm_X4_even [.ref (B + 101), .int x1] D tI tII B σ r σ' := by
  refine Met.ofW (cc := cX4_even) (maxL := 5) (ret := (some .int)) (by decide) rfl ?_
  intro p e s m args below meth c s₁ B9 hml hv
  obtain ⟨rfl, hP, hK⟩ := hv
  have hl := lv_entry ([.ref (B + 101), .int x1]) (n := 5) (qz_b rfl)
  rw [lg_entry_eq]
  generalize (lg_sl ([.ref (B + 101), .int x1]) ++ List.replicate (5 - (lg_sl ([.ref (B + 101), .int x1])).length) Slot.unset).toArray = ls at hl ⊢
  exact w_X4_even_0 (wt_C_of B9 hml hK) hf ⟨hP, va_S.rf⟩ hl
