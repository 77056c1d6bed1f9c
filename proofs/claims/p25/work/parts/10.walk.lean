theorem dX3_together_0 : decode cX3_together 0 = .ok (.aload_n 0, 1) := qd_p qo_42 (by decide +kernel)
theorem dX3_together_1 : decode cX3_together 1 = .ok (.iload_n 1, 1) := qd_p qo_27 (by decide +kernel)
theorem dX3_together_2 : decode cX3_together 2 = .ok (.iload_n 2, 1) := qd_p qo_28 (by decide +kernel)
theorem dX3_together_3 : decode cX3_together 3 = .ok (.invokevirtual 89, 3) := qz_2 .invokevirtual 0 89 qo_182 (by decide +kernel) rfl
theorem dX3_together_6 : decode cX3_together 6 = .ok (.istore_n 3, 1) := qd_p qo_62 (by decide +kernel)
theorem dX3_together_7 : decode cX3_together 7 = .ok (.iload_n 3, 1) := qd_p qo_29 (by decide +kernel)
theorem dX3_together_8 : decode cX3_together 8 = .ok (.ifCond .eq 9, 3) := qz_s2 (.ifCond .eq) 0 9 qo_153 (by decide +kernel) rfl
theorem dX3_together_11 : decode cX3_together 11 = .ok (.aload_n 0, 1) := qd_p qo_42 (by decide +kernel)
theorem dX3_together_12 : decode cX3_together 12 = .ok (.iload_n 3, 1) := qd_p qo_29 (by decide +kernel)
theorem dX3_together_13 : decode cX3_together 13 = .ok (.invokevirtual 61, 3) := qz_2 .invokevirtual 0 61 qo_182 (by decide +kernel) rfl
theorem dX3_together_16 : decode cX3_together 16 = .ok (.ireturn, 1) := qd_p qo_172 (by decide +kernel)
theorem dX3_together_17 : decode cX3_together 17 = .ok (.iconst 0, 1) := qd_p qo_3 (by decide +kernel)
theorem dX3_together_18 : decode cX3_together 18 = .ok (.istore 4, 2) := qz_1 .istore 4 qo_54 (by decide +kernel)
theorem dX3_together_20 : decode cX3_together 20 = .ok (.iconst 0, 1) := qd_p qo_3 (by decide +kernel)
theorem dX3_together_21 : decode cX3_together 21 = .ok (.istore 5, 2) := qz_1 .istore 5 qo_54 (by decide +kernel)
theorem dX3_together_23 : decode cX3_together 23 = .ok (.iload 5, 2) := qz_1 .iload 5 qo_21 (by decide +kernel)
theorem dX3_together_25 : decode cX3_together 25 = .ok (.bipush 24, 2) := qz_s1 .bipush 24 qo_16 (by decide +kernel) rfl
theorem dX3_together_27 : decode cX3_together 27 = .ok (.if_icmp .ge 56, 3) := qz_s2 (.if_icmp .ge) 0 56 qo_162 (by decide +kernel) rfl
theorem dX3_together_30 : decode cX3_together 30 = .ok (.aload_n 0, 1) := qd_p qo_42 (by decide +kernel)
theorem dX3_together_31 : decode cX3_together 31 = .ok (.getfield 10, 3) := qz_2 .getfield 0 10 qo_180 (by decide +kernel) rfl
theorem dX3_together_34 : decode cX3_together 34 = .ok (.getfield 163, 3) := qz_2 .getfield 0 163 qo_180 (by decide +kernel) rfl
theorem dX3_together_37 : decode cX3_together 37 = .ok (.iload_n 1, 1) := qd_p qo_27 (by decide +kernel)
theorem dX3_together_38 : decode cX3_together 38 = .ok (.aaload, 1) := qd_p qo_50 (by decide +kernel)
theorem dX3_together_39 : decode cX3_together 39 = .ok (.iload 5, 2) := qz_1 .iload 5 qo_21 (by decide +kernel)
theorem dX3_together_41 : decode cX3_together 41 = .ok (.iaload, 1) := qd_p qo_46 (by decide +kernel)
theorem dX3_together_42 : decode cX3_together 42 = .ok (.istore 6, 2) := qz_1 .istore 6 qo_54 (by decide +kernel)
theorem dX3_together_44 : decode cX3_together 44 = .ok (.iload 6, 2) := qz_1 .iload 6 qo_21 (by decide +kernel)
theorem dX3_together_46 : decode cX3_together 46 = .ok (.bipush 9, 2) := qz_s1 .bipush 9 qo_16 (by decide +kernel) rfl
theorem dX3_together_48 : decode cX3_together 48 = .ok (.if_icmp .eq 29, 3) := qz_s2 (.if_icmp .eq) 0 29 qo_159 (by decide +kernel) rfl
theorem dX3_together_51 : decode cX3_together 51 = .ok (.aload_n 0, 1) := qd_p qo_42 (by decide +kernel)
theorem dX3_together_52 : decode cX3_together 52 = .ok (.getfield 10, 3) := qz_2 .getfield 0 10 qo_180 (by decide +kernel) rfl
theorem dX3_together_55 : decode cX3_together 55 = .ok (.getfield 163, 3) := qz_2 .getfield 0 163 qo_180 (by decide +kernel) rfl
theorem dX3_together_58 : decode cX3_together 58 = .ok (.iload_n 2, 1) := qd_p qo_28 (by decide +kernel)
theorem dX3_together_59 : decode cX3_together 59 = .ok (.aaload, 1) := qd_p qo_50 (by decide +kernel)
theorem dX3_together_60 : decode cX3_together 60 = .ok (.iload 5, 2) := qz_1 .iload 5 qo_21 (by decide +kernel)
theorem dX3_together_62 : decode cX3_together 62 = .ok (.iaload, 1) := qd_p qo_46 (by decide +kernel)
theorem dX3_together_63 : decode cX3_together 63 = .ok (.iload 6, 2) := qz_1 .iload 6 qo_21 (by decide +kernel)
theorem dX3_together_65 : decode cX3_together 65 = .ok (.if_icmp .ne 12, 3) := qz_s2 (.if_icmp .ne) 0 12 qo_160 (by decide +kernel) rfl
theorem dX3_together_68 : decode cX3_together 68 = .ok (.iload 4, 2) := qz_1 .iload 4 qo_21 (by decide +kernel)
theorem dX3_together_70 : decode cX3_together 70 = .ok (.iconst 1, 1) := qd_p qo_4 (by decide +kernel)
theorem dX3_together_71 : decode cX3_together 71 = .ok (.iload 5, 2) := qz_1 .iload 5 qo_21 (by decide +kernel)
theorem dX3_together_73 : decode cX3_together 73 = .ok (.ishl, 1) := qd_p qo_120 (by decide +kernel)
theorem dX3_together_74 : decode cX3_together 74 = .ok (.ior, 1) := qd_p qo_128 (by decide +kernel)
theorem dX3_together_75 : decode cX3_together 75 = .ok (.istore 4, 2) := qz_1 .istore 4 qo_54 (by decide +kernel)
theorem dX3_together_77 : decode cX3_together 77 = .ok (.iinc 5 1, 3) := qd_i (x := 5) (y := 1) qo_132 (by decide +kernel) rfl
theorem dX3_together_80 : decode cX3_together 80 = .ok (.goto (-57), 3) := qz_s2 .goto 255 199 qo_167 (by decide +kernel) rfl
theorem dX3_together_83 : decode cX3_together 83 = .ok (.iload 4, 2) := qz_1 .iload 4 qo_21 (by decide +kernel)
theorem dX3_together_85 : decode cX3_together 85 = .ok (.ireturn, 1) := qd_p qo_172 (by decide +kernel)
theorem dX3_wealthSwapped_0 : decode cX3_wealthSwapped 0 = .ok (.aload_n 0, 1) := qd_p qo_42 (by decide +kernel)
theorem dX3_wealthSwapped_1 : decode cX3_wealthSwapped 1 = .ok (.getfield 16, 3) := qz_2 .getfield 0 16 qo_180 (by decide +kernel) rfl
theorem dX3_wealthSwapped_4 : decode cX3_wealthSwapped 4 = .ok (.iload_n 1, 1) := qd_p qo_27 (by decide +kernel)
theorem dX3_wealthSwapped_5 : decode cX3_wealthSwapped 5 = .ok (.iload_n 2, 1) := qd_p qo_28 (by decide +kernel)
theorem dX3_wealthSwapped_6 : decode cX3_wealthSwapped 6 = .ok (.invokevirtual 299, 3) := qz_2 .invokevirtual 1 43 qo_182 (by decide +kernel) rfl
theorem dX3_wealthSwapped_9 : decode cX3_wealthSwapped 9 = .ok (.aload_n 0, 1) := qd_p qo_42 (by decide +kernel)
theorem dX3_wealthSwapped_10 : decode cX3_wealthSwapped 10 = .ok (.getfield 16, 3) := qz_2 .getfield 0 16 qo_180 (by decide +kernel) rfl
theorem dX3_wealthSwapped_13 : decode cX3_wealthSwapped 13 = .ok (.invokevirtual 141, 3) := qz_2 .invokevirtual 0 141 qo_182 (by decide +kernel) rfl
theorem dX3_wealthSwapped_16 : decode cX3_wealthSwapped 16 = .ok (.aload_n 0, 1) := qd_p qo_42 (by decide +kernel)
theorem dX3_wealthSwapped_17 : decode cX3_wealthSwapped 17 = .ok (.getfield 16, 3) := qz_2 .getfield 0 16 qo_180 (by decide +kernel) rfl
theorem dX3_wealthSwapped_20 : decode cX3_wealthSwapped 20 = .ok (.iload_n 1, 1) := qd_p qo_27 (by decide +kernel)
theorem dX3_wealthSwapped_21 : decode cX3_wealthSwapped 21 = .ok (.iload_n 3, 1) := qd_p qo_29 (by decide +kernel)
theorem dX3_wealthSwapped_22 : decode cX3_wealthSwapped 22 = .ok (.invokevirtual 229, 3) := qz_2 .invokevirtual 0 229 qo_182 (by decide +kernel) rfl
theorem dX3_wealthSwapped_25 : decode cX3_wealthSwapped 25 = .ok (.aload_n 0, 1) := qd_p qo_42 (by decide +kernel)
theorem dX3_wealthSwapped_26 : decode cX3_wealthSwapped 26 = .ok (.getfield 16, 3) := qz_2 .getfield 0 16 qo_180 (by decide +kernel) rfl
theorem dX3_wealthSwapped_29 : decode cX3_wealthSwapped 29 = .ok (.iload_n 2, 1) := qd_p qo_28 (by decide +kernel)
theorem dX3_wealthSwapped_30 : decode cX3_wealthSwapped 30 = .ok (.iload_n 3, 1) := qd_p qo_29 (by decide +kernel)
theorem dX3_wealthSwapped_31 : decode cX3_wealthSwapped 31 = .ok (.invokevirtual 229, 3) := qz_2 .invokevirtual 0 229 qo_182 (by decide +kernel) rfl
theorem dX3_wealthSwapped_34 : decode cX3_wealthSwapped 34 = .ok (.iadd, 1) := qd_p qo_96 (by decide +kernel)
theorem dX3_wealthSwapped_35 : decode cX3_wealthSwapped 35 = .ok (.istore 4, 2) := qz_1 .istore 4 qo_54 (by decide +kernel)
theorem dX3_wealthSwapped_37 : decode cX3_wealthSwapped 37 = .ok (.aload_n 0, 1) := qd_p qo_42 (by decide +kernel)
theorem dX3_wealthSwapped_38 : decode cX3_wealthSwapped 38 = .ok (.getfield 16, 3) := qz_2 .getfield 0 16 qo_180 (by decide +kernel) rfl
theorem dX3_wealthSwapped_41 : decode cX3_wealthSwapped 41 = .ok (.iload_n 1, 1) := qd_p qo_27 (by decide +kernel)
theorem dX3_wealthSwapped_42 : decode cX3_wealthSwapped 42 = .ok (.iload_n 2, 1) := qd_p qo_28 (by decide +kernel)
theorem dX3_wealthSwapped_43 : decode cX3_wealthSwapped 43 = .ok (.invokevirtual 299, 3) := qz_2 .invokevirtual 1 43 qo_182 (by decide +kernel) rfl
theorem dX3_wealthSwapped_46 : decode cX3_wealthSwapped 46 = .ok (.iload 4, 2) := qz_1 .iload 4 qo_21 (by decide +kernel)
theorem dX3_wealthSwapped_48 : decode cX3_wealthSwapped 48 = .ok (.ireturn, 1) := qd_p qo_172 (by decide +kernel)
theorem dX3_swap_0 : decode cX3_swap 0 = .ok (.iload_n 1, 1) := qd_p qo_27 (by decide +kernel)
theorem dX3_swap_1 : decode cX3_swap 1 = .ok (.iconst 0, 1) := qd_p qo_3 (by decide +kernel)
theorem dX3_swap_2 : decode cX3_swap 2 = .ok (.sipush 999, 3) := qz_s2 .sipush 3 231 qo_17 (by decide +kernel) rfl
theorem dX3_swap_5 : decode cX3_swap 5 = .ok (.invokestatic 81, 3) := qz_2 .invokestatic 0 81 qo_184 (by decide +kernel) rfl
theorem dX3_swap_8 : decode cX3_swap 8 = .ok (.istore_n 2, 1) := qd_p qo_61 (by decide +kernel)
theorem dX3_swap_9 : decode cX3_swap 9 = .ok (.iload_n 2, 1) := qd_p qo_28 (by decide +kernel)
theorem dX3_swap_10 : decode cX3_swap 10 = .ok (.ifCond .eq 9, 3) := qz_s2 (.ifCond .eq) 0 9 qo_153 (by decide +kernel) rfl
theorem dX3_swap_13 : decode cX3_swap 13 = .ok (.aload_n 0, 1) := qd_p qo_42 (by decide +kernel)
theorem dX3_swap_14 : decode cX3_swap 14 = .ok (.iload_n 2, 1) := qd_p qo_28 (by decide +kernel)
theorem dX3_swap_15 : decode cX3_swap 15 = .ok (.invokevirtual 61, 3) := qz_2 .invokevirtual 0 61 qo_182 (by decide +kernel) rfl
theorem dX3_swap_18 : decode cX3_swap 18 = .ok (.ireturn, 1) := qd_p qo_172 (by decide +kernel)
theorem dX3_swap_19 : decode cX3_swap 19 = .ok (.aload_n 0, 1) := qd_p qo_42 (by decide +kernel)
theorem dX3_swap_20 : decode cX3_swap 20 = .ok (.getfield 10, 3) := qz_2 .getfield 0 10 qo_180 (by decide +kernel) rfl
theorem dX3_swap_23 : decode cX3_swap 23 = .ok (.invokevirtual 141, 3) := qz_2 .invokevirtual 0 141 qo_182 (by decide +kernel) rfl
theorem dX3_swap_26 : decode cX3_swap 26 = .ok (.aload_n 0, 1) := qd_p qo_42 (by decide +kernel)
theorem dX3_swap_27 : decode cX3_swap 27 = .ok (.getfield 16, 3) := qz_2 .getfield 0 16 qo_180 (by decide +kernel) rfl
theorem dX3_swap_30 : decode cX3_swap 30 = .ok (.aload_n 0, 1) := qd_p qo_42 (by decide +kernel)
theorem dX3_swap_31 : decode cX3_swap 31 = .ok (.getfield 10, 3) := qz_2 .getfield 0 10 qo_180 (by decide +kernel) rfl
theorem dX3_swap_34 : decode cX3_swap 34 = .ok (.invokevirtual 106, 3) := qz_2 .invokevirtual 0 106 qo_182 (by decide +kernel) rfl
theorem dX3_swap_37 : decode cX3_swap 37 = .ok (.bipush (-9), 2) := qz_s1 .bipush 247 qo_16 (by decide +kernel) rfl
theorem dX3_swap_39 : decode cX3_swap 39 = .ok (.istore_n 3, 1) := qd_p qo_62 (by decide +kernel)
theorem dX3_swap_40 : decode cX3_swap 40 = .ok (.iconst (-1), 1) := qd_p qo_2 (by decide +kernel)
theorem dX3_swap_41 : decode cX3_swap 41 = .ok (.istore 4, 2) := qz_1 .istore 4 qo_54 (by decide +kernel)
theorem dX3_swap_43 : decode cX3_swap 43 = .ok (.iconst 0, 1) := qd_p qo_3 (by decide +kernel)
theorem dX3_swap_44 : decode cX3_swap 44 = .ok (.istore 5, 2) := qz_1 .istore 5 qo_54 (by decide +kernel)
theorem dX3_swap_46 : decode cX3_swap 46 = .ok (.iload 5, 2) := qz_1 .iload 5 qo_21 (by decide +kernel)
theorem dX3_swap_48 : decode cX3_swap 48 = .ok (.aload_n 0, 1) := qd_p qo_42 (by decide +kernel)
theorem dX3_swap_49 : decode cX3_swap 49 = .ok (.getfield 10, 3) := qz_2 .getfield 0 10 qo_180 (by decide +kernel) rfl
theorem dX3_swap_52 : decode cX3_swap 52 = .ok (.getfield 153, 3) := qz_2 .getfield 0 153 qo_180 (by decide +kernel) rfl
theorem dX3_swap_55 : decode cX3_swap 55 = .ok (.if_icmp .ge 94, 3) := qz_s2 (.if_icmp .ge) 0 94 qo_162 (by decide +kernel) rfl
theorem dX3_swap_58 : decode cX3_swap 58 = .ok (.iload 5, 2) := qz_1 .iload 5 qo_21 (by decide +kernel)
theorem dX3_swap_60 : decode cX3_swap 60 = .ok (.iconst 1, 1) := qd_p qo_4 (by decide +kernel)
theorem dX3_swap_61 : decode cX3_swap 61 = .ok (.iadd, 1) := qd_p qo_96 (by decide +kernel)
theorem dX3_swap_62 : decode cX3_swap 62 = .ok (.istore 6, 2) := qz_1 .istore 6 qo_54 (by decide +kernel)
theorem dX3_swap_64 : decode cX3_swap 64 = .ok (.iload 6, 2) := qz_1 .iload 6 qo_21 (by decide +kernel)
theorem dX3_swap_66 : decode cX3_swap 66 = .ok (.aload_n 0, 1) := qd_p qo_42 (by decide +kernel)
theorem dX3_swap_67 : decode cX3_swap 67 = .ok (.getfield 10, 3) := qz_2 .getfield 0 10 qo_180 (by decide +kernel) rfl
theorem dX3_swap_70 : decode cX3_swap 70 = .ok (.getfield 153, 3) := qz_2 .getfield 0 153 qo_180 (by decide +kernel) rfl
theorem dX3_swap_73 : decode cX3_swap 73 = .ok (.if_icmp .ge 70, 3) := qz_s2 (.if_icmp .ge) 0 70 qo_162 (by decide +kernel) rfl
theorem dX3_swap_76 : decode cX3_swap 76 = .ok (.aload_n 0, 1) := qd_p qo_42 (by decide +kernel)
theorem dX3_swap_77 : decode cX3_swap 77 = .ok (.iload 5, 2) := qz_1 .iload 5 qo_21 (by decide +kernel)
theorem dX3_swap_79 : decode cX3_swap 79 = .ok (.iload 6, 2) := qz_1 .iload 6 qo_21 (by decide +kernel)
theorem dX3_swap_81 : decode cX3_swap 81 = .ok (.iload_n 1, 1) := qd_p qo_27 (by decide +kernel)
theorem dX3_swap_82 : decode cX3_swap 82 = .ok (.invokevirtual 296, 3) := qz_2 .invokevirtual 1 40 qo_182 (by decide +kernel) rfl
theorem dX3_swap_85 : decode cX3_swap 85 = .ok (.istore 7, 2) := qz_1 .istore 7 qo_54 (by decide +kernel)
theorem dX3_swap_87 : decode cX3_swap 87 = .ok (.aload_n 0, 1) := qd_p qo_42 (by decide +kernel)
theorem dX3_swap_88 : decode cX3_swap 88 = .ok (.getfield 10, 3) := qz_2 .getfield 0 10 qo_180 (by decide +kernel) rfl
theorem dX3_swap_91 : decode cX3_swap 91 = .ok (.iload 5, 2) := qz_1 .iload 5 qo_21 (by decide +kernel)
theorem dX3_swap_93 : decode cX3_swap 93 = .ok (.iload_n 1, 1) := qd_p qo_27 (by decide +kernel)
theorem dX3_swap_94 : decode cX3_swap 94 = .ok (.invokevirtual 229, 3) := qz_2 .invokevirtual 0 229 qo_182 (by decide +kernel) rfl
theorem dX3_swap_97 : decode cX3_swap 97 = .ok (.aload_n 0, 1) := qd_p qo_42 (by decide +kernel)
theorem dX3_swap_98 : decode cX3_swap 98 = .ok (.getfield 10, 3) := qz_2 .getfield 0 10 qo_180 (by decide +kernel) rfl
theorem dX3_swap_101 : decode cX3_swap 101 = .ok (.iload 6, 2) := qz_1 .iload 6 qo_21 (by decide +kernel)
theorem dX3_swap_103 : decode cX3_swap 103 = .ok (.iload_n 1, 1) := qd_p qo_27 (by decide +kernel)
theorem dX3_swap_104 : decode cX3_swap 104 = .ok (.invokevirtual 229, 3) := qz_2 .invokevirtual 0 229 qo_182 (by decide +kernel) rfl
theorem dX3_swap_107 : decode cX3_swap 107 = .ok (.iadd, 1) := qd_p qo_96 (by decide +kernel)
theorem dX3_swap_108 : decode cX3_swap 108 = .ok (.istore 8, 2) := qz_1 .istore 8 qo_54 (by decide +kernel)
theorem dX3_swap_110 : decode cX3_swap 110 = .ok (.iload 7, 2) := qz_1 .iload 7 qo_21 (by decide +kernel)
theorem dX3_swap_112 : decode cX3_swap 112 = .ok (.iload 8, 2) := qz_1 .iload 8 qo_21 (by decide +kernel)
theorem dX3_swap_114 : decode cX3_swap 114 = .ok (.if_icmp .le 23, 3) := qz_s2 (.if_icmp .le) 0 23 qo_164 (by decide +kernel) rfl
theorem dX3_swap_117 : decode cX3_swap 117 = .ok (.iload 7, 2) := qz_1 .iload 7 qo_21 (by decide +kernel)
theorem dX3_swap_119 : decode cX3_swap 119 = .ok (.iload 4, 2) := qz_1 .iload 4 qo_21 (by decide +kernel)
theorem dX3_swap_121 : decode cX3_swap 121 = .ok (.if_icmp .le 16, 3) := qz_s2 (.if_icmp .le) 0 16 qo_164 (by decide +kernel) rfl
theorem dX3_swap_124 : decode cX3_swap 124 = .ok (.iload 7, 2) := qz_1 .iload 7 qo_21 (by decide +kernel)
theorem dX3_swap_126 : decode cX3_swap 126 = .ok (.istore 4, 2) := qz_1 .istore 4 qo_54 (by decide +kernel)
theorem dX3_swap_128 : decode cX3_swap 128 = .ok (.bipush 10, 2) := qz_s1 .bipush 10 qo_16 (by decide +kernel) rfl
theorem dX3_swap_130 : decode cX3_swap 130 = .ok (.iload 5, 2) := qz_1 .iload 5 qo_21 (by decide +kernel)
theorem dX3_swap_132 : decode cX3_swap 132 = .ok (.imul, 1) := qd_p qo_104 (by decide +kernel)
theorem dX3_swap_133 : decode cX3_swap 133 = .ok (.iload 6, 2) := qz_1 .iload 6 qo_21 (by decide +kernel)
theorem dX3_swap_135 : decode cX3_swap 135 = .ok (.iadd, 1) := qd_p qo_96 (by decide +kernel)
theorem dX3_swap_136 : decode cX3_swap 136 = .ok (.istore_n 3, 1) := qd_p qo_62 (by decide +kernel)
theorem dX3_swap_137 : decode cX3_swap 137 = .ok (.iinc 6 1, 3) := qd_i (x := 6) (y := 1) qo_132 (by decide +kernel) rfl
theorem dX3_swap_140 : decode cX3_swap 140 = .ok (.goto (-76), 3) := qz_s2 .goto 255 180 qo_167 (by decide +kernel) rfl
theorem dX3_swap_143 : decode cX3_swap 143 = .ok (.iinc 5 1, 3) := qd_i (x := 5) (y := 1) qo_132 (by decide +kernel) rfl
theorem dX3_swap_146 : decode cX3_swap 146 = .ok (.goto (-100), 3) := qz_s2 .goto 255 156 qo_167 (by decide +kernel) rfl
theorem dX3_swap_149 : decode cX3_swap 149 = .ok (.iload_n 3, 1) := qd_p qo_29 (by decide +kernel)
theorem dX3_swap_150 : decode cX3_swap 150 = .ok (.ireturn, 1) := qd_p qo_172 (by decide +kernel)
theorem dX3_heir_0 : decode cX3_heir 0 = .ok (.aload_n 0, 1) := qd_p qo_42 (by decide +kernel)
theorem dX3_heir_1 : decode cX3_heir 1 = .ok (.iload_n 1, 1) := qd_p qo_27 (by decide +kernel)
theorem dX3_heir_2 : decode cX3_heir 2 = .ok (.invokevirtual 78, 3) := qz_2 .invokevirtual 0 78 qo_182 (by decide +kernel) rfl
theorem dX3_heir_5 : decode cX3_heir 5 = .ok (.iload_n 2, 1) := qd_p qo_28 (by decide +kernel)
theorem dX3_heir_6 : decode cX3_heir 6 = .ok (.invokestatic 174, 3) := qz_2 .invokestatic 0 174 qo_184 (by decide +kernel) rfl
theorem dX3_heir_9 : decode cX3_heir 9 = .ok (.invokestatic 85, 3) := qz_2 .invokestatic 0 85 qo_184 (by decide +kernel) rfl
theorem dX3_heir_12 : decode cX3_heir 12 = .ok (.iload_n 3, 1) := qd_p qo_29 (by decide +kernel)
theorem dX3_heir_13 : decode cX3_heir 13 = .ok (.iconst 0, 1) := qd_p qo_3 (by decide +kernel)
theorem dX3_heir_14 : decode cX3_heir 14 = .ok (.sipush 999, 3) := qz_s2 .sipush 3 231 qo_17 (by decide +kernel) rfl
theorem dX3_heir_17 : decode cX3_heir 17 = .ok (.invokestatic 81, 3) := qz_2 .invokestatic 0 81 qo_184 (by decide +kernel) rfl
theorem dX3_heir_20 : decode cX3_heir 20 = .ok (.invokestatic 85, 3) := qz_2 .invokestatic 0 85 qo_184 (by decide +kernel) rfl
theorem dX3_heir_23 : decode cX3_heir 23 = .ok (.istore 4, 2) := qz_1 .istore 4 qo_54 (by decide +kernel)
theorem dX3_heir_25 : decode cX3_heir 25 = .ok (.iload 4, 2) := qz_1 .iload 4 qo_21 (by decide +kernel)
theorem dX3_heir_27 : decode cX3_heir 27 = .ok (.ifCond .eq 10, 3) := qz_s2 (.ifCond .eq) 0 10 qo_153 (by decide +kernel) rfl
theorem dX3_heir_30 : decode cX3_heir 30 = .ok (.aload_n 0, 1) := qd_p qo_42 (by decide +kernel)
theorem dX3_heir_31 : decode cX3_heir 31 = .ok (.iload 4, 2) := qz_1 .iload 4 qo_21 (by decide +kernel)
theorem dX3_heir_33 : decode cX3_heir 33 = .ok (.invokevirtual 61, 3) := qz_2 .invokevirtual 0 61 qo_182 (by decide +kernel) rfl
theorem dX3_heir_36 : decode cX3_heir 36 = .ok (.ireturn, 1) := qd_p qo_172 (by decide +kernel)
theorem dX3_heir_37 : decode cX3_heir 37 = .ok (.aload_n 0, 1) := qd_p qo_42 (by decide +kernel)
theorem dX3_heir_38 : decode cX3_heir 38 = .ok (.getfield 16, 3) := qz_2 .getfield 0 16 qo_180 (by decide +kernel) rfl
theorem dX3_heir_41 : decode cX3_heir 41 = .ok (.aload_n 0, 1) := qd_p qo_42 (by decide +kernel)
theorem dX3_heir_42 : decode cX3_heir 42 = .ok (.getfield 10, 3) := qz_2 .getfield 0 10 qo_180 (by decide +kernel) rfl
theorem dX3_heir_45 : decode cX3_heir 45 = .ok (.invokevirtual 106, 3) := qz_2 .invokevirtual 0 106 qo_182 (by decide +kernel) rfl
theorem dX3_heir_48 : decode cX3_heir 48 = .ok (.aload_n 0, 1) := qd_p qo_42 (by decide +kernel)
theorem dX3_heir_49 : decode cX3_heir 49 = .ok (.getfield 16, 3) := qz_2 .getfield 0 16 qo_180 (by decide +kernel) rfl
theorem dX3_heir_52 : decode cX3_heir 52 = .ok (.iload_n 1, 1) := qd_p qo_27 (by decide +kernel)
theorem dX3_heir_53 : decode cX3_heir 53 = .ok (.iconst 0, 1) := qd_p qo_3 (by decide +kernel)
theorem dX3_heir_54 : decode cX3_heir 54 = .ok (.bipush 23, 2) := qz_s1 .bipush 23 qo_16 (by decide +kernel) rfl
theorem dX3_heir_56 : decode cX3_heir 56 = .ok (.bipush 9, 2) := qz_s1 .bipush 9 qo_16 (by decide +kernel) rfl
theorem dX3_heir_58 : decode cX3_heir 58 = .ok (.invokevirtual 170, 3) := qz_2 .invokevirtual 0 170 qo_182 (by decide +kernel) rfl
theorem dX3_heir_61 : decode cX3_heir 61 = .ok (.pop, 1) := qd_p qo_87 (by decide +kernel)
theorem dX3_heir_62 : decode cX3_heir 62 = .ok (.iconst 0, 1) := qd_p qo_3 (by decide +kernel)
theorem dX3_heir_63 : decode cX3_heir 63 = .ok (.istore 5, 2) := qz_1 .istore 5 qo_54 (by decide +kernel)
theorem dX3_heir_65 : decode cX3_heir 65 = .ok (.iload 5, 2) := qz_1 .iload 5 qo_21 (by decide +kernel)
theorem dX3_heir_67 : decode cX3_heir 67 = .ok (.bipush 8, 2) := qz_s1 .bipush 8 qo_16 (by decide +kernel) rfl
theorem dX3_heir_69 : decode cX3_heir 69 = .ok (.if_icmp .ge 22, 3) := qz_s2 (.if_icmp .ge) 0 22 qo_162 (by decide +kernel) rfl
theorem dX3_heir_72 : decode cX3_heir 72 = .ok (.aload_n 0, 1) := qd_p qo_42 (by decide +kernel)
theorem dX3_heir_73 : decode cX3_heir 73 = .ok (.getfield 16, 3) := qz_2 .getfield 0 16 qo_180 (by decide +kernel) rfl
theorem dX3_heir_76 : decode cX3_heir 76 = .ok (.getfield 217, 3) := qz_2 .getfield 0 217 qo_180 (by decide +kernel) rfl
theorem dX3_heir_79 : decode cX3_heir 79 = .ok (.iload_n 1, 1) := qd_p qo_27 (by decide +kernel)
theorem dX3_heir_80 : decode cX3_heir 80 = .ok (.aaload, 1) := qd_p qo_50 (by decide +kernel)
theorem dX3_heir_81 : decode cX3_heir 81 = .ok (.iload 5, 2) := qz_1 .iload 5 qo_21 (by decide +kernel)
theorem dX3_heir_83 : decode cX3_heir 83 = .ok (.iconst 0, 1) := qd_p qo_3 (by decide +kernel)
theorem dX3_heir_84 : decode cX3_heir 84 = .ok (.iastore, 1) := qd_p qo_79 (by decide +kernel)
theorem dX3_heir_85 : decode cX3_heir 85 = .ok (.iinc 5 1, 3) := qd_i (x := 5) (y := 1) qo_132 (by decide +kernel) rfl
theorem dX3_heir_88 : decode cX3_heir 88 = .ok (.goto (-23), 3) := qz_s2 .goto 255 233 qo_167 (by decide +kernel) rfl
theorem dX3_heir_91 : decode cX3_heir 91 = .ok (.aload_n 0, 1) := qd_p qo_42 (by decide +kernel)
theorem dX3_heir_92 : decode cX3_heir 92 = .ok (.getfield 16, 3) := qz_2 .getfield 0 16 qo_180 (by decide +kernel) rfl
theorem dX3_heir_95 : decode cX3_heir 95 = .ok (.invokevirtual 141, 3) := qz_2 .invokevirtual 0 141 qo_182 (by decide +kernel) rfl
theorem dX3_heir_98 : decode cX3_heir 98 = .ok (.aload_n 0, 1) := qd_p qo_42 (by decide +kernel)
theorem dX3_heir_99 : decode cX3_heir 99 = .ok (.getfield 16, 3) := qz_2 .getfield 0 16 qo_180 (by decide +kernel) rfl
theorem dX3_heir_102 : decode cX3_heir 102 = .ok (.iload_n 2, 1) := qd_p qo_28 (by decide +kernel)
theorem dX3_heir_103 : decode cX3_heir 103 = .ok (.iload_n 3, 1) := qd_p qo_29 (by decide +kernel)
theorem dX3_heir_104 : decode cX3_heir 104 = .ok (.invokevirtual 223, 3) := qz_2 .invokevirtual 0 223 qo_182 (by decide +kernel) rfl
theorem dX3_heir_107 : decode cX3_heir 107 = .ok (.ireturn, 1) := qd_p qo_172 (by decide +kernel)
theorem dX3_even_0 : decode cX3_even 0 = .ok (.iload_n 1, 1) := qd_p qo_27 (by decide +kernel)
theorem dX3_even_1 : decode cX3_even 1 = .ok (.iconst 0, 1) := qd_p qo_3 (by decide +kernel)
theorem dX3_even_2 : decode cX3_even 2 = .ok (.sipush 999, 3) := qz_s2 .sipush 3 231 qo_17 (by decide +kernel) rfl
theorem dX3_even_5 : decode cX3_even 5 = .ok (.invokestatic 81, 3) := qz_2 .invokestatic 0 81 qo_184 (by decide +kernel) rfl
theorem dX3_even_8 : decode cX3_even 8 = .ok (.istore_n 2, 1) := qd_p qo_61 (by decide +kernel)
theorem dX3_even_9 : decode cX3_even 9 = .ok (.iload_n 2, 1) := qd_p qo_28 (by decide +kernel)
theorem dX3_even_10 : decode cX3_even 10 = .ok (.ifCond .eq 9, 3) := qz_s2 (.ifCond .eq) 0 9 qo_153 (by decide +kernel) rfl
theorem dX3_even_13 : decode cX3_even 13 = .ok (.aload_n 0, 1) := qd_p qo_42 (by decide +kernel)
theorem dX3_even_14 : decode cX3_even 14 = .ok (.iload_n 2, 1) := qd_p qo_28 (by decide +kernel)
theorem dX3_even_15 : decode cX3_even 15 = .ok (.invokevirtual 61, 3) := qz_2 .invokevirtual 0 61 qo_182 (by decide +kernel) rfl
theorem dX3_even_18 : decode cX3_even 18 = .ok (.ireturn, 1) := qd_p qo_172 (by decide +kernel)
theorem dX3_even_19 : decode cX3_even 19 = .ok (.aload_n 0, 1) := qd_p qo_42 (by decide +kernel)
theorem dX3_even_20 : decode cX3_even 20 = .ok (.getfield 10, 3) := qz_2 .getfield 0 10 qo_180 (by decide +kernel) rfl
theorem dX3_even_23 : decode cX3_even 23 = .ok (.invokevirtual 141, 3) := qz_2 .invokevirtual 0 141 qo_182 (by decide +kernel) rfl
theorem dX3_even_26 : decode cX3_even 26 = .ok (.iconst 0, 1) := qd_p qo_3 (by decide +kernel)
theorem dX3_even_27 : decode cX3_even 27 = .ok (.istore_n 3, 1) := qd_p qo_62 (by decide +kernel)
theorem dX3_even_28 : decode cX3_even 28 = .ok (.iconst 0, 1) := qd_p qo_3 (by decide +kernel)
theorem dX3_even_29 : decode cX3_even 29 = .ok (.istore 4, 2) := qz_1 .istore 4 qo_54 (by decide +kernel)
theorem dX3_even_31 : decode cX3_even 31 = .ok (.iload 4, 2) := qz_1 .iload 4 qo_21 (by decide +kernel)
theorem dX3_even_33 : decode cX3_even 33 = .ok (.aload_n 0, 1) := qd_p qo_42 (by decide +kernel)
theorem dX3_even_34 : decode cX3_even 34 = .ok (.getfield 10, 3) := qz_2 .getfield 0 10 qo_180 (by decide +kernel) rfl
theorem dX3_even_37 : decode cX3_even 37 = .ok (.getfield 153, 3) := qz_2 .getfield 0 153 qo_180 (by decide +kernel) rfl
theorem dX3_even_40 : decode cX3_even 40 = .ok (.if_icmp .ge 51, 3) := qz_s2 (.if_icmp .ge) 0 51 qo_162 (by decide +kernel) rfl
theorem dX3_even_43 : decode cX3_even 43 = .ok (.iload 4, 2) := qz_1 .iload 4 qo_21 (by decide +kernel)
theorem dX3_even_45 : decode cX3_even 45 = .ok (.iconst 1, 1) := qd_p qo_4 (by decide +kernel)
theorem dX3_even_46 : decode cX3_even 46 = .ok (.iadd, 1) := qd_p qo_96 (by decide +kernel)
theorem dX3_even_47 : decode cX3_even 47 = .ok (.istore 5, 2) := qz_1 .istore 5 qo_54 (by decide +kernel)
theorem dX3_even_49 : decode cX3_even 49 = .ok (.iload 5, 2) := qz_1 .iload 5 qo_21 (by decide +kernel)
theorem dX3_even_51 : decode cX3_even 51 = .ok (.aload_n 0, 1) := qd_p qo_42 (by decide +kernel)
theorem dX3_even_52 : decode cX3_even 52 = .ok (.getfield 10, 3) := qz_2 .getfield 0 10 qo_180 (by decide +kernel) rfl
theorem dX3_even_55 : decode cX3_even 55 = .ok (.getfield 153, 3) := qz_2 .getfield 0 153 qo_180 (by decide +kernel) rfl
theorem dX3_even_58 : decode cX3_even 58 = .ok (.if_icmp .ge 27, 3) := qz_s2 (.if_icmp .ge) 0 27 qo_162 (by decide +kernel) rfl
theorem dX3_even_61 : decode cX3_even 61 = .ok (.aload_n 0, 1) := qd_p qo_42 (by decide +kernel)
theorem dX3_even_62 : decode cX3_even 62 = .ok (.getfield 10, 3) := qz_2 .getfield 0 10 qo_180 (by decide +kernel) rfl
theorem dX3_even_65 : decode cX3_even 65 = .ok (.iload 4, 2) := qz_1 .iload 4 qo_21 (by decide +kernel)
theorem dX3_even_67 : decode cX3_even 67 = .ok (.iload 5, 2) := qz_1 .iload 5 qo_21 (by decide +kernel)
theorem dX3_even_69 : decode cX3_even 69 = .ok (.iload_n 1, 1) := qd_p qo_27 (by decide +kernel)
theorem dX3_even_70 : decode cX3_even 70 = .ok (.invokevirtual 303, 3) := qz_2 .invokevirtual 1 47 qo_182 (by decide +kernel) rfl
theorem dX3_even_73 : decode cX3_even 73 = .ok (.ifCond .ne 6, 3) := qz_s2 (.ifCond .ne) 0 6 qo_154 (by decide +kernel) rfl
theorem dX3_even_76 : decode cX3_even 76 = .ok (.iinc 3 1, 3) := qd_i (x := 3) (y := 1) qo_132 (by decide +kernel) rfl
theorem dX3_even_79 : decode cX3_even 79 = .ok (.iinc 5 1, 3) := qd_i (x := 5) (y := 1) qo_132 (by decide +kernel) rfl
theorem dX3_even_82 : decode cX3_even 82 = .ok (.goto (-33), 3) := qz_s2 .goto 255 223 qo_167 (by decide +kernel) rfl
theorem dX3_even_85 : decode cX3_even 85 = .ok (.iinc 4 1, 3) := qd_i (x := 4) (y := 1) qo_132 (by decide +kernel) rfl
theorem dX3_even_88 : decode cX3_even 88 = .ok (.goto (-57), 3) := qz_s2 .goto 255 199 qo_167 (by decide +kernel) rfl
theorem dX3_even_91 : decode cX3_even 91 = .ok (.iload_n 3, 1) := qd_p qo_29 (by decide +kernel)
theorem dX3_even_92 : decode cX3_even 92 = .ok (.ireturn, 1) := qd_p qo_172 (by decide +kernel)
theorem dX3_last_0 : decode cX3_last 0 = .ok (.aload_n 0, 1) := qd_p qo_42 (by decide +kernel)
theorem dX3_last_1 : decode cX3_last 1 = .ok (.getfield 10, 3) := qz_2 .getfield 0 10 qo_180 (by decide +kernel) rfl
theorem dX3_last_4 : decode cX3_last 4 = .ok (.invokevirtual 141, 3) := qz_2 .invokevirtual 0 141 qo_182 (by decide +kernel) rfl
theorem dX3_last_7 : decode cX3_last 7 = .ok (.iconst 0, 1) := qd_p qo_3 (by decide +kernel)
theorem dX3_last_8 : decode cX3_last 8 = .ok (.istore_n 1, 1) := qd_p qo_60 (by decide +kernel)
theorem dX3_last_9 : decode cX3_last 9 = .ok (.iconst 0, 1) := qd_p qo_3 (by decide +kernel)
theorem dX3_last_10 : decode cX3_last 10 = .ok (.istore_n 2, 1) := qd_p qo_61 (by decide +kernel)
theorem dX3_last_11 : decode cX3_last 11 = .ok (.iload_n 2, 1) := qd_p qo_28 (by decide +kernel)
theorem dX3_last_12 : decode cX3_last 12 = .ok (.bipush 8, 2) := qz_s1 .bipush 8 qo_16 (by decide +kernel) rfl
theorem dX3_last_14 : decode cX3_last 14 = .ok (.if_icmp .ge 57, 3) := qz_s2 (.if_icmp .ge) 0 57 qo_162 (by decide +kernel) rfl
theorem dX3_last_17 : decode cX3_last 17 = .ok (.aload_n 0, 1) := qd_p qo_42 (by decide +kernel)
theorem dX3_last_18 : decode cX3_last 18 = .ok (.getfield 10, 3) := qz_2 .getfield 0 10 qo_180 (by decide +kernel) rfl
theorem dX3_last_21 : decode cX3_last 21 = .ok (.iload_n 2, 1) := qd_p qo_28 (by decide +kernel)
theorem dX3_last_22 : decode cX3_last 22 = .ok (.sipush 999, 3) := qz_s2 .sipush 3 231 qo_17 (by decide +kernel) rfl
theorem dX3_last_25 : decode cX3_last 25 = .ok (.invokevirtual 223, 3) := qz_2 .invokevirtual 0 223 qo_182 (by decide +kernel) rfl
theorem dX3_last_28 : decode cX3_last 28 = .ok (.istore_n 3, 1) := qd_p qo_62 (by decide +kernel)
theorem dX3_last_29 : decode cX3_last 29 = .ok (.sipush 999, 3) := qz_s2 .sipush 3 231 qo_17 (by decide +kernel) rfl
theorem dX3_last_32 : decode cX3_last 32 = .ok (.istore 4, 2) := qz_1 .istore 4 qo_54 (by decide +kernel)
theorem dX3_last_34 : decode cX3_last 34 = .ok (.iload 4, 2) := qz_1 .iload 4 qo_21 (by decide +kernel)
theorem dX3_last_36 : decode cX3_last 36 = .ok (.iload_n 1, 1) := qd_p qo_27 (by decide +kernel)
theorem dX3_last_37 : decode cX3_last 37 = .ok (.if_icmp .le 25, 3) := qz_s2 (.if_icmp .le) 0 25 qo_164 (by decide +kernel) rfl
theorem dX3_last_40 : decode cX3_last 40 = .ok (.aload_n 0, 1) := qd_p qo_42 (by decide +kernel)
theorem dX3_last_41 : decode cX3_last 41 = .ok (.getfield 10, 3) := qz_2 .getfield 0 10 qo_180 (by decide +kernel) rfl
theorem dX3_last_44 : decode cX3_last 44 = .ok (.iload_n 2, 1) := qd_p qo_28 (by decide +kernel)
theorem dX3_last_45 : decode cX3_last 45 = .ok (.iload 4, 2) := qz_1 .iload 4 qo_21 (by decide +kernel)
theorem dX3_last_47 : decode cX3_last 47 = .ok (.iconst 1, 1) := qd_p qo_4 (by decide +kernel)
theorem dX3_last_48 : decode cX3_last 48 = .ok (.isub, 1) := qd_p qo_100 (by decide +kernel)
theorem dX3_last_49 : decode cX3_last 49 = .ok (.invokevirtual 223, 3) := qz_2 .invokevirtual 0 223 qo_182 (by decide +kernel) rfl
theorem dX3_last_52 : decode cX3_last 52 = .ok (.iload_n 3, 1) := qd_p qo_29 (by decide +kernel)
theorem dX3_last_53 : decode cX3_last 53 = .ok (.if_icmp .ne 9, 3) := qz_s2 (.if_icmp .ne) 0 9 qo_160 (by decide +kernel) rfl
theorem dX3_last_56 : decode cX3_last 56 = .ok (.iinc 4 (-1), 3) := qd_i (x := 4) (y := 255) qo_132 (by decide +kernel) rfl
theorem dX3_last_59 : decode cX3_last 59 = .ok (.goto (-25), 3) := qz_s2 .goto 255 231 qo_167 (by decide +kernel) rfl
theorem dX3_last_62 : decode cX3_last 62 = .ok (.iload 4, 2) := qz_1 .iload 4 qo_21 (by decide +kernel)
theorem dX3_last_64 : decode cX3_last 64 = .ok (.istore_n 1, 1) := qd_p qo_60 (by decide +kernel)
theorem dX3_last_65 : decode cX3_last 65 = .ok (.iinc 2 1, 3) := qd_i (x := 2) (y := 1) qo_132 (by decide +kernel) rfl
theorem dX3_last_68 : decode cX3_last 68 = .ok (.goto (-57), 3) := qz_s2 .goto 255 199 qo_167 (by decide +kernel) rfl
theorem dX3_last_71 : decode cX3_last 71 = .ok (.iload_n 1, 1) := qd_p qo_27 (by decide +kernel)
theorem dX3_last_72 : decode cX3_last 72 = .ok (.ireturn, 1) := qd_p qo_172 (by decide +kernel)
theorem dX3_joint_0 : decode cX3_joint 0 = .ok (.aload_n 0, 1) := qd_p qo_42 (by decide +kernel)
theorem dX3_joint_1 : decode cX3_joint 1 = .ok (.iload_n 1, 1) := qd_p qo_27 (by decide +kernel)
theorem dX3_joint_2 : decode cX3_joint 2 = .ok (.iload_n 2, 1) := qd_p qo_28 (by decide +kernel)
theorem dX3_joint_3 : decode cX3_joint 3 = .ok (.iload_n 3, 1) := qd_p qo_29 (by decide +kernel)
theorem dX3_joint_4 : decode cX3_joint 4 = .ok (.invokevirtual 235, 3) := qz_2 .invokevirtual 0 235 qo_182 (by decide +kernel) rfl
theorem dX3_joint_7 : decode cX3_joint 7 = .ok (.istore 4, 2) := qz_1 .istore 4 qo_54 (by decide +kernel)
theorem dX3_joint_9 : decode cX3_joint 9 = .ok (.iload 4, 2) := qz_1 .iload 4 qo_21 (by decide +kernel)
theorem dX3_joint_11 : decode cX3_joint 11 = .ok (.ifCond .eq 10, 3) := qz_s2 (.ifCond .eq) 0 10 qo_153 (by decide +kernel) rfl
theorem dX3_joint_14 : decode cX3_joint 14 = .ok (.aload_n 0, 1) := qd_p qo_42 (by decide +kernel)
theorem dX3_joint_15 : decode cX3_joint 15 = .ok (.iload 4, 2) := qz_1 .iload 4 qo_21 (by decide +kernel)
theorem dX3_joint_17 : decode cX3_joint 17 = .ok (.invokevirtual 61, 3) := qz_2 .invokevirtual 0 61 qo_182 (by decide +kernel) rfl
theorem dX3_joint_20 : decode cX3_joint 20 = .ok (.ireturn, 1) := qd_p qo_172 (by decide +kernel)
theorem dX3_joint_21 : decode cX3_joint 21 = .ok (.aload_n 0, 1) := qd_p qo_42 (by decide +kernel)
theorem dX3_joint_22 : decode cX3_joint 22 = .ok (.getfield 10, 3) := qz_2 .getfield 0 10 qo_180 (by decide +kernel) rfl
theorem dX3_joint_25 : decode cX3_joint 25 = .ok (.invokevirtual 141, 3) := qz_2 .invokevirtual 0 141 qo_182 (by decide +kernel) rfl
theorem dX3_joint_28 : decode cX3_joint 28 = .ok (.iconst 0, 1) := qd_p qo_3 (by decide +kernel)
theorem dX3_joint_29 : decode cX3_joint 29 = .ok (.istore 5, 2) := qz_1 .istore 5 qo_54 (by decide +kernel)
theorem dX3_joint_31 : decode cX3_joint 31 = .ok (.iconst 0, 1) := qd_p qo_3 (by decide +kernel)
theorem dX3_joint_32 : decode cX3_joint 32 = .ok (.istore 6, 2) := qz_1 .istore 6 qo_54 (by decide +kernel)
theorem dX3_joint_34 : decode cX3_joint 34 = .ok (.iload 6, 2) := qz_1 .iload 6 qo_21 (by decide +kernel)
theorem dX3_joint_36 : decode cX3_joint 36 = .ok (.bipush 8, 2) := qz_s1 .bipush 8 qo_16 (by decide +kernel) rfl
theorem dX3_joint_38 : decode cX3_joint 38 = .ok (.if_icmp .ge 33, 3) := qz_s2 (.if_icmp .ge) 0 33 qo_162 (by decide +kernel) rfl
theorem dX3_joint_41 : decode cX3_joint 41 = .ok (.aload_n 0, 1) := qd_p qo_42 (by decide +kernel)
theorem dX3_joint_42 : decode cX3_joint 42 = .ok (.getfield 10, 3) := qz_2 .getfield 0 10 qo_180 (by decide +kernel) rfl
theorem dX3_joint_45 : decode cX3_joint 45 = .ok (.iload_n 1, 1) := qd_p qo_27 (by decide +kernel)
theorem dX3_joint_46 : decode cX3_joint 46 = .ok (.iload_n 2, 1) := qd_p qo_28 (by decide +kernel)
theorem dX3_joint_47 : decode cX3_joint 47 = .ok (.iload 6, 2) := qz_1 .iload 6 qo_21 (by decide +kernel)
theorem dX3_joint_49 : decode cX3_joint 49 = .ok (.iload_n 3, 1) := qd_p qo_29 (by decide +kernel)
theorem dX3_joint_50 : decode cX3_joint 50 = .ok (.invokevirtual 306, 3) := qz_2 .invokevirtual 1 50 qo_182 (by decide +kernel) rfl
theorem dX3_joint_53 : decode cX3_joint 53 = .ok (.ifCond .eq 12, 3) := qz_s2 (.ifCond .eq) 0 12 qo_153 (by decide +kernel) rfl
theorem dX3_joint_56 : decode cX3_joint 56 = .ok (.iload 5, 2) := qz_1 .iload 5 qo_21 (by decide +kernel)
theorem dX3_joint_58 : decode cX3_joint 58 = .ok (.iconst 1, 1) := qd_p qo_4 (by decide +kernel)
theorem dX3_joint_59 : decode cX3_joint 59 = .ok (.iload 6, 2) := qz_1 .iload 6 qo_21 (by decide +kernel)
theorem dX3_joint_61 : decode cX3_joint 61 = .ok (.ishl, 1) := qd_p qo_120 (by decide +kernel)
theorem dX3_joint_62 : decode cX3_joint 62 = .ok (.ior, 1) := qd_p qo_128 (by decide +kernel)
theorem dX3_joint_63 : decode cX3_joint 63 = .ok (.istore 5, 2) := qz_1 .istore 5 qo_54 (by decide +kernel)
theorem dX3_joint_65 : decode cX3_joint 65 = .ok (.iinc 6 1, 3) := qd_i (x := 6) (y := 1) qo_132 (by decide +kernel) rfl
theorem dX3_joint_68 : decode cX3_joint 68 = .ok (.goto (-34), 3) := qz_s2 .goto 255 222 qo_167 (by decide +kernel) rfl
theorem dX3_joint_71 : decode cX3_joint 71 = .ok (.iload 5, 2) := qz_1 .iload 5 qo_21 (by decide +kernel)
theorem dX3_joint_73 : decode cX3_joint 73 = .ok (.ireturn, 1) := qd_p qo_172 (by decide +kernel)
theorem dX3_rank_0 : decode cX3_rank 0 = .ok (.iload_n 1, 1) := qd_p qo_27 (by decide +kernel)
theorem dX3_rank_1 : decode cX3_rank 1 = .ok (.invokestatic 174, 3) := qz_2 .invokestatic 0 174 qo_184 (by decide +kernel) rfl
theorem dX3_rank_4 : decode cX3_rank 4 = .ok (.istore_n 3, 1) := qd_p qo_62 (by decide +kernel)
theorem dX3_rank_5 : decode cX3_rank 5 = .ok (.iload_n 3, 1) := qd_p qo_29 (by decide +kernel)
theorem dX3_rank_6 : decode cX3_rank 6 = .ok (.ifCond .ne 10, 3) := qz_s2 (.ifCond .ne) 0 10 qo_154 (by decide +kernel) rfl
theorem dX3_rank_9 : decode cX3_rank 9 = .ok (.iload_n 2, 1) := qd_p qo_28 (by decide +kernel)
theorem dX3_rank_10 : decode cX3_rank 10 = .ok (.ifCond .ge 6, 3) := qz_s2 (.ifCond .ge) 0 6 qo_156 (by decide +kernel) rfl
theorem dX3_rank_13 : decode cX3_rank 13 = .ok (.bipush (-4), 2) := qz_s1 .bipush 252 qo_16 (by decide +kernel) rfl
theorem dX3_rank_15 : decode cX3_rank 15 = .ok (.istore_n 3, 1) := qd_p qo_62 (by decide +kernel)
theorem dX3_rank_16 : decode cX3_rank 16 = .ok (.iload_n 3, 1) := qd_p qo_29 (by decide +kernel)
theorem dX3_rank_17 : decode cX3_rank 17 = .ok (.ifCond .eq 9, 3) := qz_s2 (.ifCond .eq) 0 9 qo_153 (by decide +kernel) rfl
theorem dX3_rank_20 : decode cX3_rank 20 = .ok (.aload_n 0, 1) := qd_p qo_42 (by decide +kernel)
theorem dX3_rank_21 : decode cX3_rank 21 = .ok (.iload_n 3, 1) := qd_p qo_29 (by decide +kernel)
theorem dX3_rank_22 : decode cX3_rank 22 = .ok (.invokevirtual 61, 3) := qz_2 .invokevirtual 0 61 qo_182 (by decide +kernel) rfl
theorem dX3_rank_25 : decode cX3_rank 25 = .ok (.ireturn, 1) := qd_p qo_172 (by decide +kernel)
theorem dX3_rank_26 : decode cX3_rank 26 = .ok (.iconst 0, 1) := qd_p qo_3 (by decide +kernel)
theorem dX3_rank_27 : decode cX3_rank 27 = .ok (.istore 4, 2) := qz_1 .istore 4 qo_54 (by decide +kernel)
theorem dX3_rank_29 : decode cX3_rank 29 = .ok (.iload 4, 2) := qz_1 .iload 4 qo_21 (by decide +kernel)
theorem dX3_rank_31 : decode cX3_rank 31 = .ok (.aload_n 0, 1) := qd_p qo_42 (by decide +kernel)
theorem dX3_rank_32 : decode cX3_rank 32 = .ok (.getfield 10, 3) := qz_2 .getfield 0 10 qo_180 (by decide +kernel) rfl
theorem dX3_rank_35 : decode cX3_rank 35 = .ok (.getfield 153, 3) := qz_2 .getfield 0 153 qo_180 (by decide +kernel) rfl
theorem dX3_rank_38 : decode cX3_rank 38 = .ok (.if_icmp .ge 26, 3) := qz_s2 (.if_icmp .ge) 0 26 qo_162 (by decide +kernel) rfl
theorem dX3_rank_41 : decode cX3_rank 41 = .ok (.aload_n 0, 1) := qd_p qo_42 (by decide +kernel)
theorem dX3_rank_42 : decode cX3_rank 42 = .ok (.getfield 10, 3) := qz_2 .getfield 0 10 qo_180 (by decide +kernel) rfl
theorem dX3_rank_45 : decode cX3_rank 45 = .ok (.iload 4, 2) := qz_1 .iload 4 qo_21 (by decide +kernel)
theorem dX3_rank_47 : decode cX3_rank 47 = .ok (.iload_n 1, 1) := qd_p qo_27 (by decide +kernel)
theorem dX3_rank_48 : decode cX3_rank 48 = .ok (.invokevirtual 309, 3) := qz_2 .invokevirtual 1 53 qo_182 (by decide +kernel) rfl
theorem dX3_rank_51 : decode cX3_rank 51 = .ok (.iload_n 2, 1) := qd_p qo_28 (by decide +kernel)
theorem dX3_rank_52 : decode cX3_rank 52 = .ok (.if_icmp .ne 6, 3) := qz_s2 (.if_icmp .ne) 0 6 qo_160 (by decide +kernel) rfl
theorem dX3_rank_55 : decode cX3_rank 55 = .ok (.iload 4, 2) := qz_1 .iload 4 qo_21 (by decide +kernel)
theorem dX3_rank_57 : decode cX3_rank 57 = .ok (.ireturn, 1) := qd_p qo_172 (by decide +kernel)
theorem dX3_rank_58 : decode cX3_rank 58 = .ok (.iinc 4 1, 3) := qd_i (x := 4) (y := 1) qo_132 (by decide +kernel) rfl
theorem dX3_rank_61 : decode cX3_rank 61 = .ok (.goto (-32), 3) := qz_s2 .goto 255 224 qo_167 (by decide +kernel) rfl
theorem dX3_rank_64 : decode cX3_rank 64 = .ok (.bipush (-9), 2) := qz_s1 .bipush 247 qo_16 (by decide +kernel) rfl
theorem dX3_rank_66 : decode cX3_rank 66 = .ok (.ireturn, 1) := qd_p qo_172 (by decide +kernel)
theorem dX3_gap_0 : decode cX3_gap 0 = .ok (.iload_n 1, 1) := qd_p qo_27 (by decide +kernel)
theorem dX3_gap_1 : decode cX3_gap 1 = .ok (.invokestatic 174, 3) := qz_2 .invokestatic 0 174 qo_184 (by decide +kernel) rfl
theorem dX3_gap_4 : decode cX3_gap 4 = .ok (.iload_n 2, 1) := qd_p qo_28 (by decide +kernel)
theorem dX3_gap_5 : decode cX3_gap 5 = .ok (.iconst 0, 1) := qd_p qo_3 (by decide +kernel)
theorem dX3_gap_6 : decode cX3_gap 6 = .ok (.sipush 999, 3) := qz_s2 .sipush 3 231 qo_17 (by decide +kernel) rfl
theorem dX3_gap_9 : decode cX3_gap 9 = .ok (.invokestatic 81, 3) := qz_2 .invokestatic 0 81 qo_184 (by decide +kernel) rfl
theorem dX3_gap_12 : decode cX3_gap 12 = .ok (.invokestatic 85, 3) := qz_2 .invokestatic 0 85 qo_184 (by decide +kernel) rfl
theorem dX3_gap_15 : decode cX3_gap 15 = .ok (.istore_n 3, 1) := qd_p qo_62 (by decide +kernel)
theorem dX3_gap_16 : decode cX3_gap 16 = .ok (.iload_n 3, 1) := qd_p qo_29 (by decide +kernel)
theorem dX3_gap_17 : decode cX3_gap 17 = .ok (.ifCond .eq 9, 3) := qz_s2 (.ifCond .eq) 0 9 qo_153 (by decide +kernel) rfl
theorem dX3_gap_20 : decode cX3_gap 20 = .ok (.aload_n 0, 1) := qd_p qo_42 (by decide +kernel)
theorem dX3_gap_21 : decode cX3_gap 21 = .ok (.iload_n 3, 1) := qd_p qo_29 (by decide +kernel)
theorem dX3_gap_22 : decode cX3_gap 22 = .ok (.invokevirtual 61, 3) := qz_2 .invokevirtual 0 61 qo_182 (by decide +kernel) rfl
theorem dX3_gap_25 : decode cX3_gap 25 = .ok (.ireturn, 1) := qd_p qo_172 (by decide +kernel)
theorem dX3_gap_26 : decode cX3_gap 26 = .ok (.aload_n 0, 1) := qd_p qo_42 (by decide +kernel)
theorem dX3_gap_27 : decode cX3_gap 27 = .ok (.getfield 10, 3) := qz_2 .getfield 0 10 qo_180 (by decide +kernel) rfl
theorem dX3_gap_30 : decode cX3_gap 30 = .ok (.invokevirtual 141, 3) := qz_2 .invokevirtual 0 141 qo_182 (by decide +kernel) rfl
theorem dX3_gap_33 : decode cX3_gap 33 = .ok (.iconst 0, 1) := qd_p qo_3 (by decide +kernel)
theorem dX3_gap_34 : decode cX3_gap 34 = .ok (.istore 4, 2) := qz_1 .istore 4 qo_54 (by decide +kernel)
theorem dX3_gap_36 : decode cX3_gap 36 = .ok (.iconst 0, 1) := qd_p qo_3 (by decide +kernel)
theorem dX3_gap_37 : decode cX3_gap 37 = .ok (.istore 5, 2) := qz_1 .istore 5 qo_54 (by decide +kernel)
theorem dX3_gap_39 : decode cX3_gap 39 = .ok (.iconst 0, 1) := qd_p qo_3 (by decide +kernel)
theorem dX3_gap_40 : decode cX3_gap 40 = .ok (.istore 6, 2) := qz_1 .istore 6 qo_54 (by decide +kernel)
theorem dX3_gap_42 : decode cX3_gap 42 = .ok (.iload 6, 2) := qz_1 .iload 6 qo_21 (by decide +kernel)
theorem dX3_gap_44 : decode cX3_gap 44 = .ok (.aload_n 0, 1) := qd_p qo_42 (by decide +kernel)
theorem dX3_gap_45 : decode cX3_gap 45 = .ok (.getfield 10, 3) := qz_2 .getfield 0 10 qo_180 (by decide +kernel) rfl
theorem dX3_gap_48 : decode cX3_gap 48 = .ok (.getfield 153, 3) := qz_2 .getfield 0 153 qo_180 (by decide +kernel) rfl
theorem dX3_gap_51 : decode cX3_gap 51 = .ok (.if_icmp .ge 51, 3) := qz_s2 (.if_icmp .ge) 0 51 qo_162 (by decide +kernel) rfl
theorem dX3_gap_54 : decode cX3_gap 54 = .ok (.aload_n 0, 1) := qd_p qo_42 (by decide +kernel)
theorem dX3_gap_55 : decode cX3_gap 55 = .ok (.getfield 10, 3) := qz_2 .getfield 0 10 qo_180 (by decide +kernel) rfl
theorem dX3_gap_58 : decode cX3_gap 58 = .ok (.iload 6, 2) := qz_1 .iload 6 qo_21 (by decide +kernel)
theorem dX3_gap_60 : decode cX3_gap 60 = .ok (.iload_n 1, 1) := qd_p qo_27 (by decide +kernel)
theorem dX3_gap_61 : decode cX3_gap 61 = .ok (.iload_n 2, 1) := qd_p qo_28 (by decide +kernel)
theorem dX3_gap_62 : decode cX3_gap 62 = .ok (.invokevirtual 287, 3) := qz_2 .invokevirtual 1 31 qo_182 (by decide +kernel) rfl
theorem dX3_gap_65 : decode cX3_gap 65 = .ok (.istore 7, 2) := qz_1 .istore 7 qo_54 (by decide +kernel)
theorem dX3_gap_67 : decode cX3_gap 67 = .ok (.iload 7, 2) := qz_1 .iload 7 qo_21 (by decide +kernel)
theorem dX3_gap_69 : decode cX3_gap 69 = .ok (.iload 4, 2) := qz_1 .iload 4 qo_21 (by decide +kernel)
theorem dX3_gap_71 : decode cX3_gap 71 = .ok (.if_icmp .le 14, 3) := qz_s2 (.if_icmp .le) 0 14 qo_164 (by decide +kernel) rfl
theorem dX3_gap_74 : decode cX3_gap 74 = .ok (.iload 4, 2) := qz_1 .iload 4 qo_21 (by decide +kernel)
theorem dX3_gap_76 : decode cX3_gap 76 = .ok (.istore 5, 2) := qz_1 .istore 5 qo_54 (by decide +kernel)
theorem dX3_gap_78 : decode cX3_gap 78 = .ok (.iload 7, 2) := qz_1 .iload 7 qo_21 (by decide +kernel)
theorem dX3_gap_80 : decode cX3_gap 80 = .ok (.istore 4, 2) := qz_1 .istore 4 qo_54 (by decide +kernel)
theorem dX3_gap_82 : decode cX3_gap 82 = .ok (.goto 14, 3) := qz_s2 .goto 0 14 qo_167 (by decide +kernel) rfl
theorem dX3_gap_85 : decode cX3_gap 85 = .ok (.iload 7, 2) := qz_1 .iload 7 qo_21 (by decide +kernel)
theorem dX3_gap_87 : decode cX3_gap 87 = .ok (.iload 5, 2) := qz_1 .iload 5 qo_21 (by decide +kernel)
theorem dX3_gap_89 : decode cX3_gap 89 = .ok (.if_icmp .le 7, 3) := qz_s2 (.if_icmp .le) 0 7 qo_164 (by decide +kernel) rfl
theorem dX3_gap_92 : decode cX3_gap 92 = .ok (.iload 7, 2) := qz_1 .iload 7 qo_21 (by decide +kernel)
theorem dX3_gap_94 : decode cX3_gap 94 = .ok (.istore 5, 2) := qz_1 .istore 5 qo_54 (by decide +kernel)
theorem dX3_gap_96 : decode cX3_gap 96 = .ok (.iinc 6 1, 3) := qd_i (x := 6) (y := 1) qo_132 (by decide +kernel) rfl
theorem dX3_gap_99 : decode cX3_gap 99 = .ok (.goto (-57), 3) := qz_s2 .goto 255 199 qo_167 (by decide +kernel) rfl
theorem dX3_gap_102 : decode cX3_gap 102 = .ok (.iload 4, 2) := qz_1 .iload 4 qo_21 (by decide +kernel)
theorem dX3_gap_104 : decode cX3_gap 104 = .ok (.iload 5, 2) := qz_1 .iload 5 qo_21 (by decide +kernel)
theorem dX3_gap_106 : decode cX3_gap 106 = .ok (.isub, 1) := qd_p qo_100 (by decide +kernel)
theorem dX3_gap_107 : decode cX3_gap 107 = .ok (.ireturn, 1) := qd_p qo_172 (by decide +kernel)
theorem dX3_wasted_0 : decode cX3_wasted 0 = .ok (.aload_n 0, 1) := qd_p qo_42 (by decide +kernel)
theorem dX3_wasted_1 : decode cX3_wasted 1 = .ok (.iload_n 1, 1) := qd_p qo_27 (by decide +kernel)
theorem dX3_wasted_2 : decode cX3_wasted 2 = .ok (.invokevirtual 78, 3) := qz_2 .invokevirtual 0 78 qo_182 (by decide +kernel) rfl
theorem dX3_wasted_5 : decode cX3_wasted 5 = .ok (.iload_n 2, 1) := qd_p qo_28 (by decide +kernel)
theorem dX3_wasted_6 : decode cX3_wasted 6 = .ok (.iconst 2, 1) := qd_p qo_5 (by decide +kernel)
theorem dX3_wasted_7 : decode cX3_wasted 7 = .ok (.invokestatic 123, 3) := qz_2 .invokestatic 0 123 qo_184 (by decide +kernel) rfl
theorem dX3_wasted_10 : decode cX3_wasted 10 = .ok (.invokestatic 85, 3) := qz_2 .invokestatic 0 85 qo_184 (by decide +kernel) rfl
theorem dX3_wasted_13 : decode cX3_wasted 13 = .ok (.istore_n 3, 1) := qd_p qo_62 (by decide +kernel)
theorem dX3_wasted_14 : decode cX3_wasted 14 = .ok (.iload_n 3, 1) := qd_p qo_29 (by decide +kernel)
theorem dX3_wasted_15 : decode cX3_wasted 15 = .ok (.ifCond .eq 9, 3) := qz_s2 (.ifCond .eq) 0 9 qo_153 (by decide +kernel) rfl
theorem dX3_wasted_18 : decode cX3_wasted 18 = .ok (.aload_n 0, 1) := qd_p qo_42 (by decide +kernel)
theorem dX3_wasted_19 : decode cX3_wasted 19 = .ok (.iload_n 3, 1) := qd_p qo_29 (by decide +kernel)
theorem dX3_wasted_20 : decode cX3_wasted 20 = .ok (.invokevirtual 61, 3) := qz_2 .invokevirtual 0 61 qo_182 (by decide +kernel) rfl
theorem dX3_wasted_23 : decode cX3_wasted 23 = .ok (.ireturn, 1) := qd_p qo_172 (by decide +kernel)
theorem dX3_wasted_24 : decode cX3_wasted 24 = .ok (.iconst 0, 1) := qd_p qo_3 (by decide +kernel)
theorem dX3_wasted_25 : decode cX3_wasted 25 = .ok (.istore 4, 2) := qz_1 .istore 4 qo_54 (by decide +kernel)
theorem dX3_wasted_27 : decode cX3_wasted 27 = .ok (.iconst 0, 1) := qd_p qo_3 (by decide +kernel)
theorem dX3_wasted_28 : decode cX3_wasted 28 = .ok (.istore 5, 2) := qz_1 .istore 5 qo_54 (by decide +kernel)
theorem dX3_wasted_30 : decode cX3_wasted 30 = .ok (.iload 5, 2) := qz_1 .iload 5 qo_21 (by decide +kernel)
theorem dX3_wasted_32 : decode cX3_wasted 32 = .ok (.bipush 24, 2) := qz_s1 .bipush 24 qo_16 (by decide +kernel) rfl
theorem dX3_wasted_34 : decode cX3_wasted 34 = .ok (.if_icmp .ge 89, 3) := qz_s2 (.if_icmp .ge) 0 89 qo_162 (by decide +kernel) rfl
theorem dX3_wasted_37 : decode cX3_wasted 37 = .ok (.aload_n 0, 1) := qd_p qo_42 (by decide +kernel)
theorem dX3_wasted_38 : decode cX3_wasted 38 = .ok (.getfield 10, 3) := qz_2 .getfield 0 10 qo_180 (by decide +kernel) rfl
theorem dX3_wasted_41 : decode cX3_wasted 41 = .ok (.getfield 163, 3) := qz_2 .getfield 0 163 qo_180 (by decide +kernel) rfl
theorem dX3_wasted_44 : decode cX3_wasted 44 = .ok (.iload_n 1, 1) := qd_p qo_27 (by decide +kernel)
theorem dX3_wasted_45 : decode cX3_wasted 45 = .ok (.aaload, 1) := qd_p qo_50 (by decide +kernel)
theorem dX3_wasted_46 : decode cX3_wasted 46 = .ok (.iload 5, 2) := qz_1 .iload 5 qo_21 (by decide +kernel)
theorem dX3_wasted_48 : decode cX3_wasted 48 = .ok (.iaload, 1) := qd_p qo_46 (by decide +kernel)
theorem dX3_wasted_49 : decode cX3_wasted 49 = .ok (.bipush 9, 2) := qz_s1 .bipush 9 qo_16 (by decide +kernel) rfl
theorem dX3_wasted_51 : decode cX3_wasted 51 = .ok (.if_icmp .eq 7, 3) := qz_s2 (.if_icmp .eq) 0 7 qo_159 (by decide +kernel) rfl
theorem dX3_wasted_54 : decode cX3_wasted 54 = .ok (.iconst 1, 1) := qd_p qo_4 (by decide +kernel)
theorem dX3_wasted_55 : decode cX3_wasted 55 = .ok (.goto 4, 3) := qz_s2 .goto 0 4 qo_167 (by decide +kernel) rfl
theorem dX3_wasted_58 : decode cX3_wasted 58 = .ok (.iconst 0, 1) := qd_p qo_3 (by decide +kernel)
theorem dX3_wasted_59 : decode cX3_wasted 59 = .ok (.istore 6, 2) := qz_1 .istore 6 qo_54 (by decide +kernel)
theorem dX3_wasted_61 : decode cX3_wasted 61 = .ok (.aload_n 0, 1) := qd_p qo_42 (by decide +kernel)
theorem dX3_wasted_62 : decode cX3_wasted 62 = .ok (.getfield 10, 3) := qz_2 .getfield 0 10 qo_180 (by decide +kernel) rfl
theorem dX3_wasted_65 : decode cX3_wasted 65 = .ok (.iload_n 1, 1) := qd_p qo_27 (by decide +kernel)
theorem dX3_wasted_66 : decode cX3_wasted 66 = .ok (.iload 5, 2) := qz_1 .iload 5 qo_21 (by decide +kernel)
theorem dX3_wasted_68 : decode cX3_wasted 68 = .ok (.invokevirtual 244, 3) := qz_2 .invokevirtual 0 244 qo_182 (by decide +kernel) rfl
theorem dX3_wasted_71 : decode cX3_wasted 71 = .ok (.ifCond .le 7, 3) := qz_s2 (.ifCond .le) 0 7 qo_158 (by decide +kernel) rfl
theorem dX3_wasted_74 : decode cX3_wasted 74 = .ok (.iconst 1, 1) := qd_p qo_4 (by decide +kernel)
theorem dX3_wasted_75 : decode cX3_wasted 75 = .ok (.goto 4, 3) := qz_s2 .goto 0 4 qo_167 (by decide +kernel) rfl
theorem dX3_wasted_78 : decode cX3_wasted 78 = .ok (.iconst 0, 1) := qd_p qo_3 (by decide +kernel)
theorem dX3_wasted_79 : decode cX3_wasted 79 = .ok (.istore 7, 2) := qz_1 .istore 7 qo_54 (by decide +kernel)
theorem dX3_wasted_81 : decode cX3_wasted 81 = .ok (.iload_n 2, 1) := qd_p qo_28 (by decide +kernel)
theorem dX3_wasted_82 : decode cX3_wasted 82 = .ok (.ifCond .ne 16, 3) := qz_s2 (.ifCond .ne) 0 16 qo_154 (by decide +kernel) rfl
theorem dX3_wasted_85 : decode cX3_wasted 85 = .ok (.iload 6, 2) := qz_1 .iload 6 qo_21 (by decide +kernel)
theorem dX3_wasted_87 : decode cX3_wasted 87 = .ok (.ifCond .eq 30, 3) := qz_s2 (.ifCond .eq) 0 30 qo_153 (by decide +kernel) rfl
theorem dX3_wasted_90 : decode cX3_wasted 90 = .ok (.iload 7, 2) := qz_1 .iload 7 qo_21 (by decide +kernel)
theorem dX3_wasted_92 : decode cX3_wasted 92 = .ok (.ifCond .ne 25, 3) := qz_s2 (.ifCond .ne) 0 25 qo_154 (by decide +kernel) rfl
theorem dX3_wasted_95 : decode cX3_wasted 95 = .ok (.goto 13, 3) := qz_s2 .goto 0 13 qo_167 (by decide +kernel) rfl
theorem dX3_wasted_98 : decode cX3_wasted 98 = .ok (.iload 6, 2) := qz_1 .iload 6 qo_21 (by decide +kernel)
theorem dX3_wasted_100 : decode cX3_wasted 100 = .ok (.ifCond .ne 17, 3) := qz_s2 (.ifCond .ne) 0 17 qo_154 (by decide +kernel) rfl
theorem dX3_wasted_103 : decode cX3_wasted 103 = .ok (.iload 7, 2) := qz_1 .iload 7 qo_21 (by decide +kernel)
theorem dX3_wasted_105 : decode cX3_wasted 105 = .ok (.ifCond .eq 12, 3) := qz_s2 (.ifCond .eq) 0 12 qo_153 (by decide +kernel) rfl
theorem dX3_wasted_108 : decode cX3_wasted 108 = .ok (.iload 4, 2) := qz_1 .iload 4 qo_21 (by decide +kernel)
theorem dX3_wasted_110 : decode cX3_wasted 110 = .ok (.iconst 1, 1) := qd_p qo_4 (by decide +kernel)
theorem dX3_wasted_111 : decode cX3_wasted 111 = .ok (.iload 5, 2) := qz_1 .iload 5 qo_21 (by decide +kernel)
theorem dX3_wasted_113 : decode cX3_wasted 113 = .ok (.ishl, 1) := qd_p qo_120 (by decide +kernel)
theorem dX3_wasted_114 : decode cX3_wasted 114 = .ok (.ior, 1) := qd_p qo_128 (by decide +kernel)
theorem dX3_wasted_115 : decode cX3_wasted 115 = .ok (.istore 4, 2) := qz_1 .istore 4 qo_54 (by decide +kernel)
theorem dX3_wasted_117 : decode cX3_wasted 117 = .ok (.iinc 5 1, 3) := qd_i (x := 5) (y := 1) qo_132 (by decide +kernel) rfl
theorem dX3_wasted_120 : decode cX3_wasted 120 = .ok (.goto (-90), 3) := qz_s2 .goto 255 166 qo_167 (by decide +kernel) rfl
theorem dX3_wasted_123 : decode cX3_wasted 123 = .ok (.iload 4, 2) := qz_1 .iload 4 qo_21 (by decide +kernel)
theorem dX3_wasted_125 : decode cX3_wasted 125 = .ok (.ireturn, 1) := qd_p qo_172 (by decide +kernel)
theorem dX3_ahead_0 : decode cX3_ahead 0 = .ok (.aload_n 0, 1) := qd_p qo_42 (by decide +kernel)
theorem dX3_ahead_1 : decode cX3_ahead 1 = .ok (.iload_n 1, 1) := qd_p qo_27 (by decide +kernel)
theorem dX3_ahead_2 : decode cX3_ahead 2 = .ok (.iload_n 2, 1) := qd_p qo_28 (by decide +kernel)
theorem dX3_ahead_3 : decode cX3_ahead 3 = .ok (.invokevirtual 89, 3) := qz_2 .invokevirtual 0 89 qo_182 (by decide +kernel) rfl
theorem dX3_ahead_6 : decode cX3_ahead 6 = .ok (.istore_n 3, 1) := qd_p qo_62 (by decide +kernel)
theorem dX3_ahead_7 : decode cX3_ahead 7 = .ok (.iload_n 3, 1) := qd_p qo_29 (by decide +kernel)
theorem dX3_ahead_8 : decode cX3_ahead 8 = .ok (.ifCond .eq 9, 3) := qz_s2 (.ifCond .eq) 0 9 qo_153 (by decide +kernel) rfl
theorem dX3_ahead_11 : decode cX3_ahead 11 = .ok (.aload_n 0, 1) := qd_p qo_42 (by decide +kernel)
theorem dX3_ahead_12 : decode cX3_ahead 12 = .ok (.iload_n 3, 1) := qd_p qo_29 (by decide +kernel)
theorem dX3_ahead_13 : decode cX3_ahead 13 = .ok (.invokevirtual 61, 3) := qz_2 .invokevirtual 0 61 qo_182 (by decide +kernel) rfl
theorem dX3_ahead_16 : decode cX3_ahead 16 = .ok (.ireturn, 1) := qd_p qo_172 (by decide +kernel)
theorem dX3_ahead_17 : decode cX3_ahead 17 = .ok (.aload_n 0, 1) := qd_p qo_42 (by decide +kernel)
theorem dX3_ahead_18 : decode cX3_ahead 18 = .ok (.getfield 10, 3) := qz_2 .getfield 0 10 qo_180 (by decide +kernel) rfl
theorem dX3_ahead_21 : decode cX3_ahead 21 = .ok (.invokevirtual 141, 3) := qz_2 .invokevirtual 0 141 qo_182 (by decide +kernel) rfl
theorem dX3_ahead_24 : decode cX3_ahead 24 = .ok (.iconst 0, 1) := qd_p qo_3 (by decide +kernel)
theorem dX3_ahead_25 : decode cX3_ahead 25 = .ok (.istore 4, 2) := qz_1 .istore 4 qo_54 (by decide +kernel)
theorem dX3_ahead_27 : decode cX3_ahead 27 = .ok (.iload 4, 2) := qz_1 .iload 4 qo_21 (by decide +kernel)
theorem dX3_ahead_29 : decode cX3_ahead 29 = .ok (.sipush 999, 3) := qz_s2 .sipush 3 231 qo_17 (by decide +kernel) rfl
theorem dX3_ahead_32 : decode cX3_ahead 32 = .ok (.if_icmp .gt 26, 3) := qz_s2 (.if_icmp .gt) 0 26 qo_163 (by decide +kernel) rfl
theorem dX3_ahead_35 : decode cX3_ahead 35 = .ok (.aload_n 0, 1) := qd_p qo_42 (by decide +kernel)
theorem dX3_ahead_36 : decode cX3_ahead 36 = .ok (.getfield 10, 3) := qz_2 .getfield 0 10 qo_180 (by decide +kernel) rfl
theorem dX3_ahead_39 : decode cX3_ahead 39 = .ok (.iload_n 1, 1) := qd_p qo_27 (by decide +kernel)
theorem dX3_ahead_40 : decode cX3_ahead 40 = .ok (.iload_n 2, 1) := qd_p qo_28 (by decide +kernel)
theorem dX3_ahead_41 : decode cX3_ahead 41 = .ok (.iload 4, 2) := qz_1 .iload 4 qo_21 (by decide +kernel)
theorem dX3_ahead_43 : decode cX3_ahead 43 = .ok (.invokevirtual 303, 3) := qz_2 .invokevirtual 1 47 qo_182 (by decide +kernel) rfl
theorem dX3_ahead_46 : decode cX3_ahead 46 = .ok (.ifCond .le 6, 3) := qz_s2 (.ifCond .le) 0 6 qo_158 (by decide +kernel) rfl
theorem dX3_ahead_49 : decode cX3_ahead 49 = .ok (.iload 4, 2) := qz_1 .iload 4 qo_21 (by decide +kernel)
theorem dX3_ahead_51 : decode cX3_ahead 51 = .ok (.ireturn, 1) := qd_p qo_172 (by decide +kernel)
theorem dX3_ahead_52 : decode cX3_ahead 52 = .ok (.iinc 4 1, 3) := qd_i (x := 4) (y := 1) qo_132 (by decide +kernel) rfl
theorem dX3_ahead_55 : decode cX3_ahead 55 = .ok (.goto (-28), 3) := qz_s2 .goto 255 228 qo_167 (by decide +kernel) rfl
theorem dX3_ahead_58 : decode cX3_ahead 58 = .ok (.bipush (-9), 2) := qz_s1 .bipush 247 qo_16 (by decide +kernel) rfl
theorem dX3_ahead_60 : decode cX3_ahead 60 = .ok (.ireturn, 1) := qd_p qo_172 (by decide +kernel)
theorem dX3_bestLaw_0 : decode cX3_bestLaw 0 = .ok (.aload_n 0, 1) := qd_p qo_42 (by decide +kernel)
theorem dX3_bestLaw_1 : decode cX3_bestLaw 1 = .ok (.iload_n 1, 1) := qd_p qo_27 (by decide +kernel)
theorem dX3_bestLaw_2 : decode cX3_bestLaw 2 = .ok (.iload_n 2, 1) := qd_p qo_28 (by decide +kernel)
theorem dX3_bestLaw_3 : decode cX3_bestLaw 3 = .ok (.invokevirtual 226, 3) := qz_2 .invokevirtual 0 226 qo_182 (by decide +kernel) rfl
theorem dX3_bestLaw_6 : decode cX3_bestLaw 6 = .ok (.istore_n 3, 1) := qd_p qo_62 (by decide +kernel)
theorem dX3_bestLaw_7 : decode cX3_bestLaw 7 = .ok (.iload_n 3, 1) := qd_p qo_29 (by decide +kernel)
theorem dX3_bestLaw_8 : decode cX3_bestLaw 8 = .ok (.ifCond .eq 9, 3) := qz_s2 (.ifCond .eq) 0 9 qo_153 (by decide +kernel) rfl
theorem dX3_bestLaw_11 : decode cX3_bestLaw 11 = .ok (.aload_n 0, 1) := qd_p qo_42 (by decide +kernel)
theorem dX3_bestLaw_12 : decode cX3_bestLaw 12 = .ok (.iload_n 3, 1) := qd_p qo_29 (by decide +kernel)
theorem dX3_bestLaw_13 : decode cX3_bestLaw 13 = .ok (.invokevirtual 61, 3) := qz_2 .invokevirtual 0 61 qo_182 (by decide +kernel) rfl
theorem dX3_bestLaw_16 : decode cX3_bestLaw 16 = .ok (.ireturn, 1) := qd_p qo_172 (by decide +kernel)
theorem dX3_bestLaw_17 : decode cX3_bestLaw 17 = .ok (.aload_n 0, 1) := qd_p qo_42 (by decide +kernel)
theorem dX3_bestLaw_18 : decode cX3_bestLaw 18 = .ok (.getfield 16, 3) := qz_2 .getfield 0 16 qo_180 (by decide +kernel) rfl
theorem dX3_bestLaw_21 : decode cX3_bestLaw 21 = .ok (.aload_n 0, 1) := qd_p qo_42 (by decide +kernel)
theorem dX3_bestLaw_22 : decode cX3_bestLaw 22 = .ok (.getfield 10, 3) := qz_2 .getfield 0 10 qo_180 (by decide +kernel) rfl
theorem dX3_bestLaw_25 : decode cX3_bestLaw 25 = .ok (.invokevirtual 106, 3) := qz_2 .invokevirtual 0 106 qo_182 (by decide +kernel) rfl
theorem dX3_bestLaw_28 : decode cX3_bestLaw 28 = .ok (.aload_n 0, 1) := qd_p qo_42 (by decide +kernel)
theorem dX3_bestLaw_29 : decode cX3_bestLaw 29 = .ok (.getfield 16, 3) := qz_2 .getfield 0 16 qo_180 (by decide +kernel) rfl
theorem dX3_bestLaw_32 : decode cX3_bestLaw 32 = .ok (.invokevirtual 141, 3) := qz_2 .invokevirtual 0 141 qo_182 (by decide +kernel) rfl
theorem dX3_bestLaw_35 : decode cX3_bestLaw 35 = .ok (.iconst 0, 1) := qd_p qo_3 (by decide +kernel)
theorem dX3_bestLaw_36 : decode cX3_bestLaw 36 = .ok (.istore 4, 2) := qz_1 .istore 4 qo_54 (by decide +kernel)
theorem dX3_bestLaw_38 : decode cX3_bestLaw 38 = .ok (.iconst (-1), 1) := qd_p qo_2 (by decide +kernel)
theorem dX3_bestLaw_39 : decode cX3_bestLaw 39 = .ok (.istore 5, 2) := qz_1 .istore 5 qo_54 (by decide +kernel)
theorem dX3_bestLaw_41 : decode cX3_bestLaw 41 = .ok (.iconst 0, 1) := qd_p qo_3 (by decide +kernel)
theorem dX3_bestLaw_42 : decode cX3_bestLaw 42 = .ok (.istore 6, 2) := qz_1 .istore 6 qo_54 (by decide +kernel)
theorem dX3_bestLaw_44 : decode cX3_bestLaw 44 = .ok (.iload 6, 2) := qz_1 .iload 6 qo_21 (by decide +kernel)
theorem dX3_bestLaw_46 : decode cX3_bestLaw 46 = .ok (.iconst 3, 1) := qd_p qo_6 (by decide +kernel)
theorem dX3_bestLaw_47 : decode cX3_bestLaw 47 = .ok (.if_icmp .ge 45, 3) := qz_s2 (.if_icmp .ge) 0 45 qo_162 (by decide +kernel) rfl
theorem dX3_bestLaw_50 : decode cX3_bestLaw 50 = .ok (.aload_n 0, 1) := qd_p qo_42 (by decide +kernel)
theorem dX3_bestLaw_51 : decode cX3_bestLaw 51 = .ok (.getfield 16, 3) := qz_2 .getfield 0 16 qo_180 (by decide +kernel) rfl
theorem dX3_bestLaw_54 : decode cX3_bestLaw 54 = .ok (.iload 6, 2) := qz_1 .iload 6 qo_21 (by decide +kernel)
theorem dX3_bestLaw_56 : decode cX3_bestLaw 56 = .ok (.invokevirtual 196, 3) := qz_2 .invokevirtual 0 196 qo_182 (by decide +kernel) rfl
theorem dX3_bestLaw_59 : decode cX3_bestLaw 59 = .ok (.pop, 1) := qd_p qo_87 (by decide +kernel)
theorem dX3_bestLaw_60 : decode cX3_bestLaw 60 = .ok (.aload_n 0, 1) := qd_p qo_42 (by decide +kernel)
theorem dX3_bestLaw_61 : decode cX3_bestLaw 61 = .ok (.getfield 16, 3) := qz_2 .getfield 0 16 qo_180 (by decide +kernel) rfl
theorem dX3_bestLaw_64 : decode cX3_bestLaw 64 = .ok (.iload_n 1, 1) := qd_p qo_27 (by decide +kernel)
theorem dX3_bestLaw_65 : decode cX3_bestLaw 65 = .ok (.iload_n 2, 1) := qd_p qo_28 (by decide +kernel)
theorem dX3_bestLaw_66 : decode cX3_bestLaw 66 = .ok (.invokevirtual 229, 3) := qz_2 .invokevirtual 0 229 qo_182 (by decide +kernel) rfl
theorem dX3_bestLaw_69 : decode cX3_bestLaw 69 = .ok (.istore 7, 2) := qz_1 .istore 7 qo_54 (by decide +kernel)
theorem dX3_bestLaw_71 : decode cX3_bestLaw 71 = .ok (.iload 7, 2) := qz_1 .iload 7 qo_21 (by decide +kernel)
theorem dX3_bestLaw_73 : decode cX3_bestLaw 73 = .ok (.iload 5, 2) := qz_1 .iload 5 qo_21 (by decide +kernel)
theorem dX3_bestLaw_75 : decode cX3_bestLaw 75 = .ok (.if_icmp .le 11, 3) := qz_s2 (.if_icmp .le) 0 11 qo_164 (by decide +kernel) rfl
theorem dX3_bestLaw_78 : decode cX3_bestLaw 78 = .ok (.iload 7, 2) := qz_1 .iload 7 qo_21 (by decide +kernel)
theorem dX3_bestLaw_80 : decode cX3_bestLaw 80 = .ok (.istore 5, 2) := qz_1 .istore 5 qo_54 (by decide +kernel)
theorem dX3_bestLaw_82 : decode cX3_bestLaw 82 = .ok (.iload 6, 2) := qz_1 .iload 6 qo_21 (by decide +kernel)
theorem dX3_bestLaw_84 : decode cX3_bestLaw 84 = .ok (.istore 4, 2) := qz_1 .istore 4 qo_54 (by decide +kernel)
theorem dX3_bestLaw_86 : decode cX3_bestLaw 86 = .ok (.iinc 6 1, 3) := qd_i (x := 6) (y := 1) qo_132 (by decide +kernel) rfl
theorem dX3_bestLaw_89 : decode cX3_bestLaw 89 = .ok (.goto (-45), 3) := qz_s2 .goto 255 211 qo_167 (by decide +kernel) rfl
theorem dX3_bestLaw_92 : decode cX3_bestLaw 92 = .ok (.iload 4, 2) := qz_1 .iload 4 qo_21 (by decide +kernel)
theorem dX3_bestLaw_94 : decode cX3_bestLaw 94 = .ok (.ireturn, 1) := qd_p qo_172 (by decide +kernel)
theorem dX3_newcomer_0 : decode cX3_newcomer 0 = .ok (.aload_n 0, 1) := qd_p qo_42 (by decide +kernel)
theorem dX3_newcomer_1 : decode cX3_newcomer 1 = .ok (.iload_n 2, 1) := qd_p qo_28 (by decide +kernel)
theorem dX3_newcomer_2 : decode cX3_newcomer 2 = .ok (.invokevirtual 120, 3) := qz_2 .invokevirtual 0 120 qo_182 (by decide +kernel) rfl
theorem dX3_newcomer_5 : decode cX3_newcomer 5 = .ok (.iload_n 1, 1) := qd_p qo_27 (by decide +kernel)
theorem dX3_newcomer_6 : decode cX3_newcomer 6 = .ok (.bipush 6, 2) := qz_s1 .bipush 6 qo_16 (by decide +kernel) rfl
theorem dX3_newcomer_8 : decode cX3_newcomer 8 = .ok (.invokestatic 123, 3) := qz_2 .invokestatic 0 123 qo_184 (by decide +kernel) rfl
theorem dX3_newcomer_11 : decode cX3_newcomer 11 = .ok (.iload_n 3, 1) := qd_p qo_29 (by decide +kernel)
theorem dX3_newcomer_12 : decode cX3_newcomer 12 = .ok (.iconst 2, 1) := qd_p qo_5 (by decide +kernel)
theorem dX3_newcomer_13 : decode cX3_newcomer 13 = .ok (.invokestatic 123, 3) := qz_2 .invokestatic 0 123 qo_184 (by decide +kernel) rfl
theorem dX3_newcomer_16 : decode cX3_newcomer 16 = .ok (.invokestatic 85, 3) := qz_2 .invokestatic 0 85 qo_184 (by decide +kernel) rfl
theorem dX3_newcomer_19 : decode cX3_newcomer 19 = .ok (.invokestatic 85, 3) := qz_2 .invokestatic 0 85 qo_184 (by decide +kernel) rfl
theorem dX3_newcomer_22 : decode cX3_newcomer 22 = .ok (.istore 4, 2) := qz_1 .istore 4 qo_54 (by decide +kernel)
theorem dX3_newcomer_24 : decode cX3_newcomer 24 = .ok (.iload 4, 2) := qz_1 .iload 4 qo_21 (by decide +kernel)
theorem dX3_newcomer_26 : decode cX3_newcomer 26 = .ok (.ifCond .ne 18, 3) := qz_s2 (.ifCond .ne) 0 18 qo_154 (by decide +kernel) rfl
theorem dX3_newcomer_29 : decode cX3_newcomer 29 = .ok (.aload_n 0, 1) := qd_p qo_42 (by decide +kernel)
theorem dX3_newcomer_30 : decode cX3_newcomer 30 = .ok (.getfield 10, 3) := qz_2 .getfield 0 10 qo_180 (by decide +kernel) rfl
theorem dX3_newcomer_33 : decode cX3_newcomer 33 = .ok (.getfield 153, 3) := qz_2 .getfield 0 153 qo_180 (by decide +kernel) rfl
theorem dX3_newcomer_36 : decode cX3_newcomer 36 = .ok (.iconst 5, 1) := qd_p qo_8 (by decide +kernel)
theorem dX3_newcomer_37 : decode cX3_newcomer 37 = .ok (.if_icmp .lt 7, 3) := qz_s2 (.if_icmp .lt) 0 7 qo_161 (by decide +kernel) rfl
theorem dX3_newcomer_40 : decode cX3_newcomer 40 = .ok (.bipush (-3), 2) := qz_s1 .bipush 253 qo_16 (by decide +kernel) rfl
theorem dX3_newcomer_42 : decode cX3_newcomer 42 = .ok (.istore 4, 2) := qz_1 .istore 4 qo_54 (by decide +kernel)
theorem dX3_newcomer_44 : decode cX3_newcomer 44 = .ok (.iload 4, 2) := qz_1 .iload 4 qo_21 (by decide +kernel)
theorem dX3_newcomer_46 : decode cX3_newcomer 46 = .ok (.ifCond .eq 10, 3) := qz_s2 (.ifCond .eq) 0 10 qo_153 (by decide +kernel) rfl
theorem dX3_newcomer_49 : decode cX3_newcomer 49 = .ok (.aload_n 0, 1) := qd_p qo_42 (by decide +kernel)
theorem dX3_newcomer_50 : decode cX3_newcomer 50 = .ok (.iload 4, 2) := qz_1 .iload 4 qo_21 (by decide +kernel)
theorem dX3_newcomer_52 : decode cX3_newcomer 52 = .ok (.invokevirtual 61, 3) := qz_2 .invokevirtual 0 61 qo_182 (by decide +kernel) rfl
theorem dX3_newcomer_55 : decode cX3_newcomer 55 = .ok (.ireturn, 1) := qd_p qo_172 (by decide +kernel)
theorem dX3_newcomer_56 : decode cX3_newcomer 56 = .ok (.aload_n 0, 1) := qd_p qo_42 (by decide +kernel)
theorem dX3_newcomer_57 : decode cX3_newcomer 57 = .ok (.getfield 16, 3) := qz_2 .getfield 0 16 qo_180 (by decide +kernel) rfl
theorem dX3_newcomer_60 : decode cX3_newcomer 60 = .ok (.aload_n 0, 1) := qd_p qo_42 (by decide +kernel)
theorem dX3_newcomer_61 : decode cX3_newcomer 61 = .ok (.getfield 10, 3) := qz_2 .getfield 0 10 qo_180 (by decide +kernel) rfl
theorem dX3_newcomer_64 : decode cX3_newcomer 64 = .ok (.invokevirtual 106, 3) := qz_2 .invokevirtual 0 106 qo_182 (by decide +kernel) rfl
theorem dX3_newcomer_67 : decode cX3_newcomer 67 = .ok (.aload_n 0, 1) := qd_p qo_42 (by decide +kernel)
theorem dX3_newcomer_68 : decode cX3_newcomer 68 = .ok (.getfield 16, 3) := qz_2 .getfield 0 16 qo_180 (by decide +kernel) rfl
theorem dX3_newcomer_71 : decode cX3_newcomer 71 = .ok (.iload_n 1, 1) := qd_p qo_27 (by decide +kernel)
theorem dX3_newcomer_72 : decode cX3_newcomer 72 = .ok (.iconst 5, 1) := qd_p qo_8 (by decide +kernel)
theorem dX3_newcomer_73 : decode cX3_newcomer 73 = .ok (.invokevirtual 156, 3) := qz_2 .invokevirtual 0 156 qo_182 (by decide +kernel) rfl
theorem dX3_newcomer_76 : decode cX3_newcomer 76 = .ok (.pop, 1) := qd_p qo_87 (by decide +kernel)
theorem dX3_newcomer_77 : decode cX3_newcomer 77 = .ok (.aload_n 0, 1) := qd_p qo_42 (by decide +kernel)
theorem dX3_newcomer_78 : decode cX3_newcomer 78 = .ok (.getfield 16, 3) := qz_2 .getfield 0 16 qo_180 (by decide +kernel) rfl
theorem dX3_newcomer_81 : decode cX3_newcomer 81 = .ok (.getfield 153, 3) := qz_2 .getfield 0 153 qo_180 (by decide +kernel) rfl
theorem dX3_newcomer_84 : decode cX3_newcomer 84 = .ok (.iconst 1, 1) := qd_p qo_4 (by decide +kernel)
theorem dX3_newcomer_85 : decode cX3_newcomer 85 = .ok (.isub, 1) := qd_p qo_100 (by decide +kernel)
theorem dX3_newcomer_86 : decode cX3_newcomer 86 = .ok (.istore 5, 2) := qz_1 .istore 5 qo_54 (by decide +kernel)
theorem dX3_newcomer_88 : decode cX3_newcomer 88 = .ok (.aload_n 0, 1) := qd_p qo_42 (by decide +kernel)
theorem dX3_newcomer_89 : decode cX3_newcomer 89 = .ok (.getfield 16, 3) := qz_2 .getfield 0 16 qo_180 (by decide +kernel) rfl
theorem dX3_newcomer_92 : decode cX3_newcomer 92 = .ok (.iload 5, 2) := qz_1 .iload 5 qo_21 (by decide +kernel)
theorem dX3_newcomer_94 : decode cX3_newcomer 94 = .ok (.iconst 0, 1) := qd_p qo_3 (by decide +kernel)
theorem dX3_newcomer_95 : decode cX3_newcomer 95 = .ok (.bipush 23, 2) := qz_s1 .bipush 23 qo_16 (by decide +kernel) rfl
theorem dX3_newcomer_97 : decode cX3_newcomer 97 = .ok (.iload_n 2, 1) := qd_p qo_28 (by decide +kernel)
theorem dX3_newcomer_98 : decode cX3_newcomer 98 = .ok (.invokevirtual 170, 3) := qz_2 .invokevirtual 0 170 qo_182 (by decide +kernel) rfl
theorem dX3_newcomer_101 : decode cX3_newcomer 101 = .ok (.pop, 1) := qd_p qo_87 (by decide +kernel)
theorem dX3_newcomer_102 : decode cX3_newcomer 102 = .ok (.aload_n 0, 1) := qd_p qo_42 (by decide +kernel)
theorem dX3_newcomer_103 : decode cX3_newcomer 103 = .ok (.getfield 16, 3) := qz_2 .getfield 0 16 qo_180 (by decide +kernel) rfl
theorem dX3_newcomer_106 : decode cX3_newcomer 106 = .ok (.invokevirtual 141, 3) := qz_2 .invokevirtual 0 141 qo_182 (by decide +kernel) rfl
theorem dX3_newcomer_109 : decode cX3_newcomer 109 = .ok (.iconst 0, 1) := qd_p qo_3 (by decide +kernel)
theorem dX3_newcomer_110 : decode cX3_newcomer 110 = .ok (.istore 6, 2) := qz_1 .istore 6 qo_54 (by decide +kernel)
theorem dX3_newcomer_112 : decode cX3_newcomer 112 = .ok (.iload 6, 2) := qz_1 .iload 6 qo_21 (by decide +kernel)
theorem dX3_newcomer_114 : decode cX3_newcomer 114 = .ok (.sipush 999, 3) := qz_s2 .sipush 3 231 qo_17 (by decide +kernel) rfl
theorem dX3_newcomer_117 : decode cX3_newcomer 117 = .ok (.if_icmp .gt 41, 3) := qz_s2 (.if_icmp .gt) 0 41 qo_163 (by decide +kernel) rfl
theorem dX3_newcomer_120 : decode cX3_newcomer 120 = .ok (.aload_n 0, 1) := qd_p qo_42 (by decide +kernel)
theorem dX3_newcomer_121 : decode cX3_newcomer 121 = .ok (.getfield 16, 3) := qz_2 .getfield 0 16 qo_180 (by decide +kernel) rfl
theorem dX3_newcomer_124 : decode cX3_newcomer 124 = .ok (.iload 5, 2) := qz_1 .iload 5 qo_21 (by decide +kernel)
theorem dX3_newcomer_126 : decode cX3_newcomer 126 = .ok (.iload 6, 2) := qz_1 .iload 6 qo_21 (by decide +kernel)
theorem dX3_newcomer_128 : decode cX3_newcomer 128 = .ok (.invokevirtual 312, 3) := qz_2 .invokevirtual 1 56 qo_182 (by decide +kernel) rfl
theorem dX3_newcomer_131 : decode cX3_newcomer 131 = .ok (.istore 7, 2) := qz_1 .istore 7 qo_54 (by decide +kernel)
theorem dX3_newcomer_133 : decode cX3_newcomer 133 = .ok (.iload 7, 2) := qz_1 .iload 7 qo_21 (by decide +kernel)
theorem dX3_newcomer_135 : decode cX3_newcomer 135 = .ok (.bipush (-9), 2) := qz_s1 .bipush 247 qo_16 (by decide +kernel) rfl
theorem dX3_newcomer_137 : decode cX3_newcomer 137 = .ok (.if_icmp .eq 15, 3) := qz_s2 (.if_icmp .eq) 0 15 qo_159 (by decide +kernel) rfl
theorem dX3_newcomer_140 : decode cX3_newcomer 140 = .ok (.iload_n 3, 1) := qd_p qo_29 (by decide +kernel)
theorem dX3_newcomer_141 : decode cX3_newcomer 141 = .ok (.ifCond .ne 8, 3) := qz_s2 (.ifCond .ne) 0 8 qo_154 (by decide +kernel) rfl
theorem dX3_newcomer_144 : decode cX3_newcomer 144 = .ok (.iload 6, 2) := qz_1 .iload 6 qo_21 (by decide +kernel)
theorem dX3_newcomer_146 : decode cX3_newcomer 146 = .ok (.goto 5, 3) := qz_s2 .goto 0 5 qo_167 (by decide +kernel) rfl
theorem dX3_newcomer_149 : decode cX3_newcomer 149 = .ok (.iload 7, 2) := qz_1 .iload 7 qo_21 (by decide +kernel)
theorem dX3_newcomer_151 : decode cX3_newcomer 151 = .ok (.ireturn, 1) := qd_p qo_172 (by decide +kernel)
theorem dX3_newcomer_152 : decode cX3_newcomer 152 = .ok (.iinc 6 1, 3) := qd_i (x := 6) (y := 1) qo_132 (by decide +kernel) rfl
theorem dX3_newcomer_155 : decode cX3_newcomer 155 = .ok (.goto (-43), 3) := qz_s2 .goto 255 213 qo_167 (by decide +kernel) rfl
theorem dX3_newcomer_158 : decode cX3_newcomer 158 = .ok (.bipush (-9), 2) := qz_s1 .bipush 247 qo_16 (by decide +kernel) rfl
theorem dX3_newcomer_160 : decode cX3_newcomer 160 = .ok (.ireturn, 1) := qd_p qo_172 (by decide +kernel)
theorem dX3_mostSeen_0 : decode cX3_mostSeen 0 = .ok (.iload_n 1, 1) := qd_p qo_27 (by decide +kernel)
theorem dX3_mostSeen_1 : decode cX3_mostSeen 1 = .ok (.iconst 2, 1) := qd_p qo_5 (by decide +kernel)
theorem dX3_mostSeen_2 : decode cX3_mostSeen 2 = .ok (.invokestatic 123, 3) := qz_2 .invokestatic 0 123 qo_184 (by decide +kernel) rfl
theorem dX3_mostSeen_5 : decode cX3_mostSeen 5 = .ok (.istore_n 2, 1) := qd_p qo_61 (by decide +kernel)
theorem dX3_mostSeen_6 : decode cX3_mostSeen 6 = .ok (.iload_n 2, 1) := qd_p qo_28 (by decide +kernel)
theorem dX3_mostSeen_7 : decode cX3_mostSeen 7 = .ok (.ifCond .eq 9, 3) := qz_s2 (.ifCond .eq) 0 9 qo_153 (by decide +kernel) rfl
theorem dX3_mostSeen_10 : decode cX3_mostSeen 10 = .ok (.aload_n 0, 1) := qd_p qo_42 (by decide +kernel)
theorem dX3_mostSeen_11 : decode cX3_mostSeen 11 = .ok (.iload_n 2, 1) := qd_p qo_28 (by decide +kernel)
theorem dX3_mostSeen_12 : decode cX3_mostSeen 12 = .ok (.invokevirtual 61, 3) := qz_2 .invokevirtual 0 61 qo_182 (by decide +kernel) rfl
theorem dX3_mostSeen_15 : decode cX3_mostSeen 15 = .ok (.ireturn, 1) := qd_p qo_172 (by decide +kernel)
theorem dX3_mostSeen_16 : decode cX3_mostSeen 16 = .ok (.aload_n 0, 1) := qd_p qo_42 (by decide +kernel)
theorem dX3_mostSeen_17 : decode cX3_mostSeen 17 = .ok (.getfield 10, 3) := qz_2 .getfield 0 10 qo_180 (by decide +kernel) rfl
theorem dX3_mostSeen_20 : decode cX3_mostSeen 20 = .ok (.invokevirtual 141, 3) := qz_2 .invokevirtual 0 141 qo_182 (by decide +kernel) rfl
theorem dX3_mostSeen_23 : decode cX3_mostSeen 23 = .ok (.iconst 0, 1) := qd_p qo_3 (by decide +kernel)
theorem dX3_mostSeen_24 : decode cX3_mostSeen 24 = .ok (.istore_n 3, 1) := qd_p qo_62 (by decide +kernel)
theorem dX3_mostSeen_25 : decode cX3_mostSeen 25 = .ok (.iconst 0, 1) := qd_p qo_3 (by decide +kernel)
theorem dX3_mostSeen_26 : decode cX3_mostSeen 26 = .ok (.istore 4, 2) := qz_1 .istore 4 qo_54 (by decide +kernel)
theorem dX3_mostSeen_28 : decode cX3_mostSeen 28 = .ok (.iconst 0, 1) := qd_p qo_3 (by decide +kernel)
theorem dX3_mostSeen_29 : decode cX3_mostSeen 29 = .ok (.istore 5, 2) := qz_1 .istore 5 qo_54 (by decide +kernel)
theorem dX3_mostSeen_31 : decode cX3_mostSeen 31 = .ok (.iload 5, 2) := qz_1 .iload 5 qo_21 (by decide +kernel)
theorem dX3_mostSeen_33 : decode cX3_mostSeen 33 = .ok (.bipush 8, 2) := qz_s1 .bipush 8 qo_16 (by decide +kernel) rfl
theorem dX3_mostSeen_35 : decode cX3_mostSeen 35 = .ok (.if_icmp .ge 34, 3) := qz_s2 (.if_icmp .ge) 0 34 qo_162 (by decide +kernel) rfl
theorem dX3_mostSeen_38 : decode cX3_mostSeen 38 = .ok (.aload_n 0, 1) := qd_p qo_42 (by decide +kernel)
theorem dX3_mostSeen_39 : decode cX3_mostSeen 39 = .ok (.getfield 10, 3) := qz_2 .getfield 0 10 qo_180 (by decide +kernel) rfl
theorem dX3_mostSeen_42 : decode cX3_mostSeen 42 = .ok (.iload 5, 2) := qz_1 .iload 5 qo_21 (by decide +kernel)
theorem dX3_mostSeen_44 : decode cX3_mostSeen 44 = .ok (.invokevirtual 315, 3) := qz_2 .invokevirtual 1 59 qo_182 (by decide +kernel) rfl
theorem dX3_mostSeen_47 : decode cX3_mostSeen 47 = .ok (.istore 6, 2) := qz_1 .istore 6 qo_54 (by decide +kernel)
theorem dX3_mostSeen_49 : decode cX3_mostSeen 49 = .ok (.iload 6, 2) := qz_1 .iload 6 qo_21 (by decide +kernel)
theorem dX3_mostSeen_51 : decode cX3_mostSeen 51 = .ok (.iload 4, 2) := qz_1 .iload 4 qo_21 (by decide +kernel)
theorem dX3_mostSeen_53 : decode cX3_mostSeen 53 = .ok (.if_icmp .le 10, 3) := qz_s2 (.if_icmp .le) 0 10 qo_164 (by decide +kernel) rfl
theorem dX3_mostSeen_56 : decode cX3_mostSeen 56 = .ok (.iload 6, 2) := qz_1 .iload 6 qo_21 (by decide +kernel)
theorem dX3_mostSeen_58 : decode cX3_mostSeen 58 = .ok (.istore 4, 2) := qz_1 .istore 4 qo_54 (by decide +kernel)
theorem dX3_mostSeen_60 : decode cX3_mostSeen 60 = .ok (.iload 5, 2) := qz_1 .iload 5 qo_21 (by decide +kernel)
theorem dX3_mostSeen_62 : decode cX3_mostSeen 62 = .ok (.istore_n 3, 1) := qd_p qo_62 (by decide +kernel)
theorem dX3_mostSeen_63 : decode cX3_mostSeen 63 = .ok (.iinc 5 1, 3) := qd_i (x := 5) (y := 1) qo_132 (by decide +kernel) rfl
theorem dX3_mostSeen_66 : decode cX3_mostSeen 66 = .ok (.goto (-35), 3) := qz_s2 .goto 255 221 qo_167 (by decide +kernel) rfl
theorem dX3_mostSeen_69 : decode cX3_mostSeen 69 = .ok (.iload_n 1, 1) := qd_p qo_27 (by decide +kernel)
theorem dX3_mostSeen_70 : decode cX3_mostSeen 70 = .ok (.ifCond .ne 7, 3) := qz_s2 (.ifCond .ne) 0 7 qo_154 (by decide +kernel) rfl
theorem dX3_mostSeen_73 : decode cX3_mostSeen 73 = .ok (.iload_n 3, 1) := qd_p qo_29 (by decide +kernel)
theorem dX3_mostSeen_74 : decode cX3_mostSeen 74 = .ok (.goto 5, 3) := qz_s2 .goto 0 5 qo_167 (by decide +kernel) rfl
theorem dX3_mostSeen_77 : decode cX3_mostSeen 77 = .ok (.iload 4, 2) := qz_1 .iload 4 qo_21 (by decide +kernel)
theorem dX3_mostSeen_79 : decode cX3_mostSeen 79 = .ok (.ireturn, 1) := qd_p qo_172 (by decide +kernel)
section
variable {p : Program} {l : Launch} {e : Env} {s : State} {m : MethodId} {args : Array Value} {below : List Frame} {meth : Method} {c : Code} {D : va_G} {tI tII : ClassId} {B : Nat}
set_option maxHeartbeats 4000000 in
set_option maxRecDepth 100000 in
theorem w_X3_together_77 (C : wt_C p s m args meth c RX3 cX3_together 7 (some .int) D tI tII) {F : Nat} {k23 : Int32 → Int32 → Mem → Option (Int32 × Mem)} {x1 : Int32} {x2 : Int32} {x4 : Int32} {x5 : Int32} {σ : Mem} {r : Int32} {σ' : Mem} {H : Heap} {locs : List Loc} {ls : Array Slot} (hk23 : ∀ (x4 : Int32) (x5 : Int32) (σ : Mem) (H : Heap) (locs : List Loc) (ls : Array Slot), k23 x4 x5 σ = some (r, σ') → wt_St D tI tII B σ s H locs → lv_has ls 7 [(0, .ref (B + 0)), (1, .int x1), (2, .int x2), (4, .int x4), (5, .int x5)] → W p l e rm_X3_together s m args below meth c H locs 0 0 (MQ below (wt_Qi D tI tII B r σ') args s 0 0 (fun q => B ≤ q)) (F0 m 23 ls [])) (hf : j_X3_together_77 F k23 x1 x2 x4 x5 σ = some (r, σ')) (hM : wt_St D tI tII B σ s H locs) (hl : lv_has ls 7 [(0, .ref (B + 0)), (1, .int x1), (2, .int x2), (4, .int x4), (5, .int x5)]) : W p l e rm_X3_together s m args below meth c H locs 0 0 (MQ below (wt_Qi D tI tII B r σ') args s 0 0 (fun q => B ≤ q)) (F0 m 77 ls []) := by
  obtain ⟨hx, hb, hts, hown, hml, hr, hlk, hK⟩ := id C
  replace hf := Eq.trans j_X3_together_77_e.symm hf
  refine lv_iinc (v := (x5 + (1 : Int32))) (lv' := [(5, .int (x5 + (1 : Int32))), (0, .ref (B + 0)), (1, .int x1), (2, .int x2), (4, .int x4)]) hx hb dX3_together_77 hl (k := 4) rfl rfl (by decide) rfl (fun ls hl => ?_)
  refine lv_goto (tgt := 23) hx hb dX3_together_80 (by decide) ?_
  exact hk23 _ _ _ _ _ _ hf hM (lv_sub hl [1, 2, 3, 4, 0] rfl)
set_option maxHeartbeats 4000000 in
set_option maxRecDepth 100000 in
theorem w_X3_together_23 (C : wt_C p s m args meth c RX3 cX3_together 7 (some .int) D tI tII) {F : Nat} {x1 : Int32} {x2 : Int32} {r : Int32} {σ' : Mem} : ∀ (N : Nat) (x4 : Int32) (x5 : Int32) (σ : Mem) (H : Heap) (locs : List Loc) (ls : Array Slot), lp_X3_together_23 F x1 x2 N x4 x5 σ = some (r, σ') → wt_St D tI tII B σ s H locs → lv_has ls 7 [(0, .ref (B + 0)), (1, .int x1), (2, .int x2), (4, .int x4), (5, .int x5)] → W p l e rm_X3_together s m args below meth c H locs 0 0 (MQ below (wt_Qi D tI tII B r σ') args s 0 0 (fun q => B ≤ q)) (F0 m 23 ls []) := by
  obtain ⟨hx, hb, hts, hown, hml, hr, hlk, hK⟩ := id C
  intro N
  induction N with
  | zero => intro x4 x5 σ H locs ls hf; exact wt_none (show (none : Option (Int32 × Mem)) = some (r, σ') from hf)
  | succ N ih =>
    intro x4 x5 σ H locs ls hf hM hl
    replace hf := Eq.trans lp_X3_together_23_s.symm hf
    refine lv_iload hx hb dX3_together_23 (lv_at hl 4 rfl) ?_
    refine lv_bipush (v := 24) hx hb dX3_together_25 (by decide) ?_
    refine wq_icmp_ge (tgt := 83) hx hb dX3_together_27 (by decide) hf (fun hf => ?_) (fun hf => ?_)
    · refine lv_iload hx hb dX3_together_83 (lv_at hl 3 rfl) ?_
      exact wt_iret hx hb hr hlk hK hM hf dX3_together_85
    refine lv_aload_n hx hb dX3_together_30 rfl (lv_at hl 0 rfl) ?_
    refine gf_X3_house  hx hb hts hown hK hM tw_114 dX3_together_31 ?_
    refine gf_X0_rosters wt_h1 hx hb hts hown hK hM tw_37 dX3_together_34 ?_
    refine lv_iload_n hx hb dX3_together_37 rfl (lv_at hl 1 rfl) ?_
    obtain ⟨i1, hf⟩ := wt_chk_of hf
    refine wt_ald hx hb hK hM (wt_aaH_4 wt_h1) i1 dX3_together_38 ?_
    refine lv_iload hx hb dX3_together_39 (lv_at hl 4 rfl) ?_
    obtain ⟨i2, hf⟩ := wt_chk_of hf
    refine wt_ild hx hb hK hM (wt_rH_4 wt_h1 i1) i2 dX3_together_41 ?_
    refine wt_leti hf (fun z3 hf => ?_)
    refine lv_istore (lv' := [(6, .int z3), (0, .ref (B + 0)), (1, .int x1), (2, .int x2), (4, .int x4), (5, .int x5)]) hx hb dX3_together_42 hl (by decide) rfl (fun ls hl => ?_)
    refine lv_iload hx hb dX3_together_44 (lv_at hl 0 rfl) ?_
    refine lv_bipush (v := 9) hx hb dX3_together_46 (by decide) ?_
    refine wq_icmp_eq (tgt := 77) hx hb dX3_together_48 (by decide) hf (fun hf => ?_) (fun hf => ?_)
    · exact w_X3_together_77 C ih hf hM (lv_sub hl [1, 2, 3, 4, 5] rfl)
    refine lv_aload_n hx hb dX3_together_51 rfl (lv_at hl 1 rfl) ?_
    refine gf_X3_house  hx hb hts hown hK hM tw_114 dX3_together_52 ?_
    refine gf_X0_rosters wt_h1 hx hb hts hown hK hM tw_37 dX3_together_55 ?_
    refine lv_iload_n hx hb dX3_together_58 rfl (lv_at hl 3 rfl) ?_
    obtain ⟨i4, hf⟩ := wt_chk_of hf
    refine wt_ald hx hb hK hM (wt_aaH_4 wt_h1) i4 dX3_together_59 ?_
    refine lv_iload hx hb dX3_together_60 (lv_at hl 5 rfl) ?_
    refine wt_ild hx hb hK hM (wt_rH_4 wt_h1 i4) i2 dX3_together_62 ?_
    refine lv_iload hx hb dX3_together_63 (lv_at hl 0 rfl) ?_
    refine wq_icmp_ne (tgt := 77) hx hb dX3_together_65 (by decide) hf (fun hf => ?_) (fun hf => ?_)
    · exact w_X3_together_77 C ih hf hM (lv_sub hl [1, 2, 3, 4, 5] rfl)
    refine lv_iload hx hb dX3_together_68 (lv_at hl 4 rfl) ?_
    refine lv_iconst (v := 1) hx hb dX3_together_70 (by decide) ?_
    refine lv_iload hx hb dX3_together_71 (lv_at hl 5 rfl) ?_
    refine lv_ishl hx hb dX3_together_73 ?_
    refine lv_ior hx hb dX3_together_74 ?_
    refine wt_leti hf (fun z5 hf => ?_)
    refine lv_istore (lv' := [(4, .int z5), (6, .int z3), (0, .ref (B + 0)), (1, .int x1), (2, .int x2), (5, .int x5)]) hx hb dX3_together_75 hl (by decide) rfl (fun ls hl => ?_)
    exact w_X3_together_77 C ih hf hM (lv_sub hl [2, 3, 4, 0, 5] rfl)
set_option maxHeartbeats 4000000 in
set_option maxRecDepth 100000 in
theorem w_X3_together_0 (C : wt_C p s m args meth c RX3 cX3_together 7 (some .int) D tI tII) {F : Nat} {x1 : Int32} {x2 : Int32} {σ : Mem} {r : Int32} {σ' : Mem} {H : Heap} {locs : List Loc} {ls : Array Slot} (hf : f_X3_together F x1 x2 σ = some (r, σ')) (hM : wt_St D tI tII B σ s H locs) (hl : lv_has ls 7 [(0, .ref (B + 0)), (1, .int x1), (2, .int x2)]) : W p l e rm_X3_together s m args below meth c H locs 0 0 (MQ below (wt_Qi D tI tII B r σ') args s 0 0 (fun q => B ≤ q)) (F0 m 0 ls []) := by
  obtain ⟨hx, hb, hts, hown, hml, hr, hlk, hK⟩ := id C
  replace hf := Eq.trans f_X3_together_e.symm hf
  refine lv_aload_n hx hb dX3_together_0 rfl (lv_at hl 0 rfl) ?_
  refine lv_iload_n hx hb dX3_together_1 rfl (lv_at hl 1 rfl) ?_
  refine lv_iload_n hx hb dX3_together_2 rfl (lv_at hl 2 rfl) ?_
  refine wt_callVi (As := [.int x1, .int x2]) (rest := []) hx hb hml hts hown hK hM wt_rc_X3 cw_X3_89 hd_X3_noPair rfl ⟨qz_b rfl, qz_b rfl⟩ ⟨rfl, rfl⟩ hl.1 rfl (qz_b rfl) dX3_together_3 hf (fun _ _ h9 => c_X3_noPair h9) (fun r6 s7 H locs hf hM => ?_)
  refine lv_istore_n (lv' := [(3, .int r6), (0, .ref (B + 0)), (1, .int x1), (2, .int x2)]) hx hb dX3_together_6 rfl hl (by decide) rfl (fun ls hl => ?_)
  refine lv_iload_n hx hb dX3_together_7 rfl (lv_at hl 0 rfl) ?_
  refine wq_if_eq (tgt := 17) hx hb dX3_together_8 (by decide) hf (fun hf => ?_) (fun hf => ?_)
  · refine lv_iconst (v := 0) hx hb dX3_together_17 (by decide) ?_
    refine lv_istore (lv' := [(4, .int (0 : Int32)), (3, .int r6), (0, .ref (B + 0)), (1, .int x1), (2, .int x2)]) hx hb dX3_together_18 hl (by decide) rfl (fun ls hl => ?_)
    refine lv_iconst (v := 0) hx hb dX3_together_20 (by decide) ?_
    refine lv_istore (lv' := [(5, .int (0 : Int32)), (4, .int (0 : Int32)), (3, .int r6), (0, .ref (B + 0)), (1, .int x1), (2, .int x2)]) hx hb dX3_together_21 hl (by decide) rfl (fun ls hl => ?_)
    exact w_X3_together_23 C _ _ _ _ _ _ _ hf hM (lv_sub hl [3, 4, 5, 1, 0] rfl)
  refine lv_aload_n hx hb dX3_together_11 rfl (lv_at hl 1 rfl) ?_
  refine lv_iload_n hx hb dX3_together_12 rfl (lv_at hl 0 rfl) ?_
  refine wt_callVi (As := [.int r6]) (rest := []) hx hb hml hts hown hK hM wt_rc_X3 cw_X3_61 hd_X3_refuse rfl ⟨qz_b rfl, qz_b rfl⟩ ⟨rfl, rfl⟩ hl.1 rfl (qz_b rfl) dX3_together_13 hf (fun _ _ h9 => c_X3_refuse h9) (fun r8 s9 H locs hf hM => ?_)
  exact wt_iret hx hb hr hlk hK hM hf dX3_together_16
end
set_option maxHeartbeats 4000000 in
set_option maxRecDepth 100000 in
theorem c_X3_together {l : Launch} {D : va_G} {tI tII : ClassId} {B F : Nat} {x1 : Int32} {x2 : Int32} {σ σ' : Mem} {r : Int32} (hf : f_X3_together F x1 x2 σ = some (r, σ')) : wt_Mi l yX3_together cX3_together 7 (some .int) rm_X3_together [.ref (B + 0), .int x1, .int x2] D tI tII B σ r σ' := by
  refine Met.ofW (cc := cX3_together) (maxL := 7) (ret := (some .int)) (by decide) rfl ?_
  intro p e s m args below meth c s₁ B9 hml hv
  obtain ⟨rfl, hP, hK⟩ := hv
  have hl := lv_entry ([.ref (B + 0), .int x1, .int x2]) (n := 7) (qz_b rfl)
  rw [lg_entry_eq]
  generalize (lg_sl ([.ref (B + 0), .int x1, .int x2]) ++ List.replicate (7 - (lg_sl ([.ref (B + 0), .int x1, .int x2])).length) Slot.unset).toArray = ls at hl ⊢
  exact w_X3_together_0 (wt_C_of B9 hml hK) hf ⟨hP, va_S.rf⟩ hl
section
variable {p : Program} {l : Launch} {e : Env} {s : State} {m : MethodId} {args : Array Value} {below : List Frame} {meth : Method} {c : Code} {D : va_G} {tI tII : ClassId} {B : Nat}
set_option maxHeartbeats 4000000 in
set_option maxRecDepth 100000 in
theorem w_X3_wealthSwapped_0 (C : wt_C p s m args meth c RX3 cX3_wealthSwapped 5 (some .int) D tI tII) {F : Nat} {x1 : Int32} {x2 : Int32} {x3 : Int32} {σ : Mem} {r : Int32} {σ' : Mem} {H : Heap} {locs : List Loc} {ls : Array Slot} (hf : f_X3_wealthSwapped F x1 x2 x3 σ = some (r, σ')) (hM : wt_St D tI tII B σ s H locs) (hl : lv_has ls 5 [(0, .ref (B + 0)), (1, .int x1), (2, .int x2), (3, .int x3)]) : W p l e rm_X3_wealthSwapped s m args below meth c H locs 0 0 (MQ below (wt_Qi D tI tII B r σ') args s 0 0 (fun q => B ≤ q)) (F0 m 0 ls []) := by
  obtain ⟨hx, hb, hts, hown, hml, hr, hlk, hK⟩ := id C
  replace hf := Eq.trans f_X3_wealthSwapped_e.symm hf
  refine lv_aload_n hx hb dX3_wealthSwapped_0 rfl (lv_at hl 0 rfl) ?_
  refine gf_X3_mind  hx hb hts hown hK hM tw_115 dX3_wealthSwapped_1 ?_
  refine lv_iload_n hx hb dX3_wealthSwapped_4 rfl (lv_at hl 1 rfl) ?_
  refine lv_iload_n hx hb dX3_wealthSwapped_5 rfl (lv_at hl 2 rfl) ?_
  refine wt_callVv (As := [.int x1, .int x2]) (rest := []) hx hb hml hts hown hK hM (wt_rc_X0 wt_h24) cw_X3_299 hd_X0_tradeRosters rfl ⟨qz_b rfl, qz_b rfl⟩ ⟨rfl, rfl⟩ hl.1 rfl (qz_b rfl) dX3_wealthSwapped_6 hf (fun _ _ h9 => c_X0_tradeRosters wt_h24 h9) (fun r1 s2 H locs hf hM => ?_)
  refine lv_aload_n hx hb dX3_wealthSwapped_9 rfl (lv_at hl 0 rfl) ?_
  refine gf_X3_mind  hx hb hts hown hK hM tw_115 dX3_wealthSwapped_10 ?_
  refine wt_callVv (As := []) (rest := []) hx hb hml hts hown hK hM (wt_rc_X0 wt_h24) cw_X3_141 hd_X0_reckon rfl ⟨qz_b rfl, qz_b rfl⟩ ⟨rfl, rfl⟩ hl.1 rfl (qz_b rfl) dX3_wealthSwapped_13 hf (fun _ _ h9 => c_X0_reckon wt_h24 h9) (fun r3 s4 H locs hf hM => ?_)
  refine lv_aload_n hx hb dX3_wealthSwapped_16 rfl (lv_at hl 0 rfl) ?_
  refine gf_X3_mind  hx hb hts hown hK hM tw_115 dX3_wealthSwapped_17 ?_
  refine lv_iload_n hx hb dX3_wealthSwapped_20 rfl (lv_at hl 1 rfl) ?_
  refine lv_iload_n hx hb dX3_wealthSwapped_21 rfl (lv_at hl 3 rfl) ?_
  refine wt_callVi (As := [.int x1, .int x3]) (rest := []) hx hb hml hts hown hK hM (wt_rc_X0 wt_h24) cw_X3_229 hd_X0_wealth rfl ⟨qz_b rfl, qz_b rfl⟩ ⟨rfl, rfl⟩ hl.1 rfl (qz_b rfl) dX3_wealthSwapped_22 hf (fun _ _ h9 => c_X0_wealth wt_h24 h9) (fun r5 s6 H locs hf hM => ?_)
  refine lv_aload_n hx hb dX3_wealthSwapped_25 rfl (lv_at hl 0 rfl) ?_
  refine gf_X3_mind  hx hb hts hown hK hM tw_115 dX3_wealthSwapped_26 ?_
  refine lv_iload_n hx hb dX3_wealthSwapped_29 rfl (lv_at hl 2 rfl) ?_
  refine lv_iload_n hx hb dX3_wealthSwapped_30 rfl (lv_at hl 3 rfl) ?_
  refine wt_callVi (As := [.int x2, .int x3]) (rest := [.int r5]) hx hb hml hts hown hK hM (wt_rc_X0 wt_h24) cw_X3_229 hd_X0_wealth rfl ⟨qz_b rfl, qz_b rfl⟩ ⟨rfl, rfl⟩ hl.1 rfl (qz_b rfl) dX3_wealthSwapped_31 hf (fun _ _ h9 => c_X0_wealth wt_h24 h9) (fun r7 s8 H locs hf hM => ?_)
  refine lv_iadd hx hb dX3_wealthSwapped_34 ?_
  refine lv_istore (lv' := [(4, .int (r5 + r7)), (0, .ref (B + 0)), (1, .int x1), (2, .int x2), (3, .int x3)]) hx hb dX3_wealthSwapped_35 hl (by decide) rfl (fun ls hl => ?_)
  refine lv_aload_n hx hb dX3_wealthSwapped_37 rfl (lv_at hl 1 rfl) ?_
  refine gf_X3_mind  hx hb hts hown hK hM tw_115 dX3_wealthSwapped_38 ?_
  refine lv_iload_n hx hb dX3_wealthSwapped_41 rfl (lv_at hl 2 rfl) ?_
  refine lv_iload_n hx hb dX3_wealthSwapped_42 rfl (lv_at hl 3 rfl) ?_
  refine wt_callVv (As := [.int x1, .int x2]) (rest := []) hx hb hml hts hown hK hM (wt_rc_X0 wt_h24) cw_X3_299 hd_X0_tradeRosters rfl ⟨qz_b rfl, qz_b rfl⟩ ⟨rfl, rfl⟩ hl.1 rfl (qz_b rfl) dX3_wealthSwapped_43 hf (fun _ _ h9 => c_X0_tradeRosters wt_h24 h9) (fun r9 s10 H locs hf hM => ?_)
  refine lv_iload hx hb dX3_wealthSwapped_46 (lv_at hl 0 rfl) ?_
  exact wt_iret hx hb hr hlk hK hM hf dX3_wealthSwapped_48
end
set_option maxHeartbeats 4000000 in
set_option maxRecDepth 100000 in
theorem c_X3_wealthSwapped {l : Launch} {D : va_G} {tI tII : ClassId} {B F : Nat} {x1 : Int32} {x2 : Int32} {x3 : Int32} {σ σ' : Mem} {r : Int32} (hf : f_X3_wealthSwapped F x1 x2 x3 σ = some (r, σ')) : wt_Mi l yX3_wealthSwapped cX3_wealthSwapped 5 (some .int) rm_X3_wealthSwapped [.ref (B + 0), .int x1, .int x2, .int x3] D tI tII B σ r σ' := by
  refine Met.ofW (cc := cX3_wealthSwapped) (maxL := 5) (ret := (some .int)) (by decide) rfl ?_
  intro p e s m args below meth c s₁ B9 hml hv
  obtain ⟨rfl, hP, hK⟩ := hv
  have hl := lv_entry ([.ref (B + 0), .int x1, .int x2, .int x3]) (n := 5) (qz_b rfl)
  rw [lg_entry_eq]
  generalize (lg_sl ([.ref (B + 0), .int x1, .int x2, .int x3]) ++ List.replicate (5 - (lg_sl ([.ref (B + 0), .int x1, .int x2, .int x3])).length) Slot.unset).toArray = ls at hl ⊢
  exact w_X3_wealthSwapped_0 (wt_C_of B9 hml hK) hf ⟨hP, va_S.rf⟩ hl
section
variable {p : Program} {l : Launch} {e : Env} {s : State} {m : MethodId} {args : Array Value} {below : List Frame} {meth : Method} {c : Code} {D : va_G} {tI tII : ClassId} {B : Nat}
set_option maxHeartbeats 4000000 in
set_option maxRecDepth 100000 in
theorem w_X3_swap_137 (C : wt_C p s m args meth c RX3 cX3_swap 9 (some .int) D tI tII) {F : Nat} {k46 : Int32 → Int32 → Int32 → Mem → Option (Int32 × Mem)} {k64 : Int32 → Int32 → Int32 → Mem → Option (Int32 × Mem)} {x1 : Int32} {x3 : Int32} {x4 : Int32} {x5 : Int32} {x6 : Int32} {σ : Mem} {r : Int32} {σ' : Mem} {H : Heap} {locs : List Loc} {ls : Array Slot} (hk46 : ∀ (x3 : Int32) (x4 : Int32) (x5 : Int32) (σ : Mem) (H : Heap) (locs : List Loc) (ls : Array Slot), k46 x3 x4 x5 σ = some (r, σ') → wt_St D tI tII B σ s H locs → lv_has ls 9 [(0, .ref (B + 0)), (1, .int x1), (3, .int x3), (4, .int x4), (5, .int x5)] → W p l e rm_X3_swap s m args below meth c H locs 0 0 (MQ below (wt_Qi D tI tII B r σ') args s 0 0 (fun q => B ≤ q)) (F0 m 46 ls [])) (hk64 : ∀ (x3 : Int32) (x4 : Int32) (x6 : Int32) (σ : Mem) (H : Heap) (locs : List Loc) (ls : Array Slot), k64 x3 x4 x6 σ = some (r, σ') → wt_St D tI tII B σ s H locs → lv_has ls 9 [(0, .ref (B + 0)), (1, .int x1), (3, .int x3), (4, .int x4), (5, .int x5), (6, .int x6)] → W p l e rm_X3_swap s m args below meth c H locs 0 0 (MQ below (wt_Qi D tI tII B r σ') args s 0 0 (fun q => B ≤ q)) (F0 m 64 ls [])) (hf : j_X3_swap_137 F k46 k64 x1 x3 x4 x5 x6 σ = some (r, σ')) (hM : wt_St D tI tII B σ s H locs) (hl : lv_has ls 9 [(0, .ref (B + 0)), (1, .int x1), (3, .int x3), (4, .int x4), (5, .int x5), (6, .int x6)]) : W p l e rm_X3_swap s m args below meth c H locs 0 0 (MQ below (wt_Qi D tI tII B r σ') args s 0 0 (fun q => B ≤ q)) (F0 m 137 ls []) := by
  obtain ⟨hx, hb, hts, hown, hml, hr, hlk, hK⟩ := id C
  replace hf := Eq.trans j_X3_swap_137_e.symm hf
  refine lv_iinc (v := (x6 + (1 : Int32))) (lv' := [(6, .int (x6 + (1 : Int32))), (0, .ref (B + 0)), (1, .int x1), (3, .int x3), (4, .int x4), (5, .int x5)]) hx hb dX3_swap_137 hl (k := 5) rfl rfl (by decide) rfl (fun ls hl => ?_)
  refine lv_goto (tgt := 64) hx hb dX3_swap_140 (by decide) ?_
  exact hk64 _ _ _ _ _ _ _ hf hM (lv_sub hl [1, 2, 3, 4, 5, 0] rfl)
set_option maxHeartbeats 4000000 in
set_option maxRecDepth 100000 in
theorem w_X3_swap_64 (C : wt_C p s m args meth c RX3 cX3_swap 9 (some .int) D tI tII) {F : Nat} {k46 : Int32 → Int32 → Int32 → Mem → Option (Int32 × Mem)} {x1 : Int32} {x5 : Int32} {r : Int32} {σ' : Mem} (hk46 : ∀ (x3 : Int32) (x4 : Int32) (x5 : Int32) (σ : Mem) (H : Heap) (locs : List Loc) (ls : Array Slot), k46 x3 x4 x5 σ = some (r, σ') → wt_St D tI tII B σ s H locs → lv_has ls 9 [(0, .ref (B + 0)), (1, .int x1), (3, .int x3), (4, .int x4), (5, .int x5)] → W p l e rm_X3_swap s m args below meth c H locs 0 0 (MQ below (wt_Qi D tI tII B r σ') args s 0 0 (fun q => B ≤ q)) (F0 m 46 ls [])) : ∀ (N : Nat) (x3 : Int32) (x4 : Int32) (x6 : Int32) (σ : Mem) (H : Heap) (locs : List Loc) (ls : Array Slot), lp_X3_swap_64 F k46 x1 x5 N x3 x4 x6 σ = some (r, σ') → wt_St D tI tII B σ s H locs → lv_has ls 9 [(0, .ref (B + 0)), (1, .int x1), (3, .int x3), (4, .int x4), (5, .int x5), (6, .int x6)] → W p l e rm_X3_swap s m args below meth c H locs 0 0 (MQ below (wt_Qi D tI tII B r σ') args s 0 0 (fun q => B ≤ q)) (F0 m 64 ls []) := by
  obtain ⟨hx, hb, hts, hown, hml, hr, hlk, hK⟩ := id C
  intro N
  induction N with
  | zero => intro x3 x4 x6 σ H locs ls hf; exact wt_none (show (none : Option (Int32 × Mem)) = some (r, σ') from hf)
  | succ N ih =>
    intro x3 x4 x6 σ H locs ls hf hM hl
    replace hf := Eq.trans lp_X3_swap_64_s.symm hf
    refine lv_iload hx hb dX3_swap_64 (lv_at hl 5 rfl) ?_
    refine lv_aload_n hx hb dX3_swap_66 rfl (lv_at hl 0 rfl) ?_
    refine gf_X3_house  hx hb hts hown hK hM tw_114 dX3_swap_67 ?_
    refine gf_X0_lookerCount wt_h1 hx hb hts hown hK hM tw_31 dX3_swap_70 ?_
    refine wq_icmp_ge (tgt := 143) hx hb dX3_swap_73 (by decide) hf (fun hf => ?_) (fun hf => ?_)
    · refine lv_iinc (v := (x5 + (1 : Int32))) (lv' := [(5, .int (x5 + (1 : Int32))), (0, .ref (B + 0)), (1, .int x1), (3, .int x3), (4, .int x4), (6, .int x6)]) hx hb dX3_swap_143 hl (k := 4) rfl rfl (by decide) rfl (fun ls hl => ?_)
      refine lv_goto (tgt := 46) hx hb dX3_swap_146 (by decide) ?_
      exact hk46 _ _ _ _ _ _ _ hf hM (lv_sub hl [1, 2, 3, 4, 0] rfl)
    refine lv_aload_n hx hb dX3_swap_76 rfl (lv_at hl 0 rfl) ?_
    refine lv_iload hx hb dX3_swap_77 (lv_at hl 4 rfl) ?_
    refine lv_iload hx hb dX3_swap_79 (lv_at hl 5 rfl) ?_
    refine lv_iload_n hx hb dX3_swap_81 rfl (lv_at hl 1 rfl) ?_
    refine wt_callVi (As := [.int x5, .int x6, .int x1]) (rest := []) hx hb hml hts hown hK hM wt_rc_X3 cw_X3_296 hd_X3_wealthSwapped rfl ⟨qz_b rfl, qz_b rfl⟩ ⟨rfl, rfl⟩ hl.1 rfl (qz_b rfl) dX3_swap_82 hf (fun _ _ h9 => c_X3_wealthSwapped h9) (fun r1 s2 H locs hf hM => ?_)
    refine lv_istore (lv' := [(7, .int r1), (0, .ref (B + 0)), (1, .int x1), (3, .int x3), (4, .int x4), (5, .int x5), (6, .int x6)]) hx hb dX3_swap_85 hl (by decide) rfl (fun ls hl => ?_)
    refine lv_aload_n hx hb dX3_swap_87 rfl (lv_at hl 1 rfl) ?_
    refine gf_X3_house  hx hb hts hown hK hM tw_114 dX3_swap_88 ?_
    refine lv_iload hx hb dX3_swap_91 (lv_at hl 5 rfl) ?_
    refine lv_iload_n hx hb dX3_swap_93 rfl (lv_at hl 2 rfl) ?_
    refine wt_callVi (As := [.int x5, .int x1]) (rest := []) hx hb hml hts hown hK hM (wt_rc_X0 wt_h1) cw_X3_229 hd_X0_wealth rfl ⟨qz_b rfl, qz_b rfl⟩ ⟨rfl, rfl⟩ hl.1 rfl (qz_b rfl) dX3_swap_94 hf (fun _ _ h9 => c_X0_wealth wt_h1 h9) (fun r3 s4 H locs hf hM => ?_)
    refine lv_aload_n hx hb dX3_swap_97 rfl (lv_at hl 1 rfl) ?_
    refine gf_X3_house  hx hb hts hown hK hM tw_114 dX3_swap_98 ?_
    refine lv_iload hx hb dX3_swap_101 (lv_at hl 6 rfl) ?_
    refine lv_iload_n hx hb dX3_swap_103 rfl (lv_at hl 2 rfl) ?_
    refine wt_callVi (As := [.int x6, .int x1]) (rest := [.int r3]) hx hb hml hts hown hK hM (wt_rc_X0 wt_h1) cw_X3_229 hd_X0_wealth rfl ⟨qz_b rfl, qz_b rfl⟩ ⟨rfl, rfl⟩ hl.1 rfl (qz_b rfl) dX3_swap_104 hf (fun _ _ h9 => c_X0_wealth wt_h1 h9) (fun r5 s6 H locs hf hM => ?_)
    refine lv_iadd hx hb dX3_swap_107 ?_
    refine lv_istore (lv' := [(8, .int (r3 + r5)), (7, .int r1), (0, .ref (B + 0)), (1, .int x1), (3, .int x3), (4, .int x4), (5, .int x5), (6, .int x6)]) hx hb dX3_swap_108 hl (by decide) rfl (fun ls hl => ?_)
    refine lv_iload hx hb dX3_swap_110 (lv_at hl 1 rfl) ?_
    refine lv_iload hx hb dX3_swap_112 (lv_at hl 0 rfl) ?_
    refine wq_icmp_le (tgt := 137) hx hb dX3_swap_114 (by decide) hf (fun hf => ?_) (fun hf => ?_)
    · exact w_X3_swap_137 C hk46 ih hf hM (lv_sub hl [2, 3, 4, 5, 6, 7] rfl)
    refine lv_iload hx hb dX3_swap_117 (lv_at hl 1 rfl) ?_
    refine lv_iload hx hb dX3_swap_119 (lv_at hl 5 rfl) ?_
    refine wq_icmp_le (tgt := 137) hx hb dX3_swap_121 (by decide) hf (fun hf => ?_) (fun hf => ?_)
    · exact w_X3_swap_137 C hk46 ih hf hM (lv_sub hl [2, 3, 4, 5, 6, 7] rfl)
    refine lv_iload hx hb dX3_swap_124 (lv_at hl 1 rfl) ?_
    refine lv_istore (lv' := [(4, .int r1), (8, .int (r3 + r5)), (7, .int r1), (0, .ref (B + 0)), (1, .int x1), (3, .int x3), (5, .int x5), (6, .int x6)]) hx hb dX3_swap_126 hl (by decide) rfl (fun ls hl => ?_)
    refine lv_bipush (v := 10) hx hb dX3_swap_128 (by decide) ?_
    refine lv_iload hx hb dX3_swap_130 (lv_at hl 6 rfl) ?_
    refine lv_imul hx hb dX3_swap_132 ?_
    refine lv_iload hx hb dX3_swap_133 (lv_at hl 7 rfl) ?_
    refine lv_iadd hx hb dX3_swap_135 ?_
    refine wt_leti hf (fun z7 hf => ?_)
    refine lv_istore_n (lv' := [(3, .int z7), (4, .int r1), (8, .int (r3 + r5)), (7, .int r1), (0, .ref (B + 0)), (1, .int x1), (5, .int x5), (6, .int x6)]) hx hb dX3_swap_136 rfl hl (by decide) rfl (fun ls hl => ?_)
    exact w_X3_swap_137 C hk46 ih hf hM (lv_sub hl [4, 5, 0, 1, 6, 7] rfl)
set_option maxHeartbeats 4000000 in
set_option maxRecDepth 100000 in
theorem w_X3_swap_46 (C : wt_C p s m args meth c RX3 cX3_swap 9 (some .int) D tI tII) {F : Nat} {x1 : Int32} {r : Int32} {σ' : Mem} : ∀ (N : Nat) (x3 : Int32) (x4 : Int32) (x5 : Int32) (σ : Mem) (H : Heap) (locs : List Loc) (ls : Array Slot), lp_X3_swap_46 F x1 N x3 x4 x5 σ = some (r, σ') → wt_St D tI tII B σ s H locs → lv_has ls 9 [(0, .ref (B + 0)), (1, .int x1), (3, .int x3), (4, .int x4), (5, .int x5)] → W p l e rm_X3_swap s m args below meth c H locs 0 0 (MQ below (wt_Qi D tI tII B r σ') args s 0 0 (fun q => B ≤ q)) (F0 m 46 ls []) := by
  obtain ⟨hx, hb, hts, hown, hml, hr, hlk, hK⟩ := id C
  intro N
  induction N with
  | zero => intro x3 x4 x5 σ H locs ls hf; exact wt_none (show (none : Option (Int32 × Mem)) = some (r, σ') from hf)
  | succ N ih =>
    intro x3 x4 x5 σ H locs ls hf hM hl
    replace hf := Eq.trans lp_X3_swap_46_s.symm hf
    refine lv_iload hx hb dX3_swap_46 (lv_at hl 4 rfl) ?_
    refine lv_aload_n hx hb dX3_swap_48 rfl (lv_at hl 0 rfl) ?_
    refine gf_X3_house  hx hb hts hown hK hM tw_114 dX3_swap_49 ?_
    refine gf_X0_lookerCount wt_h1 hx hb hts hown hK hM tw_31 dX3_swap_52 ?_
    refine wq_icmp_ge (tgt := 149) hx hb dX3_swap_55 (by decide) hf (fun hf => ?_) (fun hf => ?_)
    · refine lv_iload_n hx hb dX3_swap_149 rfl (lv_at hl 2 rfl) ?_
      exact wt_iret hx hb hr hlk hK hM hf dX3_swap_150
    refine lv_iload hx hb dX3_swap_58 (lv_at hl 4 rfl) ?_
    refine lv_iconst (v := 1) hx hb dX3_swap_60 (by decide) ?_
    refine lv_iadd hx hb dX3_swap_61 ?_
    refine lv_istore (lv' := [(6, .int (x5 + (1 : Int32))), (0, .ref (B + 0)), (1, .int x1), (3, .int x3), (4, .int x4), (5, .int x5)]) hx hb dX3_swap_62 hl (by decide) rfl (fun ls hl => ?_)
    exact w_X3_swap_64 C ih _ _ _ _ _ _ _ _ hf hM (lv_sub hl [1, 2, 3, 4, 5, 0] rfl)
set_option maxHeartbeats 4000000 in
set_option maxRecDepth 100000 in
theorem w_X3_swap_0 (C : wt_C p s m args meth c RX3 cX3_swap 9 (some .int) D tI tII) {F : Nat} {x1 : Int32} {σ : Mem} {r : Int32} {σ' : Mem} {H : Heap} {locs : List Loc} {ls : Array Slot} (hf : f_X3_swap F x1 σ = some (r, σ')) (hM : wt_St D tI tII B σ s H locs) (hl : lv_has ls 9 [(0, .ref (B + 0)), (1, .int x1)]) : W p l e rm_X3_swap s m args below meth c H locs 0 0 (MQ below (wt_Qi D tI tII B r σ') args s 0 0 (fun q => B ≤ q)) (F0 m 0 ls []) := by
  obtain ⟨hx, hb, hts, hown, hml, hr, hlk, hK⟩ := id C
  replace hf := Eq.trans f_X3_swap_e.symm hf
  refine lv_iload_n hx hb dX3_swap_0 rfl (lv_at hl 1 rfl) ?_
  refine lv_iconst (v := 0) hx hb dX3_swap_1 (by decide) ?_
  refine lv_sipush (v := 999) hx hb dX3_swap_2 (by decide) ?_
  refine wt_callSi (As := [.int x1, .int (0 : Int32), .int (999 : Int32)]) (rest := []) hx hb hml hts hown hK hM cw_X3_81 hd_X3_outside rfl ⟨qz_b rfl, qz_b rfl⟩ ⟨rfl, rfl⟩ hl.1 rfl (qz_b rfl) dX3_swap_5 hf (fun _ _ h9 => c_X3_outside h9) (fun r8 s9 H locs hf hM => ?_)
  refine lv_istore_n (lv' := [(2, .int r8), (0, .ref (B + 0)), (1, .int x1)]) hx hb dX3_swap_8 rfl hl (by decide) rfl (fun ls hl => ?_)
  refine lv_iload_n hx hb dX3_swap_9 rfl (lv_at hl 0 rfl) ?_
  refine wq_if_eq (tgt := 19) hx hb dX3_swap_10 (by decide) hf (fun hf => ?_) (fun hf => ?_)
  · refine lv_aload_n hx hb dX3_swap_19 rfl (lv_at hl 1 rfl) ?_
    refine gf_X3_house  hx hb hts hown hK hM tw_114 dX3_swap_20 ?_
    refine wt_callVv (As := []) (rest := []) hx hb hml hts hown hK hM (wt_rc_X0 wt_h1) cw_X3_141 hd_X0_reckon rfl ⟨qz_b rfl, qz_b rfl⟩ ⟨rfl, rfl⟩ hl.1 rfl (qz_b rfl) dX3_swap_23 hf (fun _ _ h9 => c_X0_reckon wt_h1 h9) (fun r10 s11 H locs hf hM => ?_)
    refine lv_aload_n hx hb dX3_swap_26 rfl (lv_at hl 1 rfl) ?_
    refine gf_X3_mind  hx hb hts hown hK hM tw_115 dX3_swap_27 ?_
    refine lv_aload_n hx hb dX3_swap_30 rfl (lv_at hl 1 rfl) ?_
    refine gf_X3_house  hx hb hts hown hK hM tw_114 dX3_swap_31 ?_
    refine wt_callVv (As := [.ref (B + 1)]) (rest := []) hx hb hml hts hown hK hM (wt_rc_X0 wt_h24) cw_X3_106 hd_X0_takeFrom rfl ⟨qz_b rfl, qz_b rfl⟩ ⟨rfl, rfl⟩ hl.1 rfl (qz_b rfl) dX3_swap_34 hf (fun _ _ h9 => c_X0_takeFrom wt_h24 wt_h1 h9) (fun r12 s13 H locs hf hM => ?_)
    refine lv_bipush (v := -9) hx hb dX3_swap_37 (by decide) ?_
    refine lv_istore_n (lv' := [(3, .int (-9 : Int32)), (2, .int r8), (0, .ref (B + 0)), (1, .int x1)]) hx hb dX3_swap_39 rfl hl (by decide) rfl (fun ls hl => ?_)
    refine lv_iconst (v := -1) hx hb dX3_swap_40 (by decide) ?_
    refine lv_istore (lv' := [(4, .int (-1 : Int32)), (3, .int (-9 : Int32)), (2, .int r8), (0, .ref (B + 0)), (1, .int x1)]) hx hb dX3_swap_41 hl (by decide) rfl (fun ls hl => ?_)
    refine lv_iconst (v := 0) hx hb dX3_swap_43 (by decide) ?_
    refine lv_istore (lv' := [(5, .int (0 : Int32)), (4, .int (-1 : Int32)), (3, .int (-9 : Int32)), (2, .int r8), (0, .ref (B + 0)), (1, .int x1)]) hx hb dX3_swap_44 hl (by decide) rfl (fun ls hl => ?_)
    exact w_X3_swap_46 C _ _ _ _ _ _ _ _ hf hM (lv_sub hl [4, 5, 2, 1, 0] rfl)
  refine lv_aload_n hx hb dX3_swap_13 rfl (lv_at hl 1 rfl) ?_
  refine lv_iload_n hx hb dX3_swap_14 rfl (lv_at hl 0 rfl) ?_
  refine wt_callVi (As := [.int r8]) (rest := []) hx hb hml hts hown hK hM wt_rc_X3 cw_X3_61 hd_X3_refuse rfl ⟨qz_b rfl, qz_b rfl⟩ ⟨rfl, rfl⟩ hl.1 rfl (qz_b rfl) dX3_swap_15 hf (fun _ _ h9 => c_X3_refuse h9) (fun r14 s15 H locs hf hM => ?_)
  exact wt_iret hx hb hr hlk hK hM hf dX3_swap_18
end
set_option maxHeartbeats 4000000 in
set_option maxRecDepth 100000 in
theorem c_X3_swap {l : Launch} {D : va_G} {tI tII : ClassId} {B F : Nat} {x1 : Int32} {σ σ' : Mem} {r : Int32} (hf : f_X3_swap F x1 σ = some (r, σ')) : wt_Mi l yX3_swap cX3_swap 9 (some .int) rm_X3_swap [.ref (B + 0), .int x1] D tI tII B σ r σ' := by
  refine Met.ofW (cc := cX3_swap) (maxL := 9) (ret := (some .int)) (by decide) rfl ?_
  intro p e s m args below meth c s₁ B9 hml hv
  obtain ⟨rfl, hP, hK⟩ := hv
  have hl := lv_entry ([.ref (B + 0), .int x1]) (n := 9) (qz_b rfl)
  rw [lg_entry_eq]
  generalize (lg_sl ([.ref (B + 0), .int x1]) ++ List.replicate (9 - (lg_sl ([.ref (B + 0), .int x1])).length) Slot.unset).toArray = ls at hl ⊢
  exact w_X3_swap_0 (wt_C_of B9 hml hK) hf ⟨hP, va_S.rf⟩ hl
section
variable {p : Program} {l : Launch} {e : Env} {s : State} {m : MethodId} {args : Array Value} {below : List Frame} {meth : Method} {c : Code} {D : va_G} {tI tII : ClassId} {B : Nat}
set_option maxHeartbeats 4000000 in
set_option maxRecDepth 100000 in
theorem w_X3_heir_65 (C : wt_C p s m args meth c RX3 cX3_heir 6 (some .int) D tI tII) {F : Nat} {x1 : Int32} {x2 : Int32} {x3 : Int32} {r : Int32} {σ' : Mem} : ∀ (N : Nat) (x5 : Int32) (σ : Mem) (H : Heap) (locs : List Loc) (ls : Array Slot), lp_X3_heir_65 F x1 x2 x3 N x5 σ = some (r, σ') → wt_St D tI tII B σ s H locs → lv_has ls 6 [(0, .ref (B + 0)), (1, .int x1), (2, .int x2), (3, .int x3), (5, .int x5)] → W p l e rm_X3_heir s m args below meth c H locs 0 0 (MQ below (wt_Qi D tI tII B r σ') args s 0 0 (fun q => B ≤ q)) (F0 m 65 ls []) := by
  obtain ⟨hx, hb, hts, hown, hml, hr, hlk, hK⟩ := id C
  intro N
  induction N with
  | zero => intro x5 σ H locs ls hf; exact wt_none (show (none : Option (Int32 × Mem)) = some (r, σ') from hf)
  | succ N ih =>
    intro x5 σ H locs ls hf hM hl
    replace hf := Eq.trans lp_X3_heir_65_s.symm hf
    refine lv_iload hx hb dX3_heir_65 (lv_at hl 4 rfl) ?_
    refine lv_bipush (v := 8) hx hb dX3_heir_67 (by decide) ?_
    refine wq_icmp_ge (tgt := 91) hx hb dX3_heir_69 (by decide) hf (fun hf => ?_) (fun hf => ?_)
    · refine lv_aload_n hx hb dX3_heir_91 rfl (lv_at hl 0 rfl) ?_
      refine gf_X3_mind  hx hb hts hown hK hM tw_115 dX3_heir_92 ?_
      refine wt_callVv (As := []) (rest := []) hx hb hml hts hown hK hM (wt_rc_X0 wt_h24) cw_X3_141 hd_X0_reckon rfl ⟨qz_b rfl, qz_b rfl⟩ ⟨rfl, rfl⟩ hl.1 rfl (qz_b rfl) dX3_heir_95 hf (fun _ _ h9 => c_X0_reckon wt_h24 h9) (fun r1 s2 H locs hf hM => ?_)
      refine lv_aload_n hx hb dX3_heir_98 rfl (lv_at hl 0 rfl) ?_
      refine gf_X3_mind  hx hb hts hown hK hM tw_115 dX3_heir_99 ?_
      refine lv_iload_n hx hb dX3_heir_102 rfl (lv_at hl 2 rfl) ?_
      refine lv_iload_n hx hb dX3_heir_103 rfl (lv_at hl 3 rfl) ?_
      refine wt_callVi (As := [.int x2, .int x3]) (rest := []) hx hb hml hts hown hK hM (wt_rc_X0 wt_h24) cw_X3_223 hd_X0_holder rfl ⟨qz_b rfl, qz_b rfl⟩ ⟨rfl, rfl⟩ hl.1 rfl (qz_b rfl) dX3_heir_104 hf (fun _ _ h9 => c_X0_holder wt_h24 h9) (fun r3 s4 H locs hf hM => ?_)
      exact wt_iret hx hb hr hlk hK hM hf dX3_heir_107
    refine lv_aload_n hx hb dX3_heir_72 rfl (lv_at hl 0 rfl) ?_
    refine gf_X3_mind  hx hb hts hown hK hM tw_115 dX3_heir_73 ?_
    refine gf_X0_counts wt_h24 hx hb hts hown hK hM tw_39 dX3_heir_76 ?_
    refine lv_iload_n hx hb dX3_heir_79 rfl (lv_at hl 1 rfl) ?_
    obtain ⟨i5, hf⟩ := wt_chk_of hf
    refine wt_ald hx hb hK hM (wt_aaH_10 wt_h24) i5 dX3_heir_80 ?_
    refine lv_iload hx hb dX3_heir_81 (lv_at hl 4 rfl) ?_
    refine lv_iconst (v := 0) hx hb dX3_heir_83 (by decide) ?_
    obtain ⟨i6, hf⟩ := wt_chk_of hf
    refine wt_ist hx hb hK hM (wt_rH_10 wt_h24 i5) i6 dX3_heir_84 hf (fun s7 H locs hf hM => ?_)
    refine lv_iinc (v := (x5 + (1 : Int32))) (lv' := [(5, .int (x5 + (1 : Int32))), (0, .ref (B + 0)), (1, .int x1), (2, .int x2), (3, .int x3)]) hx hb dX3_heir_85 hl (k := 4) rfl rfl (by decide) rfl (fun ls hl => ?_)
    refine lv_goto (tgt := 65) hx hb dX3_heir_88 (by decide) ?_
    exact ih _ _ _ _ _ hf hM (lv_sub hl [1, 2, 3, 4, 0] rfl)
set_option maxHeartbeats 4000000 in
set_option maxRecDepth 100000 in
theorem w_X3_heir_0 (C : wt_C p s m args meth c RX3 cX3_heir 6 (some .int) D tI tII) {F : Nat} {x1 : Int32} {x2 : Int32} {x3 : Int32} {σ : Mem} {r : Int32} {σ' : Mem} {H : Heap} {locs : List Loc} {ls : Array Slot} (hf : f_X3_heir F x1 x2 x3 σ = some (r, σ')) (hM : wt_St D tI tII B σ s H locs) (hl : lv_has ls 6 [(0, .ref (B + 0)), (1, .int x1), (2, .int x2), (3, .int x3)]) : W p l e rm_X3_heir s m args below meth c H locs 0 0 (MQ below (wt_Qi D tI tII B r σ') args s 0 0 (fun q => B ≤ q)) (F0 m 0 ls []) := by
  obtain ⟨hx, hb, hts, hown, hml, hr, hlk, hK⟩ := id C
  replace hf := Eq.trans f_X3_heir_e.symm hf
  refine lv_aload_n hx hb dX3_heir_0 rfl (lv_at hl 0 rfl) ?_
  refine lv_iload_n hx hb dX3_heir_1 rfl (lv_at hl 1 rfl) ?_
  refine wt_callVi (As := [.int x1]) (rest := []) hx hb hml hts hown hK hM wt_rc_X3 cw_X3_78 hd_X3_noLooker rfl ⟨qz_b rfl, qz_b rfl⟩ ⟨rfl, rfl⟩ hl.1 rfl (qz_b rfl) dX3_heir_2 hf (fun _ _ h9 => c_X3_noLooker h9) (fun r8 s9 H locs hf hM => ?_)
  refine lv_iload_n hx hb dX3_heir_5 rfl (lv_at hl 2 rfl) ?_
  refine wt_callSi (As := [.int x2]) (rest := [.int r8]) hx hb hml hts hown hK hM cw_X3_174 hd_X3_noView rfl ⟨qz_b rfl, qz_b rfl⟩ ⟨rfl, rfl⟩ hl.1 rfl (qz_b rfl) dX3_heir_6 hf (fun _ _ h9 => c_X3_noView h9) (fun r10 s11 H locs hf hM => ?_)
  refine wt_callSi (As := [.int r8, .int r10]) (rest := []) hx hb hml hts hown hK hM cw_X3_85 hd_X3_firstOf rfl ⟨qz_b rfl, qz_b rfl⟩ ⟨rfl, rfl⟩ hl.1 rfl (qz_b rfl) dX3_heir_9 hf (fun _ _ h9 => c_X3_firstOf h9) (fun r12 s13 H locs hf hM => ?_)
  refine lv_iload_n hx hb dX3_heir_12 rfl (lv_at hl 3 rfl) ?_
  refine lv_iconst (v := 0) hx hb dX3_heir_13 (by decide) ?_
  refine lv_sipush (v := 999) hx hb dX3_heir_14 (by decide) ?_
  refine wt_callSi (As := [.int x3, .int (0 : Int32), .int (999 : Int32)]) (rest := [.int r12]) hx hb hml hts hown hK hM cw_X3_81 hd_X3_outside rfl ⟨qz_b rfl, qz_b rfl⟩ ⟨rfl, rfl⟩ hl.1 rfl (qz_b rfl) dX3_heir_17 hf (fun _ _ h9 => c_X3_outside h9) (fun r14 s15 H locs hf hM => ?_)
  refine wt_callSi (As := [.int r12, .int r14]) (rest := []) hx hb hml hts hown hK hM cw_X3_85 hd_X3_firstOf rfl ⟨qz_b rfl, qz_b rfl⟩ ⟨rfl, rfl⟩ hl.1 rfl (qz_b rfl) dX3_heir_20 hf (fun _ _ h9 => c_X3_firstOf h9) (fun r16 s17 H locs hf hM => ?_)
  refine lv_istore (lv' := [(4, .int r16), (0, .ref (B + 0)), (1, .int x1), (2, .int x2), (3, .int x3)]) hx hb dX3_heir_23 hl (by decide) rfl (fun ls hl => ?_)
  refine lv_iload hx hb dX3_heir_25 (lv_at hl 0 rfl) ?_
  refine wq_if_eq (tgt := 37) hx hb dX3_heir_27 (by decide) hf (fun hf => ?_) (fun hf => ?_)
  · refine lv_aload_n hx hb dX3_heir_37 rfl (lv_at hl 1 rfl) ?_
    refine gf_X3_mind  hx hb hts hown hK hM tw_115 dX3_heir_38 ?_
    refine lv_aload_n hx hb dX3_heir_41 rfl (lv_at hl 1 rfl) ?_
    refine gf_X3_house  hx hb hts hown hK hM tw_114 dX3_heir_42 ?_
    refine wt_callVv (As := [.ref (B + 1)]) (rest := []) hx hb hml hts hown hK hM (wt_rc_X0 wt_h24) cw_X3_106 hd_X0_takeFrom rfl ⟨qz_b rfl, qz_b rfl⟩ ⟨rfl, rfl⟩ hl.1 rfl (qz_b rfl) dX3_heir_45 hf (fun _ _ h9 => c_X0_takeFrom wt_h24 wt_h1 h9) (fun r18 s19 H locs hf hM => ?_)
    refine lv_aload_n hx hb dX3_heir_48 rfl (lv_at hl 1 rfl) ?_
    refine gf_X3_mind  hx hb hts hown hK hM tw_115 dX3_heir_49 ?_
    refine lv_iload_n hx hb dX3_heir_52 rfl (lv_at hl 2 rfl) ?_
    refine lv_iconst (v := 0) hx hb dX3_heir_53 (by decide) ?_
    refine lv_bipush (v := 23) hx hb dX3_heir_54 (by decide) ?_
    refine lv_bipush (v := 9) hx hb dX3_heir_56 (by decide) ?_
    refine wt_callVi (As := [.int x1, .int (0 : Int32), .int (23 : Int32), .int (9 : Int32)]) (rest := []) hx hb hml hts hown hK hM (wt_rc_X0 wt_h24) cw_X3_170 hd_X0_post rfl ⟨qz_b rfl, qz_b rfl⟩ ⟨rfl, rfl⟩ hl.1 rfl (qz_b rfl) dX3_heir_58 hf (fun _ _ h9 => c_X0_post wt_h24 h9) (fun r20 s21 H locs hf hM => ?_)
    refine lv_pop hx hb dX3_heir_61 rfl ?_
    refine lv_iconst (v := 0) hx hb dX3_heir_62 (by decide) ?_
    refine lv_istore (lv' := [(5, .int (0 : Int32)), (4, .int r16), (0, .ref (B + 0)), (1, .int x1), (2, .int x2), (3, .int x3)]) hx hb dX3_heir_63 hl (by decide) rfl (fun ls hl => ?_)
    exact w_X3_heir_65 C _ _ _ _ _ _ hf hM (lv_sub hl [2, 3, 4, 5, 0] rfl)
  refine lv_aload_n hx hb dX3_heir_30 rfl (lv_at hl 1 rfl) ?_
  refine lv_iload hx hb dX3_heir_31 (lv_at hl 0 rfl) ?_
  refine wt_callVi (As := [.int r16]) (rest := []) hx hb hml hts hown hK hM wt_rc_X3 cw_X3_61 hd_X3_refuse rfl ⟨qz_b rfl, qz_b rfl⟩ ⟨rfl, rfl⟩ hl.1 rfl (qz_b rfl) dX3_heir_33 hf (fun _ _ h9 => c_X3_refuse h9) (fun r22 s23 H locs hf hM => ?_)
  exact wt_iret hx hb hr hlk hK hM hf dX3_heir_36
end
set_option maxHeartbeats 4000000 in
set_option maxRecDepth 100000 in
theorem c_X3_heir {l : Launch} {D : va_G} {tI tII : ClassId} {B F : Nat} {x1 : Int32} {x2 : Int32} {x3 : Int32} {σ σ' : Mem} {r : Int32} (hf : f_X3_heir F x1 x2 x3 σ = some (r, σ')) : wt_Mi l yX3_heir cX3_heir 6 (some .int) rm_X3_heir [.ref (B + 0), .int x1, .int x2, .int x3] D tI tII B σ r σ' := by
  refine Met.ofW (cc := cX3_heir) (maxL := 6) (ret := (some .int)) (by decide) rfl ?_
  intro p e s m args below meth c s₁ B9 hml hv
  obtain ⟨rfl, hP, hK⟩ := hv
  have hl := lv_entry ([.ref (B + 0), .int x1, .int x2, .int x3]) (n := 6) (qz_b rfl)
  rw [lg_entry_eq]
  generalize (lg_sl ([.ref (B + 0), .int x1, .int x2, .int x3]) ++ List.replicate (6 - (lg_sl ([.ref (B + 0), .int x1, .int x2, .int x3])).length) Slot.unset).toArray = ls at hl ⊢
  exact w_X3_heir_0 (wt_C_of B9 hml hK) hf ⟨hP, va_S.rf⟩ hl
section
variable {p : Program} {l : Launch} {e : Env} {s : State} {m : MethodId} {args : Array Value} {below : List Frame} {meth : Method} {c : Code} {D : va_G} {tI tII : ClassId} {B : Nat}
set_option maxHeartbeats 4000000 in
set_option maxRecDepth 100000 in
theorem w_X3_even_79 (C : wt_C p s m args meth c RX3 cX3_even 6 (some .int) D tI tII) {F : Nat} {k31 : Int32 → Int32 → Mem → Option (Int32 × Mem)} {k49 : Int32 → Int32 → Mem → Option (Int32 × Mem)} {x1 : Int32} {x3 : Int32} {x4 : Int32} {x5 : Int32} {σ : Mem} {r : Int32} {σ' : Mem} {H : Heap} {locs : List Loc} {ls : Array Slot} (hk31 : ∀ (x3 : Int32) (x4 : Int32) (σ : Mem) (H : Heap) (locs : List Loc) (ls : Array Slot), k31 x3 x4 σ = some (r, σ') → wt_St D tI tII B σ s H locs → lv_has ls 6 [(0, .ref (B + 0)), (1, .int x1), (3, .int x3), (4, .int x4)] → W p l e rm_X3_even s m args below meth c H locs 0 0 (MQ below (wt_Qi D tI tII B r σ') args s 0 0 (fun q => B ≤ q)) (F0 m 31 ls [])) (hk49 : ∀ (x3 : Int32) (x5 : Int32) (σ : Mem) (H : Heap) (locs : List Loc) (ls : Array Slot), k49 x3 x5 σ = some (r, σ') → wt_St D tI tII B σ s H locs → lv_has ls 6 [(0, .ref (B + 0)), (1, .int x1), (3, .int x3), (4, .int x4), (5, .int x5)] → W p l e rm_X3_even s m args below meth c H locs 0 0 (MQ below (wt_Qi D tI tII B r σ') args s 0 0 (fun q => B ≤ q)) (F0 m 49 ls [])) (hf : j_X3_even_79 F k31 k49 x1 x3 x4 x5 σ = some (r, σ')) (hM : wt_St D tI tII B σ s H locs) (hl : lv_has ls 6 [(0, .ref (B + 0)), (1, .int x1), (3, .int x3), (4, .int x4), (5, .int x5)]) : W p l e rm_X3_even s m args below meth c H locs 0 0 (MQ below (wt_Qi D tI tII B r σ') args s 0 0 (fun q => B ≤ q)) (F0 m 79 ls []) := by
  obtain ⟨hx, hb, hts, hown, hml, hr, hlk, hK⟩ := id C
  replace hf := Eq.trans j_X3_even_79_e.symm hf
  refine lv_iinc (v := (x5 + (1 : Int32))) (lv' := [(5, .int (x5 + (1 : Int32))), (0, .ref (B + 0)), (1, .int x1), (3, .int x3), (4, .int x4)]) hx hb dX3_even_79 hl (k := 4) rfl rfl (by decide) rfl (fun ls hl => ?_)
  refine lv_goto (tgt := 49) hx hb dX3_even_82 (by decide) ?_
  exact hk49 _ _ _ _ _ _ hf hM (lv_sub hl [1, 2, 3, 4, 0] rfl)
set_option maxHeartbeats 4000000 in
set_option maxRecDepth 100000 in
theorem w_X3_even_49 (C : wt_C p s m args meth c RX3 cX3_even 6 (some .int) D tI tII) {F : Nat} {k31 : Int32 → Int32 → Mem → Option (Int32 × Mem)} {x1 : Int32} {x4 : Int32} {r : Int32} {σ' : Mem} (hk31 : ∀ (x3 : Int32) (x4 : Int32) (σ : Mem) (H : Heap) (locs : List Loc) (ls : Array Slot), k31 x3 x4 σ = some (r, σ') → wt_St D tI tII B σ s H locs → lv_has ls 6 [(0, .ref (B + 0)), (1, .int x1), (3, .int x3), (4, .int x4)] → W p l e rm_X3_even s m args below meth c H locs 0 0 (MQ below (wt_Qi D tI tII B r σ') args s 0 0 (fun q => B ≤ q)) (F0 m 31 ls [])) : ∀ (N : Nat) (x3 : Int32) (x5 : Int32) (σ : Mem) (H : Heap) (locs : List Loc) (ls : Array Slot), lp_X3_even_49 F k31 x1 x4 N x3 x5 σ = some (r, σ') → wt_St D tI tII B σ s H locs → lv_has ls 6 [(0, .ref (B + 0)), (1, .int x1), (3, .int x3), (4, .int x4), (5, .int x5)] → W p l e rm_X3_even s m args below meth c H locs 0 0 (MQ below (wt_Qi D tI tII B r σ') args s 0 0 (fun q => B ≤ q)) (F0 m 49 ls []) := by
  obtain ⟨hx, hb, hts, hown, hml, hr, hlk, hK⟩ := id C
  intro N
  induction N with
  | zero => intro x3 x5 σ H locs ls hf; exact wt_none (show (none : Option (Int32 × Mem)) = some (r, σ') from hf)
  | succ N ih =>
    intro x3 x5 σ H locs ls hf hM hl
    replace hf := Eq.trans lp_X3_even_49_s.symm hf
    refine lv_iload hx hb dX3_even_49 (lv_at hl 4 rfl) ?_
    refine lv_aload_n hx hb dX3_even_51 rfl (lv_at hl 0 rfl) ?_
    refine gf_X3_house  hx hb hts hown hK hM tw_114 dX3_even_52 ?_
    refine gf_X0_lookerCount wt_h1 hx hb hts hown hK hM tw_31 dX3_even_55 ?_
    refine wq_icmp_ge (tgt := 85) hx hb dX3_even_58 (by decide) hf (fun hf => ?_) (fun hf => ?_)
    · refine lv_iinc (v := (x4 + (1 : Int32))) (lv' := [(4, .int (x4 + (1 : Int32))), (0, .ref (B + 0)), (1, .int x1), (3, .int x3), (5, .int x5)]) hx hb dX3_even_85 hl (k := 3) rfl rfl (by decide) rfl (fun ls hl => ?_)
      refine lv_goto (tgt := 31) hx hb dX3_even_88 (by decide) ?_
      exact hk31 _ _ _ _ _ _ hf hM (lv_sub hl [1, 2, 3, 0] rfl)
    refine lv_aload_n hx hb dX3_even_61 rfl (lv_at hl 0 rfl) ?_
    refine gf_X3_house  hx hb hts hown hK hM tw_114 dX3_even_62 ?_
    refine lv_iload hx hb dX3_even_65 (lv_at hl 3 rfl) ?_
    refine lv_iload hx hb dX3_even_67 (lv_at hl 4 rfl) ?_
    refine lv_iload_n hx hb dX3_even_69 rfl (lv_at hl 1 rfl) ?_
    refine wt_callVi (As := [.int x4, .int x5, .int x1]) (rest := []) hx hb hml hts hown hK hM (wt_rc_X0 wt_h1) cw_X3_303 hd_X0_lead rfl ⟨qz_b rfl, qz_b rfl⟩ ⟨rfl, rfl⟩ hl.1 rfl (qz_b rfl) dX3_even_70 hf (fun _ _ h9 => c_X0_lead wt_h1 h9) (fun r1 s2 H locs hf hM => ?_)
    refine wq_if_ne (tgt := 79) hx hb dX3_even_73 (by decide) hf (fun hf => ?_) (fun hf => ?_)
    · exact w_X3_even_79 C hk31 ih hf hM hl
    refine lv_iinc (v := (x3 + (1 : Int32))) (lv' := [(3, .int (x3 + (1 : Int32))), (0, .ref (B + 0)), (1, .int x1), (4, .int x4), (5, .int x5)]) hx hb dX3_even_76 hl (k := 2) rfl rfl (by decide) rfl (fun ls hl => ?_)
    exact w_X3_even_79 C hk31 ih hf hM (lv_sub hl [1, 2, 0, 3, 4] rfl)
set_option maxHeartbeats 4000000 in
set_option maxRecDepth 100000 in
theorem w_X3_even_31 (C : wt_C p s m args meth c RX3 cX3_even 6 (some .int) D tI tII) {F : Nat} {x1 : Int32} {r : Int32} {σ' : Mem} : ∀ (N : Nat) (x3 : Int32) (x4 : Int32) (σ : Mem) (H : Heap) (locs : List Loc) (ls : Array Slot), lp_X3_even_31 F x1 N x3 x4 σ = some (r, σ') → wt_St D tI tII B σ s H locs → lv_has ls 6 [(0, .ref (B + 0)), (1, .int x1), (3, .int x3), (4, .int x4)] → W p l e rm_X3_even s m args below meth c H locs 0 0 (MQ below (wt_Qi D tI tII B r σ') args s 0 0 (fun q => B ≤ q)) (F0 m 31 ls []) := by
  obtain ⟨hx, hb, hts, hown, hml, hr, hlk, hK⟩ := id C
  intro N
  induction N with
  | zero => intro x3 x4 σ H locs ls hf; exact wt_none (show (none : Option (Int32 × Mem)) = some (r, σ') from hf)
  | succ N ih =>
    intro x3 x4 σ H locs ls hf hM hl
    replace hf := Eq.trans lp_X3_even_31_s.symm hf
    refine lv_iload hx hb dX3_even_31 (lv_at hl 3 rfl) ?_
    refine lv_aload_n hx hb dX3_even_33 rfl (lv_at hl 0 rfl) ?_
    refine gf_X3_house  hx hb hts hown hK hM tw_114 dX3_even_34 ?_
    refine gf_X0_lookerCount wt_h1 hx hb hts hown hK hM tw_31 dX3_even_37 ?_
    refine wq_icmp_ge (tgt := 91) hx hb dX3_even_40 (by decide) hf (fun hf => ?_) (fun hf => ?_)
    · refine lv_iload_n hx hb dX3_even_91 rfl (lv_at hl 2 rfl) ?_
      exact wt_iret hx hb hr hlk hK hM hf dX3_even_92
    refine lv_iload hx hb dX3_even_43 (lv_at hl 3 rfl) ?_
    refine lv_iconst (v := 1) hx hb dX3_even_45 (by decide) ?_
    refine lv_iadd hx hb dX3_even_46 ?_
    refine lv_istore (lv' := [(5, .int (x4 + (1 : Int32))), (0, .ref (B + 0)), (1, .int x1), (3, .int x3), (4, .int x4)]) hx hb dX3_even_47 hl (by decide) rfl (fun ls hl => ?_)
    exact w_X3_even_49 C ih _ _ _ _ _ _ _ hf hM (lv_sub hl [1, 2, 3, 4, 0] rfl)
set_option maxHeartbeats 4000000 in
set_option maxRecDepth 100000 in
theorem w_X3_even_0 (C : wt_C p s m args meth c RX3 cX3_even 6 (some .int) D tI tII) {F : Nat} {x1 : Int32} {σ : Mem} {r : Int32} {σ' : Mem} {H : Heap} {locs : List Loc} {ls : Array Slot} (hf : f_X3_even F x1 σ = some (r, σ')) (hM : wt_St D tI tII B σ s H locs) (hl : lv_has ls 6 [(0, .ref (B + 0)), (1, .int x1)]) : W p l e rm_X3_even s m args below meth c H locs 0 0 (MQ below (wt_Qi D tI tII B r σ') args s 0 0 (fun q => B ≤ q)) (F0 m 0 ls []) := by
  obtain ⟨hx, hb, hts, hown, hml, hr, hlk, hK⟩ := id C
  replace hf := Eq.trans f_X3_even_e.symm hf
  refine lv_iload_n hx hb dX3_even_0 rfl (lv_at hl 1 rfl) ?_
  refine lv_iconst (v := 0) hx hb dX3_even_1 (by decide) ?_
  refine lv_sipush (v := 999) hx hb dX3_even_2 (by decide) ?_
  refine wt_callSi (As := [.int x1, .int (0 : Int32), .int (999 : Int32)]) (rest := []) hx hb hml hts hown hK hM cw_X3_81 hd_X3_outside rfl ⟨qz_b rfl, qz_b rfl⟩ ⟨rfl, rfl⟩ hl.1 rfl (qz_b rfl) dX3_even_5 hf (fun _ _ h9 => c_X3_outside h9) (fun r3 s4 H locs hf hM => ?_)
  refine lv_istore_n (lv' := [(2, .int r3), (0, .ref (B + 0)), (1, .int x1)]) hx hb dX3_even_8 rfl hl (by decide) rfl (fun ls hl => ?_)
  refine lv_iload_n hx hb dX3_even_9 rfl (lv_at hl 0 rfl) ?_
  refine wq_if_eq (tgt := 19) hx hb dX3_even_10 (by decide) hf (fun hf => ?_) (fun hf => ?_)
  · refine lv_aload_n hx hb dX3_even_19 rfl (lv_at hl 1 rfl) ?_
    refine gf_X3_house  hx hb hts hown hK hM tw_114 dX3_even_20 ?_
    refine wt_callVv (As := []) (rest := []) hx hb hml hts hown hK hM (wt_rc_X0 wt_h1) cw_X3_141 hd_X0_reckon rfl ⟨qz_b rfl, qz_b rfl⟩ ⟨rfl, rfl⟩ hl.1 rfl (qz_b rfl) dX3_even_23 hf (fun _ _ h9 => c_X0_reckon wt_h1 h9) (fun r5 s6 H locs hf hM => ?_)
    refine lv_iconst (v := 0) hx hb dX3_even_26 (by decide) ?_
    refine lv_istore_n (lv' := [(3, .int (0 : Int32)), (2, .int r3), (0, .ref (B + 0)), (1, .int x1)]) hx hb dX3_even_27 rfl hl (by decide) rfl (fun ls hl => ?_)
    refine lv_iconst (v := 0) hx hb dX3_even_28 (by decide) ?_
    refine lv_istore (lv' := [(4, .int (0 : Int32)), (3, .int (0 : Int32)), (2, .int r3), (0, .ref (B + 0)), (1, .int x1)]) hx hb dX3_even_29 hl (by decide) rfl (fun ls hl => ?_)
    exact w_X3_even_31 C _ _ _ _ _ _ _ hf hM (lv_sub hl [3, 4, 1, 0] rfl)
  refine lv_aload_n hx hb dX3_even_13 rfl (lv_at hl 1 rfl) ?_
  refine lv_iload_n hx hb dX3_even_14 rfl (lv_at hl 0 rfl) ?_
  refine wt_callVi (As := [.int r3]) (rest := []) hx hb hml hts hown hK hM wt_rc_X3 cw_X3_61 hd_X3_refuse rfl ⟨qz_b rfl, qz_b rfl⟩ ⟨rfl, rfl⟩ hl.1 rfl (qz_b rfl) dX3_even_15 hf (fun _ _ h9 => c_X3_refuse h9) (fun r7 s8 H locs hf hM => ?_)
  exact wt_iret hx hb hr hlk hK hM hf dX3_even_18
end
set_option maxHeartbeats 4000000 in
set_option maxRecDepth 100000 in
theorem c_X3_even {l : Launch} {D : va_G} {tI tII : ClassId} {B F : Nat} {x1 : Int32} {σ σ' : Mem} {r : Int32} (hf : f_X3_even F x1 σ = some (r, σ')) : wt_Mi l yX3_even cX3_even 6 (some .int) rm_X3_even [.ref (B + 0), .int x1] D tI tII B σ r σ' := by
  refine Met.ofW (cc := cX3_even) (maxL := 6) (ret := (some .int)) (by decide) rfl ?_
  intro p e s m args below meth c s₁ B9 hml hv
  obtain ⟨rfl, hP, hK⟩ := hv
  have hl := lv_entry ([.ref (B + 0), .int x1]) (n := 6) (qz_b rfl)
  rw [lg_entry_eq]
  generalize (lg_sl ([.ref (B + 0), .int x1]) ++ List.replicate (6 - (lg_sl ([.ref (B + 0), .int x1])).length) Slot.unset).toArray = ls at hl ⊢
  exact w_X3_even_0 (wt_C_of B9 hml hK) hf ⟨hP, va_S.rf⟩ hl
section
variable {p : Program} {l : Launch} {e : Env} {s : State} {m : MethodId} {args : Array Value} {below : List Frame} {meth : Method} {c : Code} {D : va_G} {tI tII : ClassId} {B : Nat}
set_option maxHeartbeats 4000000 in
set_option maxRecDepth 100000 in
theorem w_X3_last_62 (C : wt_C p s m args meth c RX3 cX3_last 5 (some .int) D tI tII) {F : Nat} {k11 : Int32 → Int32 → Mem → Option (Int32 × Mem)} {x2 : Int32} {x4 : Int32} {σ : Mem} {r : Int32} {σ' : Mem} {H : Heap} {locs : List Loc} {ls : Array Slot} (hk11 : ∀ (x1 : Int32) (x2 : Int32) (σ : Mem) (H : Heap) (locs : List Loc) (ls : Array Slot), k11 x1 x2 σ = some (r, σ') → wt_St D tI tII B σ s H locs → lv_has ls 5 [(0, .ref (B + 0)), (1, .int x1), (2, .int x2)] → W p l e rm_X3_last s m args below meth c H locs 0 0 (MQ below (wt_Qi D tI tII B r σ') args s 0 0 (fun q => B ≤ q)) (F0 m 11 ls [])) (hf : j_X3_last_62 F k11 x2 x4 σ = some (r, σ')) (hM : wt_St D tI tII B σ s H locs) (hl : lv_has ls 5 [(0, .ref (B + 0)), (2, .int x2), (4, .int x4)]) : W p l e rm_X3_last s m args below meth c H locs 0 0 (MQ below (wt_Qi D tI tII B r σ') args s 0 0 (fun q => B ≤ q)) (F0 m 62 ls []) := by
  obtain ⟨hx, hb, hts, hown, hml, hr, hlk, hK⟩ := id C
  replace hf := Eq.trans j_X3_last_62_e.symm hf
  refine lv_iload hx hb dX3_last_62 (lv_at hl 2 rfl) ?_
  refine lv_istore_n (lv' := [(1, .int x4), (0, .ref (B + 0)), (2, .int x2), (4, .int x4)]) hx hb dX3_last_64 rfl hl (by decide) rfl (fun ls hl => ?_)
  refine lv_iinc (v := (x2 + (1 : Int32))) (lv' := [(2, .int (x2 + (1 : Int32))), (1, .int x4), (0, .ref (B + 0)), (4, .int x4)]) hx hb dX3_last_65 hl (k := 2) rfl rfl (by decide) rfl (fun ls hl => ?_)
  refine lv_goto (tgt := 11) hx hb dX3_last_68 (by decide) ?_
  exact hk11 _ _ _ _ _ _ hf hM (lv_sub hl [2, 1, 0] rfl)
set_option maxHeartbeats 4000000 in
set_option maxRecDepth 100000 in
theorem w_X3_last_34 (C : wt_C p s m args meth c RX3 cX3_last 5 (some .int) D tI tII) {F : Nat} {k11 : Int32 → Int32 → Mem → Option (Int32 × Mem)} {x1 : Int32} {x2 : Int32} {x3 : Int32} {r : Int32} {σ' : Mem} (hk11 : ∀ (x1 : Int32) (x2 : Int32) (σ : Mem) (H : Heap) (locs : List Loc) (ls : Array Slot), k11 x1 x2 σ = some (r, σ') → wt_St D tI tII B σ s H locs → lv_has ls 5 [(0, .ref (B + 0)), (1, .int x1), (2, .int x2)] → W p l e rm_X3_last s m args below meth c H locs 0 0 (MQ below (wt_Qi D tI tII B r σ') args s 0 0 (fun q => B ≤ q)) (F0 m 11 ls [])) : ∀ (N : Nat) (x4 : Int32) (σ : Mem) (H : Heap) (locs : List Loc) (ls : Array Slot), lp_X3_last_34 F k11 x1 x2 x3 N x4 σ = some (r, σ') → wt_St D tI tII B σ s H locs → lv_has ls 5 [(0, .ref (B + 0)), (1, .int x1), (2, .int x2), (3, .int x3), (4, .int x4)] → W p l e rm_X3_last s m args below meth c H locs 0 0 (MQ below (wt_Qi D tI tII B r σ') args s 0 0 (fun q => B ≤ q)) (F0 m 34 ls []) := by
  obtain ⟨hx, hb, hts, hown, hml, hr, hlk, hK⟩ := id C
  intro N
  induction N with
  | zero => intro x4 σ H locs ls hf; exact wt_none (show (none : Option (Int32 × Mem)) = some (r, σ') from hf)
  | succ N ih =>
    intro x4 σ H locs ls hf hM hl
    replace hf := Eq.trans lp_X3_last_34_s.symm hf
    refine lv_iload hx hb dX3_last_34 (lv_at hl 4 rfl) ?_
    refine lv_iload_n hx hb dX3_last_36 rfl (lv_at hl 1 rfl) ?_
    refine wq_icmp_le (tgt := 62) hx hb dX3_last_37 (by decide) hf (fun hf => ?_) (fun hf => ?_)
    · exact w_X3_last_62 C hk11 hf hM (lv_sub hl [0, 2, 4] rfl)
    refine lv_aload_n hx hb dX3_last_40 rfl (lv_at hl 0 rfl) ?_
    refine gf_X3_house  hx hb hts hown hK hM tw_114 dX3_last_41 ?_
    refine lv_iload_n hx hb dX3_last_44 rfl (lv_at hl 2 rfl) ?_
    refine lv_iload hx hb dX3_last_45 (lv_at hl 4 rfl) ?_
    refine lv_iconst (v := 1) hx hb dX3_last_47 (by decide) ?_
    refine lv_isub hx hb dX3_last_48 ?_
    refine wt_callVi (As := [.int x2, .int (x4 - (1 : Int32))]) (rest := []) hx hb hml hts hown hK hM (wt_rc_X0 wt_h1) cw_X3_223 hd_X0_holder rfl ⟨qz_b rfl, qz_b rfl⟩ ⟨rfl, rfl⟩ hl.1 rfl (qz_b rfl) dX3_last_49 hf (fun _ _ h9 => c_X0_holder wt_h1 h9) (fun r1 s2 H locs hf hM => ?_)
    refine lv_iload_n hx hb dX3_last_52 rfl (lv_at hl 3 rfl) ?_
    refine wq_icmp_ne (tgt := 62) hx hb dX3_last_53 (by decide) hf (fun hf => ?_) (fun hf => ?_)
    · exact w_X3_last_62 C hk11 hf hM (lv_sub hl [0, 2, 4] rfl)
    refine lv_iinc (v := (x4 + (-1 : Int32))) (lv' := [(4, .int (x4 + (-1 : Int32))), (0, .ref (B + 0)), (1, .int x1), (2, .int x2), (3, .int x3)]) hx hb dX3_last_56 hl (k := 4) rfl rfl (by decide) rfl (fun ls hl => ?_)
    refine lv_goto (tgt := 34) hx hb dX3_last_59 (by decide) ?_
    exact ih _ _ _ _ _ hf hM (lv_sub hl [1, 2, 3, 4, 0] rfl)
set_option maxHeartbeats 4000000 in
set_option maxRecDepth 100000 in
theorem w_X3_last_11 (C : wt_C p s m args meth c RX3 cX3_last 5 (some .int) D tI tII) {F : Nat} {r : Int32} {σ' : Mem} : ∀ (N : Nat) (x1 : Int32) (x2 : Int32) (σ : Mem) (H : Heap) (locs : List Loc) (ls : Array Slot), lp_X3_last_11 F N x1 x2 σ = some (r, σ') → wt_St D tI tII B σ s H locs → lv_has ls 5 [(0, .ref (B + 0)), (1, .int x1), (2, .int x2)] → W p l e rm_X3_last s m args below meth c H locs 0 0 (MQ below (wt_Qi D tI tII B r σ') args s 0 0 (fun q => B ≤ q)) (F0 m 11 ls []) := by
  obtain ⟨hx, hb, hts, hown, hml, hr, hlk, hK⟩ := id C
  intro N
  induction N with
  | zero => intro x1 x2 σ H locs ls hf; exact wt_none (show (none : Option (Int32 × Mem)) = some (r, σ') from hf)
  | succ N ih =>
    intro x1 x2 σ H locs ls hf hM hl
    replace hf := Eq.trans lp_X3_last_11_s.symm hf
    refine lv_iload_n hx hb dX3_last_11 rfl (lv_at hl 2 rfl) ?_
    refine lv_bipush (v := 8) hx hb dX3_last_12 (by decide) ?_
    refine wq_icmp_ge (tgt := 71) hx hb dX3_last_14 (by decide) hf (fun hf => ?_) (fun hf => ?_)
    · refine lv_iload_n hx hb dX3_last_71 rfl (lv_at hl 1 rfl) ?_
      exact wt_iret hx hb hr hlk hK hM hf dX3_last_72
    refine lv_aload_n hx hb dX3_last_17 rfl (lv_at hl 0 rfl) ?_
    refine gf_X3_house  hx hb hts hown hK hM tw_114 dX3_last_18 ?_
    refine lv_iload_n hx hb dX3_last_21 rfl (lv_at hl 2 rfl) ?_
    refine lv_sipush (v := 999) hx hb dX3_last_22 (by decide) ?_
    refine wt_callVi (As := [.int x2, .int (999 : Int32)]) (rest := []) hx hb hml hts hown hK hM (wt_rc_X0 wt_h1) cw_X3_223 hd_X0_holder rfl ⟨qz_b rfl, qz_b rfl⟩ ⟨rfl, rfl⟩ hl.1 rfl (qz_b rfl) dX3_last_25 hf (fun _ _ h9 => c_X0_holder wt_h1 h9) (fun r3 s4 H locs hf hM => ?_)
    refine lv_istore_n (lv' := [(3, .int r3), (0, .ref (B + 0)), (1, .int x1), (2, .int x2)]) hx hb dX3_last_28 rfl hl (by decide) rfl (fun ls hl => ?_)
    refine lv_sipush (v := 999) hx hb dX3_last_29 (by decide) ?_
    refine lv_istore (lv' := [(4, .int (999 : Int32)), (3, .int r3), (0, .ref (B + 0)), (1, .int x1), (2, .int x2)]) hx hb dX3_last_32 hl (by decide) rfl (fun ls hl => ?_)
    exact w_X3_last_34 C ih _ _ _ _ _ _ hf hM (lv_sub hl [2, 3, 4, 1, 0] rfl)
set_option maxHeartbeats 4000000 in
set_option maxRecDepth 100000 in
theorem w_X3_last_0 (C : wt_C p s m args meth c RX3 cX3_last 5 (some .int) D tI tII) {F : Nat} {σ : Mem} {r : Int32} {σ' : Mem} {H : Heap} {locs : List Loc} {ls : Array Slot} (hf : f_X3_last F σ = some (r, σ')) (hM : wt_St D tI tII B σ s H locs) (hl : lv_has ls 5 [(0, .ref (B + 0))]) : W p l e rm_X3_last s m args below meth c H locs 0 0 (MQ below (wt_Qi D tI tII B r σ') args s 0 0 (fun q => B ≤ q)) (F0 m 0 ls []) := by
  obtain ⟨hx, hb, hts, hown, hml, hr, hlk, hK⟩ := id C
  replace hf := Eq.trans f_X3_last_e.symm hf
  refine lv_aload_n hx hb dX3_last_0 rfl (lv_at hl 0 rfl) ?_
  refine gf_X3_house  hx hb hts hown hK hM tw_114 dX3_last_1 ?_
  refine wt_callVv (As := []) (rest := []) hx hb hml hts hown hK hM (wt_rc_X0 wt_h1) cw_X3_141 hd_X0_reckon rfl ⟨qz_b rfl, qz_b rfl⟩ ⟨rfl, rfl⟩ hl.1 rfl (qz_b rfl) dX3_last_4 hf (fun _ _ h9 => c_X0_reckon wt_h1 h9) (fun r5 s6 H locs hf hM => ?_)
  refine lv_iconst (v := 0) hx hb dX3_last_7 (by decide) ?_
  refine lv_istore_n (lv' := [(1, .int (0 : Int32)), (0, .ref (B + 0))]) hx hb dX3_last_8 rfl hl (by decide) rfl (fun ls hl => ?_)
  refine lv_iconst (v := 0) hx hb dX3_last_9 (by decide) ?_
  refine lv_istore_n (lv' := [(2, .int (0 : Int32)), (1, .int (0 : Int32)), (0, .ref (B + 0))]) hx hb dX3_last_10 rfl hl (by decide) rfl (fun ls hl => ?_)
  exact w_X3_last_11 C _ _ _ _ _ _ _ hf hM (lv_sub hl [2, 1, 0] rfl)
end
set_option maxHeartbeats 4000000 in
set_option maxRecDepth 100000 in
theorem c_X3_last {l : Launch} {D : va_G} {tI tII : ClassId} {B F : Nat} {σ σ' : Mem} {r : Int32} (hf : f_X3_last F σ = some (r, σ')) : wt_Mi l yX3_last cX3_last 5 (some .int) rm_X3_last [.ref (B + 0)] D tI tII B σ r σ' := by
  refine Met.ofW (cc := cX3_last) (maxL := 5) (ret := (some .int)) (by decide) rfl ?_
  intro p e s m args below meth c s₁ B9 hml hv
  obtain ⟨rfl, hP, hK⟩ := hv
  have hl := lv_entry ([.ref (B + 0)]) (n := 5) (qz_b rfl)
  rw [lg_entry_eq]
  generalize (lg_sl ([.ref (B + 0)]) ++ List.replicate (5 - (lg_sl ([.ref (B + 0)])).length) Slot.unset).toArray = ls at hl ⊢
  exact w_X3_last_0 (wt_C_of B9 hml hK) hf ⟨hP, va_S.rf⟩ hl
section
variable {p : Program} {l : Launch} {e : Env} {s : State} {m : MethodId} {args : Array Value} {below : List Frame} {meth : Method} {c : Code} {D : va_G} {tI tII : ClassId} {B : Nat}
set_option maxHeartbeats 4000000 in
set_option maxRecDepth 100000 in
theorem w_X3_joint_65 (C : wt_C p s m args meth c RX3 cX3_joint 7 (some .int) D tI tII) {F : Nat} {k34 : Int32 → Int32 → Mem → Option (Int32 × Mem)} {x1 : Int32} {x2 : Int32} {x3 : Int32} {x5 : Int32} {x6 : Int32} {σ : Mem} {r : Int32} {σ' : Mem} {H : Heap} {locs : List Loc} {ls : Array Slot} (hk34 : ∀ (x5 : Int32) (x6 : Int32) (σ : Mem) (H : Heap) (locs : List Loc) (ls : Array Slot), k34 x5 x6 σ = some (r, σ') → wt_St D tI tII B σ s H locs → lv_has ls 7 [(0, .ref (B + 0)), (1, .int x1), (2, .int x2), (3, .int x3), (5, .int x5), (6, .int x6)] → W p l e rm_X3_joint s m args below meth c H locs 0 0 (MQ below (wt_Qi D tI tII B r σ') args s 0 0 (fun q => B ≤ q)) (F0 m 34 ls [])) (hf : j_X3_joint_65 F k34 x1 x2 x3 x5 x6 σ = some (r, σ')) (hM : wt_St D tI tII B σ s H locs) (hl : lv_has ls 7 [(0, .ref (B + 0)), (1, .int x1), (2, .int x2), (3, .int x3), (5, .int x5), (6, .int x6)]) : W p l e rm_X3_joint s m args below meth c H locs 0 0 (MQ below (wt_Qi D tI tII B r σ') args s 0 0 (fun q => B ≤ q)) (F0 m 65 ls []) := by
  obtain ⟨hx, hb, hts, hown, hml, hr, hlk, hK⟩ := id C
  replace hf := Eq.trans j_X3_joint_65_e.symm hf
  refine lv_iinc (v := (x6 + (1 : Int32))) (lv' := [(6, .int (x6 + (1 : Int32))), (0, .ref (B + 0)), (1, .int x1), (2, .int x2), (3, .int x3), (5, .int x5)]) hx hb dX3_joint_65 hl (k := 5) rfl rfl (by decide) rfl (fun ls hl => ?_)
  refine lv_goto (tgt := 34) hx hb dX3_joint_68 (by decide) ?_
  exact hk34 _ _ _ _ _ _ hf hM (lv_sub hl [1, 2, 3, 4, 5, 0] rfl)
set_option maxHeartbeats 4000000 in
set_option maxRecDepth 100000 in
theorem w_X3_joint_34 (C : wt_C p s m args meth c RX3 cX3_joint 7 (some .int) D tI tII) {F : Nat} {x1 : Int32} {x2 : Int32} {x3 : Int32} {r : Int32} {σ' : Mem} : ∀ (N : Nat) (x5 : Int32) (x6 : Int32) (σ : Mem) (H : Heap) (locs : List Loc) (ls : Array Slot), lp_X3_joint_34 F x1 x2 x3 N x5 x6 σ = some (r, σ') → wt_St D tI tII B σ s H locs → lv_has ls 7 [(0, .ref (B + 0)), (1, .int x1), (2, .int x2), (3, .int x3), (5, .int x5), (6, .int x6)] → W p l e rm_X3_joint s m args below meth c H locs 0 0 (MQ below (wt_Qi D tI tII B r σ') args s 0 0 (fun q => B ≤ q)) (F0 m 34 ls []) := by
  obtain ⟨hx, hb, hts, hown, hml, hr, hlk, hK⟩ := id C
  intro N
  induction N with
  | zero => intro x5 x6 σ H locs ls hf; exact wt_none (show (none : Option (Int32 × Mem)) = some (r, σ') from hf)
  | succ N ih =>
    intro x5 x6 σ H locs ls hf hM hl
    replace hf := Eq.trans lp_X3_joint_34_s.symm hf
    refine lv_iload hx hb dX3_joint_34 (lv_at hl 5 rfl) ?_
    refine lv_bipush (v := 8) hx hb dX3_joint_36 (by decide) ?_
    refine wq_icmp_ge (tgt := 71) hx hb dX3_joint_38 (by decide) hf (fun hf => ?_) (fun hf => ?_)
    · refine lv_iload hx hb dX3_joint_71 (lv_at hl 4 rfl) ?_
      exact wt_iret hx hb hr hlk hK hM hf dX3_joint_73
    refine lv_aload_n hx hb dX3_joint_41 rfl (lv_at hl 0 rfl) ?_
    refine gf_X3_house  hx hb hts hown hK hM tw_114 dX3_joint_42 ?_
    refine lv_iload_n hx hb dX3_joint_45 rfl (lv_at hl 1 rfl) ?_
    refine lv_iload_n hx hb dX3_joint_46 rfl (lv_at hl 2 rfl) ?_
    refine lv_iload hx hb dX3_joint_47 (lv_at hl 5 rfl) ?_
    refine lv_iload_n hx hb dX3_joint_49 rfl (lv_at hl 3 rfl) ?_
    refine wt_callVi (As := [.int x1, .int x2, .int x6, .int x3]) (rest := []) hx hb hml hts hown hK hM (wt_rc_X0 wt_h1) cw_X3_306 hd_X0_outdo rfl ⟨qz_b rfl, qz_b rfl⟩ ⟨rfl, rfl⟩ hl.1 rfl (qz_b rfl) dX3_joint_50 hf (fun _ _ h9 => c_X0_outdo wt_h1 h9) (fun r1 s2 H locs hf hM => ?_)
    refine wq_if_eq (tgt := 65) hx hb dX3_joint_53 (by decide) hf (fun hf => ?_) (fun hf => ?_)
    · exact w_X3_joint_65 C ih hf hM hl
    refine lv_iload hx hb dX3_joint_56 (lv_at hl 4 rfl) ?_
    refine lv_iconst (v := 1) hx hb dX3_joint_58 (by decide) ?_
    refine lv_iload hx hb dX3_joint_59 (lv_at hl 5 rfl) ?_
    refine lv_ishl hx hb dX3_joint_61 ?_
    refine lv_ior hx hb dX3_joint_62 ?_
    refine wt_leti hf (fun z3 hf => ?_)
    refine lv_istore (lv' := [(5, .int z3), (0, .ref (B + 0)), (1, .int x1), (2, .int x2), (3, .int x3), (6, .int x6)]) hx hb dX3_joint_63 hl (by decide) rfl (fun ls hl => ?_)
    exact w_X3_joint_65 C ih hf hM (lv_sub hl [1, 2, 3, 4, 0, 5] rfl)
set_option maxHeartbeats 4000000 in
set_option maxRecDepth 100000 in
theorem w_X3_joint_0 (C : wt_C p s m args meth c RX3 cX3_joint 7 (some .int) D tI tII) {F : Nat} {x1 : Int32} {x2 : Int32} {x3 : Int32} {σ : Mem} {r : Int32} {σ' : Mem} {H : Heap} {locs : List Loc} {ls : Array Slot} (hf : f_X3_joint F x1 x2 x3 σ = some (r, σ')) (hM : wt_St D tI tII B σ s H locs) (hl : lv_has ls 7 [(0, .ref (B + 0)), (1, .int x1), (2, .int x2), (3, .int x3)]) : W p l e rm_X3_joint s m args below meth c H locs 0 0 (MQ below (wt_Qi D tI tII B r σ') args s 0 0 (fun q => B ≤ q)) (F0 m 0 ls []) := by
  obtain ⟨hx, hb, hts, hown, hml, hr, hlk, hK⟩ := id C
  replace hf := Eq.trans f_X3_joint_e.symm hf
  refine lv_aload_n hx hb dX3_joint_0 rfl (lv_at hl 0 rfl) ?_
  refine lv_iload_n hx hb dX3_joint_1 rfl (lv_at hl 1 rfl) ?_
  refine lv_iload_n hx hb dX3_joint_2 rfl (lv_at hl 2 rfl) ?_
  refine lv_iload_n hx hb dX3_joint_3 rfl (lv_at hl 3 rfl) ?_
  refine wt_callVi (As := [.int x1, .int x2, .int x3]) (rest := []) hx hb hml hts hown hK hM wt_rc_X3 cw_X3_235 hd_X3_noPairFar rfl ⟨qz_b rfl, qz_b rfl⟩ ⟨rfl, rfl⟩ hl.1 rfl (qz_b rfl) dX3_joint_4 hf (fun _ _ h9 => c_X3_noPairFar h9) (fun r4 s5 H locs hf hM => ?_)
  refine lv_istore (lv' := [(4, .int r4), (0, .ref (B + 0)), (1, .int x1), (2, .int x2), (3, .int x3)]) hx hb dX3_joint_7 hl (by decide) rfl (fun ls hl => ?_)
  refine lv_iload hx hb dX3_joint_9 (lv_at hl 0 rfl) ?_
  refine wq_if_eq (tgt := 21) hx hb dX3_joint_11 (by decide) hf (fun hf => ?_) (fun hf => ?_)
  · refine lv_aload_n hx hb dX3_joint_21 rfl (lv_at hl 1 rfl) ?_
    refine gf_X3_house  hx hb hts hown hK hM tw_114 dX3_joint_22 ?_
    refine wt_callVv (As := []) (rest := []) hx hb hml hts hown hK hM (wt_rc_X0 wt_h1) cw_X3_141 hd_X0_reckon rfl ⟨qz_b rfl, qz_b rfl⟩ ⟨rfl, rfl⟩ hl.1 rfl (qz_b rfl) dX3_joint_25 hf (fun _ _ h9 => c_X0_reckon wt_h1 h9) (fun r6 s7 H locs hf hM => ?_)
    refine lv_iconst (v := 0) hx hb dX3_joint_28 (by decide) ?_
    refine lv_istore (lv' := [(5, .int (0 : Int32)), (4, .int r4), (0, .ref (B + 0)), (1, .int x1), (2, .int x2), (3, .int x3)]) hx hb dX3_joint_29 hl (by decide) rfl (fun ls hl => ?_)
    refine lv_iconst (v := 0) hx hb dX3_joint_31 (by decide) ?_
    refine lv_istore (lv' := [(6, .int (0 : Int32)), (5, .int (0 : Int32)), (4, .int r4), (0, .ref (B + 0)), (1, .int x1), (2, .int x2), (3, .int x3)]) hx hb dX3_joint_32 hl (by decide) rfl (fun ls hl => ?_)
    exact w_X3_joint_34 C _ _ _ _ _ _ _ hf hM (lv_sub hl [3, 4, 5, 6, 1, 0] rfl)
  refine lv_aload_n hx hb dX3_joint_14 rfl (lv_at hl 1 rfl) ?_
  refine lv_iload hx hb dX3_joint_15 (lv_at hl 0 rfl) ?_
  refine wt_callVi (As := [.int r4]) (rest := []) hx hb hml hts hown hK hM wt_rc_X3 cw_X3_61 hd_X3_refuse rfl ⟨qz_b rfl, qz_b rfl⟩ ⟨rfl, rfl⟩ hl.1 rfl (qz_b rfl) dX3_joint_17 hf (fun _ _ h9 => c_X3_refuse h9) (fun r8 s9 H locs hf hM => ?_)
  exact wt_iret hx hb hr hlk hK hM hf dX3_joint_20
end
set_option maxHeartbeats 4000000 in
set_option maxRecDepth 100000 in
theorem c_X3_joint {l : Launch} {D : va_G} {tI tII : ClassId} {B F : Nat} {x1 : Int32} {x2 : Int32} {x3 : Int32} {σ σ' : Mem} {r : Int32} (hf : f_X3_joint F x1 x2 x3 σ = some (r, σ')) : wt_Mi l yX3_joint cX3_joint 7 (some .int) rm_X3_joint [.ref (B + 0), .int x1, .int x2, .int x3] D tI tII B σ r σ' := by
  refine Met.ofW (cc := cX3_joint) (maxL := 7) (ret := (some .int)) (by decide) rfl ?_
  intro p e s m args below meth c s₁ B9 hml hv
  obtain ⟨rfl, hP, hK⟩ := hv
  have hl := lv_entry ([.ref (B + 0), .int x1, .int x2, .int x3]) (n := 7) (qz_b rfl)
  rw [lg_entry_eq]
  generalize (lg_sl ([.ref (B + 0), .int x1, .int x2, .int x3]) ++ List.replicate (7 - (lg_sl ([.ref (B + 0), .int x1, .int x2, .int x3])).length) Slot.unset).toArray = ls at hl ⊢
  exact w_X3_joint_0 (wt_C_of B9 hml hK) hf ⟨hP, va_S.rf⟩ hl
section
variable {p : Program} {l : Launch} {e : Env} {s : State} {m : MethodId} {args : Array Value} {below : List Frame} {meth : Method} {c : Code} {D : va_G} {tI tII : ClassId} {B : Nat}
set_option maxHeartbeats 4000000 in
set_option maxRecDepth 100000 in
theorem w_X3_rank_29 (C : wt_C p s m args meth c RX3 cX3_rank 5 (some .int) D tI tII) {F : Nat} {x1 : Int32} {x2 : Int32} {r : Int32} {σ' : Mem} : ∀ (N : Nat) (x4 : Int32) (σ : Mem) (H : Heap) (locs : List Loc) (ls : Array Slot), lp_X3_rank_29 F x1 x2 N x4 σ = some (r, σ') → wt_St D tI tII B σ s H locs → lv_has ls 5 [(0, .ref (B + 0)), (1, .int x1), (2, .int x2), (4, .int x4)] → W p l e rm_X3_rank s m args below meth c H locs 0 0 (MQ below (wt_Qi D tI tII B r σ') args s 0 0 (fun q => B ≤ q)) (F0 m 29 ls []) := by
  obtain ⟨hx, hb, hts, hown, hml, hr, hlk, hK⟩ := id C
  intro N
  induction N with
  | zero => intro x4 σ H locs ls hf; exact wt_none (show (none : Option (Int32 × Mem)) = some (r, σ') from hf)
  | succ N ih =>
    intro x4 σ H locs ls hf hM hl
    replace hf := Eq.trans lp_X3_rank_29_s.symm hf
    refine lv_iload hx hb dX3_rank_29 (lv_at hl 3 rfl) ?_
    refine lv_aload_n hx hb dX3_rank_31 rfl (lv_at hl 0 rfl) ?_
    refine gf_X3_house  hx hb hts hown hK hM tw_114 dX3_rank_32 ?_
    refine gf_X0_lookerCount wt_h1 hx hb hts hown hK hM tw_31 dX3_rank_35 ?_
    refine wq_icmp_ge (tgt := 64) hx hb dX3_rank_38 (by decide) hf (fun hf => ?_) (fun hf => ?_)
    · refine lv_bipush (v := -9) hx hb dX3_rank_64 (by decide) ?_
      exact wt_iret hx hb hr hlk hK hM hf dX3_rank_66
    refine lv_aload_n hx hb dX3_rank_41 rfl (lv_at hl 0 rfl) ?_
    refine gf_X3_house  hx hb hts hown hK hM tw_114 dX3_rank_42 ?_
    refine lv_iload hx hb dX3_rank_45 (lv_at hl 3 rfl) ?_
    refine lv_iload_n hx hb dX3_rank_47 rfl (lv_at hl 1 rfl) ?_
    refine wt_callVi (As := [.int x4, .int x1]) (rest := []) hx hb hml hts hown hK hM (wt_rc_X0 wt_h1) cw_X3_309 hd_X0_placeOf rfl ⟨qz_b rfl, qz_b rfl⟩ ⟨rfl, rfl⟩ hl.1 rfl (qz_b rfl) dX3_rank_48 hf (fun _ _ h9 => c_X0_placeOf wt_h1 h9) (fun r1 s2 H locs hf hM => ?_)
    refine lv_iload_n hx hb dX3_rank_51 rfl (lv_at hl 2 rfl) ?_
    refine wq_icmp_ne (tgt := 58) hx hb dX3_rank_52 (by decide) hf (fun hf => ?_) (fun hf => ?_)
    · refine lv_iinc (v := (x4 + (1 : Int32))) (lv' := [(4, .int (x4 + (1 : Int32))), (0, .ref (B + 0)), (1, .int x1), (2, .int x2)]) hx hb dX3_rank_58 hl (k := 3) rfl rfl (by decide) rfl (fun ls hl => ?_)
      refine lv_goto (tgt := 29) hx hb dX3_rank_61 (by decide) ?_
      exact ih _ _ _ _ _ hf hM (lv_sub hl [1, 2, 3, 0] rfl)
    refine lv_iload hx hb dX3_rank_55 (lv_at hl 3 rfl) ?_
    exact wt_iret hx hb hr hlk hK hM hf dX3_rank_57
set_option maxHeartbeats 4000000 in
set_option maxRecDepth 100000 in
theorem w_X3_rank_16 (C : wt_C p s m args meth c RX3 cX3_rank 5 (some .int) D tI tII) {F : Nat} {x1 : Int32} {x2 : Int32} {x3 : Int32} {σ : Mem} {r : Int32} {σ' : Mem} {H : Heap} {locs : List Loc} {ls : Array Slot} (hf : j_X3_rank_16 F x1 x2 x3 σ = some (r, σ')) (hM : wt_St D tI tII B σ s H locs) (hl : lv_has ls 5 [(0, .ref (B + 0)), (1, .int x1), (2, .int x2), (3, .int x3)]) : W p l e rm_X3_rank s m args below meth c H locs 0 0 (MQ below (wt_Qi D tI tII B r σ') args s 0 0 (fun q => B ≤ q)) (F0 m 16 ls []) := by
  obtain ⟨hx, hb, hts, hown, hml, hr, hlk, hK⟩ := id C
  replace hf := Eq.trans j_X3_rank_16_e.symm hf
  refine lv_iload_n hx hb dX3_rank_16 rfl (lv_at hl 3 rfl) ?_
  refine wq_if_eq (tgt := 26) hx hb dX3_rank_17 (by decide) hf (fun hf => ?_) (fun hf => ?_)
  · refine lv_iconst (v := 0) hx hb dX3_rank_26 (by decide) ?_
    refine lv_istore (lv' := [(4, .int (0 : Int32)), (0, .ref (B + 0)), (1, .int x1), (2, .int x2), (3, .int x3)]) hx hb dX3_rank_27 hl (by decide) rfl (fun ls hl => ?_)
    exact w_X3_rank_29 C _ _ _ _ _ _ hf hM (lv_sub hl [1, 2, 3, 0] rfl)
  refine lv_aload_n hx hb dX3_rank_20 rfl (lv_at hl 0 rfl) ?_
  refine lv_iload_n hx hb dX3_rank_21 rfl (lv_at hl 3 rfl) ?_
  refine wt_callVi (As := [.int x3]) (rest := []) hx hb hml hts hown hK hM wt_rc_X3 cw_X3_61 hd_X3_refuse rfl ⟨qz_b rfl, qz_b rfl⟩ ⟨rfl, rfl⟩ hl.1 rfl (qz_b rfl) dX3_rank_22 hf (fun _ _ h9 => c_X3_refuse h9) (fun r3 s4 H locs hf hM => ?_)
  exact wt_iret hx hb hr hlk hK hM hf dX3_rank_25
set_option maxHeartbeats 4000000 in
set_option maxRecDepth 100000 in
theorem w_X3_rank_0 (C : wt_C p s m args meth c RX3 cX3_rank 5 (some .int) D tI tII) {F : Nat} {x1 : Int32} {x2 : Int32} {σ : Mem} {r : Int32} {σ' : Mem} {H : Heap} {locs : List Loc} {ls : Array Slot} (hf : f_X3_rank F x1 x2 σ = some (r, σ')) (hM : wt_St D tI tII B σ s H locs) (hl : lv_has ls 5 [(0, .ref (B + 0)), (1, .int x1), (2, .int x2)]) : W p l e rm_X3_rank s m args below meth c H locs 0 0 (MQ below (wt_Qi D tI tII B r σ') args s 0 0 (fun q => B ≤ q)) (F0 m 0 ls []) := by
  obtain ⟨hx, hb, hts, hown, hml, hr, hlk, hK⟩ := id C
  replace hf := Eq.trans f_X3_rank_e.symm hf
  refine lv_iload_n hx hb dX3_rank_0 rfl (lv_at hl 1 rfl) ?_
  refine wt_callSi (As := [.int x1]) (rest := []) hx hb hml hts hown hK hM cw_X3_174 hd_X3_noView rfl ⟨qz_b rfl, qz_b rfl⟩ ⟨rfl, rfl⟩ hl.1 rfl (qz_b rfl) dX3_rank_1 hf (fun _ _ h9 => c_X3_noView h9) (fun r5 s6 H locs hf hM => ?_)
  refine lv_istore_n (lv' := [(3, .int r5), (0, .ref (B + 0)), (1, .int x1), (2, .int x2)]) hx hb dX3_rank_4 rfl hl (by decide) rfl (fun ls hl => ?_)
  refine lv_iload_n hx hb dX3_rank_5 rfl (lv_at hl 0 rfl) ?_
  refine wq_if_ne (tgt := 16) hx hb dX3_rank_6 (by decide) hf (fun hf => ?_) (fun hf => ?_)
  · exact w_X3_rank_16 C hf hM (lv_sub hl [1, 2, 3, 0] rfl)
  refine lv_iload_n hx hb dX3_rank_9 rfl (lv_at hl 3 rfl) ?_
  refine wq_if_ge (tgt := 16) hx hb dX3_rank_10 (by decide) hf (fun hf => ?_) (fun hf => ?_)
  · exact w_X3_rank_16 C hf hM (lv_sub hl [1, 2, 3, 0] rfl)
  refine lv_bipush (v := -4) hx hb dX3_rank_13 (by decide) ?_
  refine lv_istore_n (lv' := [(3, .int (-4 : Int32)), (0, .ref (B + 0)), (1, .int x1), (2, .int x2)]) hx hb dX3_rank_15 rfl hl (by decide) rfl (fun ls hl => ?_)
  exact w_X3_rank_16 C hf hM (lv_sub hl [1, 2, 3, 0] rfl)
end
set_option maxHeartbeats 4000000 in
set_option maxRecDepth 100000 in
theorem c_X3_rank {l : Launch} {D : va_G} {tI tII : ClassId} {B F : Nat} {x1 : Int32} {x2 : Int32} {σ σ' : Mem} {r : Int32} (hf : f_X3_rank F x1 x2 σ = some (r, σ')) : wt_Mi l yX3_rank cX3_rank 5 (some .int) rm_X3_rank [.ref (B + 0), .int x1, .int x2] D tI tII B σ r σ' := by
  refine Met.ofW (cc := cX3_rank) (maxL := 5) (ret := (some .int)) (by decide) rfl ?_
  intro p e s m args below meth c s₁ B9 hml hv
  obtain ⟨rfl, hP, hK⟩ := hv
  have hl := lv_entry ([.ref (B + 0), .int x1, .int x2]) (n := 5) (qz_b rfl)
  rw [lg_entry_eq]
  generalize (lg_sl ([.ref (B + 0), .int x1, .int x2]) ++ List.replicate (5 - (lg_sl ([.ref (B + 0), .int x1, .int x2])).length) Slot.unset).toArray = ls at hl ⊢
  exact w_X3_rank_0 (wt_C_of B9 hml hK) hf ⟨hP, va_S.rf⟩ hl
section
variable {p : Program} {l : Launch} {e : Env} {s : State} {m : MethodId} {args : Array Value} {below : List Frame} {meth : Method} {c : Code} {D : va_G} {tI tII : ClassId} {B : Nat}
set_option maxHeartbeats 4000000 in
set_option maxRecDepth 100000 in
theorem w_X3_gap_96 (C : wt_C p s m args meth c RX3 cX3_gap 8 (some .int) D tI tII) {F : Nat} {k42 : Int32 → Int32 → Int32 → Mem → Option (Int32 × Mem)} {x1 : Int32} {x2 : Int32} {x4 : Int32} {x5 : Int32} {x6 : Int32} {σ : Mem} {r : Int32} {σ' : Mem} {H : Heap} {locs : List Loc} {ls : Array Slot} (hk42 : ∀ (x4 : Int32) (x5 : Int32) (x6 : Int32) (σ : Mem) (H : Heap) (locs : List Loc) (ls : Array Slot), k42 x4 x5 x6 σ = some (r, σ') → wt_St D tI tII B σ s H locs → lv_has ls 8 [(0, .ref (B + 0)), (1, .int x1), (2, .int x2), (4, .int x4), (5, .int x5), (6, .int x6)] → W p l e rm_X3_gap s m args below meth c H locs 0 0 (MQ below (wt_Qi D tI tII B r σ') args s 0 0 (fun q => B ≤ q)) (F0 m 42 ls [])) (hf : j_X3_gap_96 F k42 x1 x2 x4 x5 x6 σ = some (r, σ')) (hM : wt_St D tI tII B σ s H locs) (hl : lv_has ls 8 [(0, .ref (B + 0)), (1, .int x1), (2, .int x2), (4, .int x4), (5, .int x5), (6, .int x6)]) : W p l e rm_X3_gap s m args below meth c H locs 0 0 (MQ below (wt_Qi D tI tII B r σ') args s 0 0 (fun q => B ≤ q)) (F0 m 96 ls []) := by
  obtain ⟨hx, hb, hts, hown, hml, hr, hlk, hK⟩ := id C
  replace hf := Eq.trans j_X3_gap_96_e.symm hf
  refine lv_iinc (v := (x6 + (1 : Int32))) (lv' := [(6, .int (x6 + (1 : Int32))), (0, .ref (B + 0)), (1, .int x1), (2, .int x2), (4, .int x4), (5, .int x5)]) hx hb dX3_gap_96 hl (k := 5) rfl rfl (by decide) rfl (fun ls hl => ?_)
  refine lv_goto (tgt := 42) hx hb dX3_gap_99 (by decide) ?_
  exact hk42 _ _ _ _ _ _ _ hf hM (lv_sub hl [1, 2, 3, 4, 5, 0] rfl)
set_option maxHeartbeats 4000000 in
set_option maxRecDepth 100000 in
theorem w_X3_gap_42 (C : wt_C p s m args meth c RX3 cX3_gap 8 (some .int) D tI tII) {F : Nat} {x1 : Int32} {x2 : Int32} {r : Int32} {σ' : Mem} : ∀ (N : Nat) (x4 : Int32) (x5 : Int32) (x6 : Int32) (σ : Mem) (H : Heap) (locs : List Loc) (ls : Array Slot), lp_X3_gap_42 F x1 x2 N x4 x5 x6 σ = some (r, σ') → wt_St D tI tII B σ s H locs → lv_has ls 8 [(0, .ref (B + 0)), (1, .int x1), (2, .int x2), (4, .int x4), (5, .int x5), (6, .int x6)] → W p l e rm_X3_gap s m args below meth c H locs 0 0 (MQ below (wt_Qi D tI tII B r σ') args s 0 0 (fun q => B ≤ q)) (F0 m 42 ls []) := by
  obtain ⟨hx, hb, hts, hown, hml, hr, hlk, hK⟩ := id C
  intro N
  induction N with
  | zero => intro x4 x5 x6 σ H locs ls hf; exact wt_none (show (none : Option (Int32 × Mem)) = some (r, σ') from hf)
  | succ N ih =>
    intro x4 x5 x6 σ H locs ls hf hM hl
    replace hf := Eq.trans lp_X3_gap_42_s.symm hf
    refine lv_iload hx hb dX3_gap_42 (lv_at hl 5 rfl) ?_
    refine lv_aload_n hx hb dX3_gap_44 rfl (lv_at hl 0 rfl) ?_
    refine gf_X3_house  hx hb hts hown hK hM tw_114 dX3_gap_45 ?_
    refine gf_X0_lookerCount wt_h1 hx hb hts hown hK hM tw_31 dX3_gap_48 ?_
    refine wq_icmp_ge (tgt := 102) hx hb dX3_gap_51 (by decide) hf (fun hf => ?_) (fun hf => ?_)
    · refine lv_iload hx hb dX3_gap_102 (lv_at hl 3 rfl) ?_
      refine lv_iload hx hb dX3_gap_104 (lv_at hl 4 rfl) ?_
      refine lv_isub hx hb dX3_gap_106 ?_
      exact wt_iret hx hb hr hlk hK hM hf dX3_gap_107
    refine lv_aload_n hx hb dX3_gap_54 rfl (lv_at hl 0 rfl) ?_
    refine gf_X3_house  hx hb hts hown hK hM tw_114 dX3_gap_55 ?_
    refine lv_iload hx hb dX3_gap_58 (lv_at hl 5 rfl) ?_
    refine lv_iload_n hx hb dX3_gap_60 rfl (lv_at hl 1 rfl) ?_
    refine lv_iload_n hx hb dX3_gap_61 rfl (lv_at hl 2 rfl) ?_
    refine wt_callVi (As := [.int x6, .int x1, .int x2]) (rest := []) hx hb hml hts hown hK hM (wt_rc_X0 wt_h1) cw_X3_287 hd_X0_behind rfl ⟨qz_b rfl, qz_b rfl⟩ ⟨rfl, rfl⟩ hl.1 rfl (qz_b rfl) dX3_gap_62 hf (fun _ _ h9 => c_X0_behind wt_h1 h9) (fun r1 s2 H locs hf hM => ?_)
    refine lv_istore (lv' := [(7, .int r1), (0, .ref (B + 0)), (1, .int x1), (2, .int x2), (4, .int x4), (5, .int x5), (6, .int x6)]) hx hb dX3_gap_65 hl (by decide) rfl (fun ls hl => ?_)
    refine lv_iload hx hb dX3_gap_67 (lv_at hl 0 rfl) ?_
    refine lv_iload hx hb dX3_gap_69 (lv_at hl 4 rfl) ?_
    refine wq_icmp_le (tgt := 85) hx hb dX3_gap_71 (by decide) hf (fun hf => ?_) (fun hf => ?_)
    · refine lv_iload hx hb dX3_gap_85 (lv_at hl 0 rfl) ?_
      refine lv_iload hx hb dX3_gap_87 (lv_at hl 5 rfl) ?_
      refine wq_icmp_le (tgt := 96) hx hb dX3_gap_89 (by decide) hf (fun hf => ?_) (fun hf => ?_)
      · exact w_X3_gap_96 C ih hf hM (lv_sub hl [1, 2, 3, 4, 5, 6] rfl)
      refine lv_iload hx hb dX3_gap_92 (lv_at hl 0 rfl) ?_
      refine lv_istore (lv' := [(5, .int r1), (7, .int r1), (0, .ref (B + 0)), (1, .int x1), (2, .int x2), (4, .int x4), (6, .int x6)]) hx hb dX3_gap_94 hl (by decide) rfl (fun ls hl => ?_)
      exact w_X3_gap_96 C ih hf hM (lv_sub hl [2, 3, 4, 5, 0, 6] rfl)
    refine lv_iload hx hb dX3_gap_74 (lv_at hl 4 rfl) ?_
    refine lv_istore (lv' := [(5, .int x4), (7, .int r1), (0, .ref (B + 0)), (1, .int x1), (2, .int x2), (4, .int x4), (6, .int x6)]) hx hb dX3_gap_76 hl (by decide) rfl (fun ls hl => ?_)
    refine lv_iload hx hb dX3_gap_78 (lv_at hl 1 rfl) ?_
    refine lv_istore (lv' := [(4, .int r1), (5, .int x4), (7, .int r1), (0, .ref (B + 0)), (1, .int x1), (2, .int x2), (6, .int x6)]) hx hb dX3_gap_80 hl (by decide) rfl (fun ls hl => ?_)
    refine lv_goto (tgt := 96) hx hb dX3_gap_82 (by decide) ?_
    exact w_X3_gap_96 C ih hf hM (lv_sub hl [3, 4, 5, 0, 1, 6] rfl)
set_option maxHeartbeats 4000000 in
set_option maxRecDepth 100000 in
theorem w_X3_gap_0 (C : wt_C p s m args meth c RX3 cX3_gap 8 (some .int) D tI tII) {F : Nat} {x1 : Int32} {x2 : Int32} {σ : Mem} {r : Int32} {σ' : Mem} {H : Heap} {locs : List Loc} {ls : Array Slot} (hf : f_X3_gap F x1 x2 σ = some (r, σ')) (hM : wt_St D tI tII B σ s H locs) (hl : lv_has ls 8 [(0, .ref (B + 0)), (1, .int x1), (2, .int x2)]) : W p l e rm_X3_gap s m args below meth c H locs 0 0 (MQ below (wt_Qi D tI tII B r σ') args s 0 0 (fun q => B ≤ q)) (F0 m 0 ls []) := by
  obtain ⟨hx, hb, hts, hown, hml, hr, hlk, hK⟩ := id C
  replace hf := Eq.trans f_X3_gap_e.symm hf
  refine lv_iload_n hx hb dX3_gap_0 rfl (lv_at hl 1 rfl) ?_
  refine wt_callSi (As := [.int x1]) (rest := []) hx hb hml hts hown hK hM cw_X3_174 hd_X3_noView rfl ⟨qz_b rfl, qz_b rfl⟩ ⟨rfl, rfl⟩ hl.1 rfl (qz_b rfl) dX3_gap_1 hf (fun _ _ h9 => c_X3_noView h9) (fun r3 s4 H locs hf hM => ?_)
  refine lv_iload_n hx hb dX3_gap_4 rfl (lv_at hl 2 rfl) ?_
  refine lv_iconst (v := 0) hx hb dX3_gap_5 (by decide) ?_
  refine lv_sipush (v := 999) hx hb dX3_gap_6 (by decide) ?_
  refine wt_callSi (As := [.int x2, .int (0 : Int32), .int (999 : Int32)]) (rest := [.int r3]) hx hb hml hts hown hK hM cw_X3_81 hd_X3_outside rfl ⟨qz_b rfl, qz_b rfl⟩ ⟨rfl, rfl⟩ hl.1 rfl (qz_b rfl) dX3_gap_9 hf (fun _ _ h9 => c_X3_outside h9) (fun r5 s6 H locs hf hM => ?_)
  refine wt_callSi (As := [.int r3, .int r5]) (rest := []) hx hb hml hts hown hK hM cw_X3_85 hd_X3_firstOf rfl ⟨qz_b rfl, qz_b rfl⟩ ⟨rfl, rfl⟩ hl.1 rfl (qz_b rfl) dX3_gap_12 hf (fun _ _ h9 => c_X3_firstOf h9) (fun r7 s8 H locs hf hM => ?_)
  refine lv_istore_n (lv' := [(3, .int r7), (0, .ref (B + 0)), (1, .int x1), (2, .int x2)]) hx hb dX3_gap_15 rfl hl (by decide) rfl (fun ls hl => ?_)
  refine lv_iload_n hx hb dX3_gap_16 rfl (lv_at hl 0 rfl) ?_
  refine wq_if_eq (tgt := 26) hx hb dX3_gap_17 (by decide) hf (fun hf => ?_) (fun hf => ?_)
  · refine lv_aload_n hx hb dX3_gap_26 rfl (lv_at hl 1 rfl) ?_
    refine gf_X3_house  hx hb hts hown hK hM tw_114 dX3_gap_27 ?_
    refine wt_callVv (As := []) (rest := []) hx hb hml hts hown hK hM (wt_rc_X0 wt_h1) cw_X3_141 hd_X0_reckon rfl ⟨qz_b rfl, qz_b rfl⟩ ⟨rfl, rfl⟩ hl.1 rfl (qz_b rfl) dX3_gap_30 hf (fun _ _ h9 => c_X0_reckon wt_h1 h9) (fun r9 s10 H locs hf hM => ?_)
    refine lv_iconst (v := 0) hx hb dX3_gap_33 (by decide) ?_
    refine lv_istore (lv' := [(4, .int (0 : Int32)), (3, .int r7), (0, .ref (B + 0)), (1, .int x1), (2, .int x2)]) hx hb dX3_gap_34 hl (by decide) rfl (fun ls hl => ?_)
    refine lv_iconst (v := 0) hx hb dX3_gap_36 (by decide) ?_
    refine lv_istore (lv' := [(5, .int (0 : Int32)), (4, .int (0 : Int32)), (3, .int r7), (0, .ref (B + 0)), (1, .int x1), (2, .int x2)]) hx hb dX3_gap_37 hl (by decide) rfl (fun ls hl => ?_)
    refine lv_iconst (v := 0) hx hb dX3_gap_39 (by decide) ?_
    refine lv_istore (lv' := [(6, .int (0 : Int32)), (5, .int (0 : Int32)), (4, .int (0 : Int32)), (3, .int r7), (0, .ref (B + 0)), (1, .int x1), (2, .int x2)]) hx hb dX3_gap_40 hl (by decide) rfl (fun ls hl => ?_)
    exact w_X3_gap_42 C _ _ _ _ _ _ _ _ hf hM (lv_sub hl [4, 5, 6, 2, 1, 0] rfl)
  refine lv_aload_n hx hb dX3_gap_20 rfl (lv_at hl 1 rfl) ?_
  refine lv_iload_n hx hb dX3_gap_21 rfl (lv_at hl 0 rfl) ?_
  refine wt_callVi (As := [.int r7]) (rest := []) hx hb hml hts hown hK hM wt_rc_X3 cw_X3_61 hd_X3_refuse rfl ⟨qz_b rfl, qz_b rfl⟩ ⟨rfl, rfl⟩ hl.1 rfl (qz_b rfl) dX3_gap_22 hf (fun _ _ h9 => c_X3_refuse h9) (fun r11 s12 H locs hf hM => ?_)
  exact wt_iret hx hb hr hlk hK hM hf dX3_gap_25
end
set_option maxHeartbeats 4000000 in
set_option maxRecDepth 100000 in
theorem c_X3_gap {l : Launch} {D : va_G} {tI tII : ClassId} {B F : Nat} {x1 : Int32} {x2 : Int32} {σ σ' : Mem} {r : Int32} (hf : f_X3_gap F x1 x2 σ = some (r, σ')) : wt_Mi l yX3_gap cX3_gap 8 (some .int) rm_X3_gap [.ref (B + 0), .int x1, .int x2] D tI tII B σ r σ' := by
  refine Met.ofW (cc := cX3_gap) (maxL := 8) (ret := (some .int)) (by decide) rfl ?_
  intro p e s m args below meth c s₁ B9 hml hv
  obtain ⟨rfl, hP, hK⟩ := hv
  have hl := lv_entry ([.ref (B + 0), .int x1, .int x2]) (n := 8) (qz_b rfl)
  rw [lg_entry_eq]
  generalize (lg_sl ([.ref (B + 0), .int x1, .int x2]) ++ List.replicate (8 - (lg_sl ([.ref (B + 0), .int x1, .int x2])).length) Slot.unset).toArray = ls at hl ⊢
  exact w_X3_gap_0 (wt_C_of B9 hml hK) hf ⟨hP, va_S.rf⟩ hl
section
variable {p : Program} {l : Launch} {e : Env} {s : State} {m : MethodId} {args : Array Value} {below : List Frame} {meth : Method} {c : Code} {D : va_G} {tI tII : ClassId} {B : Nat}
set_option maxHeartbeats 4000000 in
set_option maxRecDepth 100000 in
theorem w_X3_wasted_117 (C : wt_C p s m args meth c RX3 cX3_wasted 8 (some .int) D tI tII) {F : Nat} {k30 : Int32 → Int32 → Mem → Option (Int32 × Mem)} {x1 : Int32} {x2 : Int32} {x4 : Int32} {x5 : Int32} {σ : Mem} {r : Int32} {σ' : Mem} {H : Heap} {locs : List Loc} {ls : Array Slot} (hk30 : ∀ (x4 : Int32) (x5 : Int32) (σ : Mem) (H : Heap) (locs : List Loc) (ls : Array Slot), k30 x4 x5 σ = some (r, σ') → wt_St D tI tII B σ s H locs → lv_has ls 8 [(0, .ref (B + 0)), (1, .int x1), (2, .int x2), (4, .int x4), (5, .int x5)] → W p l e rm_X3_wasted s m args below meth c H locs 0 0 (MQ below (wt_Qi D tI tII B r σ') args s 0 0 (fun q => B ≤ q)) (F0 m 30 ls [])) (hf : j_X3_wasted_117 F k30 x1 x2 x4 x5 σ = some (r, σ')) (hM : wt_St D tI tII B σ s H locs) (hl : lv_has ls 8 [(0, .ref (B + 0)), (1, .int x1), (2, .int x2), (4, .int x4), (5, .int x5)]) : W p l e rm_X3_wasted s m args below meth c H locs 0 0 (MQ below (wt_Qi D tI tII B r σ') args s 0 0 (fun q => B ≤ q)) (F0 m 117 ls []) := by
  obtain ⟨hx, hb, hts, hown, hml, hr, hlk, hK⟩ := id C
  replace hf := Eq.trans j_X3_wasted_117_e.symm hf
  refine lv_iinc (v := (x5 + (1 : Int32))) (lv' := [(5, .int (x5 + (1 : Int32))), (0, .ref (B + 0)), (1, .int x1), (2, .int x2), (4, .int x4)]) hx hb dX3_wasted_117 hl (k := 4) rfl rfl (by decide) rfl (fun ls hl => ?_)
  refine lv_goto (tgt := 30) hx hb dX3_wasted_120 (by decide) ?_
  exact hk30 _ _ _ _ _ _ hf hM (lv_sub hl [1, 2, 3, 4, 0] rfl)
set_option maxHeartbeats 4000000 in
set_option maxRecDepth 100000 in
theorem w_X3_wasted_108 (C : wt_C p s m args meth c RX3 cX3_wasted 8 (some .int) D tI tII) {F : Nat} {k30 : Int32 → Int32 → Mem → Option (Int32 × Mem)} {x1 : Int32} {x2 : Int32} {x4 : Int32} {x5 : Int32} {σ : Mem} {r : Int32} {σ' : Mem} {H : Heap} {locs : List Loc} {ls : Array Slot} (hk30 : ∀ (x4 : Int32) (x5 : Int32) (σ : Mem) (H : Heap) (locs : List Loc) (ls : Array Slot), k30 x4 x5 σ = some (r, σ') → wt_St D tI tII B σ s H locs → lv_has ls 8 [(0, .ref (B + 0)), (1, .int x1), (2, .int x2), (4, .int x4), (5, .int x5)] → W p l e rm_X3_wasted s m args below meth c H locs 0 0 (MQ below (wt_Qi D tI tII B r σ') args s 0 0 (fun q => B ≤ q)) (F0 m 30 ls [])) (hf : j_X3_wasted_108 F k30 x1 x2 x4 x5 σ = some (r, σ')) (hM : wt_St D tI tII B σ s H locs) (hl : lv_has ls 8 [(0, .ref (B + 0)), (1, .int x1), (2, .int x2), (4, .int x4), (5, .int x5)]) : W p l e rm_X3_wasted s m args below meth c H locs 0 0 (MQ below (wt_Qi D tI tII B r σ') args s 0 0 (fun q => B ≤ q)) (F0 m 108 ls []) := by
  obtain ⟨hx, hb, hts, hown, hml, hr, hlk, hK⟩ := id C
  replace hf := Eq.trans j_X3_wasted_108_e.symm hf
  refine lv_iload hx hb dX3_wasted_108 (lv_at hl 3 rfl) ?_
  refine lv_iconst (v := 1) hx hb dX3_wasted_110 (by decide) ?_
  refine lv_iload hx hb dX3_wasted_111 (lv_at hl 4 rfl) ?_
  refine lv_ishl hx hb dX3_wasted_113 ?_
  refine lv_ior hx hb dX3_wasted_114 ?_
  refine wt_leti hf (fun z1 hf => ?_)
  refine lv_istore (lv' := [(4, .int z1), (0, .ref (B + 0)), (1, .int x1), (2, .int x2), (5, .int x5)]) hx hb dX3_wasted_115 hl (by decide) rfl (fun ls hl => ?_)
  exact w_X3_wasted_117 C hk30 hf hM (lv_sub hl [1, 2, 3, 0, 4] rfl)
set_option maxHeartbeats 4000000 in
set_option maxRecDepth 100000 in
theorem w_X3_wasted_79 (C : wt_C p s m args meth c RX3 cX3_wasted 8 (some .int) D tI tII) {F : Nat} {k30 : Int32 → Int32 → Mem → Option (Int32 × Mem)} {x1 : Int32} {x2 : Int32} {x4 : Int32} {x5 : Int32} {x6 : Int32} {t0 : Int32} {σ : Mem} {r : Int32} {σ' : Mem} {H : Heap} {locs : List Loc} {ls : Array Slot} (hk30 : ∀ (x4 : Int32) (x5 : Int32) (σ : Mem) (H : Heap) (locs : List Loc) (ls : Array Slot), k30 x4 x5 σ = some (r, σ') → wt_St D tI tII B σ s H locs → lv_has ls 8 [(0, .ref (B + 0)), (1, .int x1), (2, .int x2), (4, .int x4), (5, .int x5)] → W p l e rm_X3_wasted s m args below meth c H locs 0 0 (MQ below (wt_Qi D tI tII B r σ') args s 0 0 (fun q => B ≤ q)) (F0 m 30 ls [])) (hf : j_X3_wasted_79 F k30 x1 x2 x4 x5 x6 t0 σ = some (r, σ')) (hM : wt_St D tI tII B σ s H locs) (hl : lv_has ls 8 [(0, .ref (B + 0)), (1, .int x1), (2, .int x2), (4, .int x4), (5, .int x5), (6, .int x6)]) : W p l e rm_X3_wasted s m args below meth c H locs 0 0 (MQ below (wt_Qi D tI tII B r σ') args s 0 0 (fun q => B ≤ q)) (F0 m 79 ls [.int t0]) := by
  obtain ⟨hx, hb, hts, hown, hml, hr, hlk, hK⟩ := id C
  replace hf := Eq.trans j_X3_wasted_79_e.symm hf
  refine lv_istore (lv' := [(7, .int t0), (0, .ref (B + 0)), (1, .int x1), (2, .int x2), (4, .int x4), (5, .int x5), (6, .int x6)]) hx hb dX3_wasted_79 hl (by decide) rfl (fun ls hl => ?_)
  refine lv_iload_n hx hb dX3_wasted_81 rfl (lv_at hl 3 rfl) ?_
  refine wq_if_ne (tgt := 98) hx hb dX3_wasted_82 (by decide) hf (fun hf => ?_) (fun hf => ?_)
  · refine lv_iload hx hb dX3_wasted_98 (lv_at hl 6 rfl) ?_
    refine wq_if_ne (tgt := 117) hx hb dX3_wasted_100 (by decide) hf (fun hf => ?_) (fun hf => ?_)
    · exact w_X3_wasted_117 C hk30 hf hM (lv_sub hl [1, 2, 3, 4, 5] rfl)
    refine lv_iload hx hb dX3_wasted_103 (lv_at hl 0 rfl) ?_
    refine wq_if_eq (tgt := 117) hx hb dX3_wasted_105 (by decide) hf (fun hf => ?_) (fun hf => ?_)
    · exact w_X3_wasted_117 C hk30 hf hM (lv_sub hl [1, 2, 3, 4, 5] rfl)
    exact w_X3_wasted_108 C hk30 hf hM (lv_sub hl [1, 2, 3, 4, 5] rfl)
  refine lv_iload hx hb dX3_wasted_85 (lv_at hl 6 rfl) ?_
  refine wq_if_eq (tgt := 117) hx hb dX3_wasted_87 (by decide) hf (fun hf => ?_) (fun hf => ?_)
  · exact w_X3_wasted_117 C hk30 hf hM (lv_sub hl [1, 2, 3, 4, 5] rfl)
  refine lv_iload hx hb dX3_wasted_90 (lv_at hl 0 rfl) ?_
  refine wq_if_ne (tgt := 117) hx hb dX3_wasted_92 (by decide) hf (fun hf => ?_) (fun hf => ?_)
  · exact w_X3_wasted_117 C hk30 hf hM (lv_sub hl [1, 2, 3, 4, 5] rfl)
  refine lv_goto (tgt := 108) hx hb dX3_wasted_95 (by decide) ?_
  exact w_X3_wasted_108 C hk30 hf hM (lv_sub hl [1, 2, 3, 4, 5] rfl)
set_option maxHeartbeats 4000000 in
set_option maxRecDepth 100000 in
theorem w_X3_wasted_59 (C : wt_C p s m args meth c RX3 cX3_wasted 8 (some .int) D tI tII) {F : Nat} {k30 : Int32 → Int32 → Mem → Option (Int32 × Mem)} {x1 : Int32} {x2 : Int32} {x4 : Int32} {x5 : Int32} {t0 : Int32} {σ : Mem} {r : Int32} {σ' : Mem} {H : Heap} {locs : List Loc} {ls : Array Slot} (hk30 : ∀ (x4 : Int32) (x5 : Int32) (σ : Mem) (H : Heap) (locs : List Loc) (ls : Array Slot), k30 x4 x5 σ = some (r, σ') → wt_St D tI tII B σ s H locs → lv_has ls 8 [(0, .ref (B + 0)), (1, .int x1), (2, .int x2), (4, .int x4), (5, .int x5)] → W p l e rm_X3_wasted s m args below meth c H locs 0 0 (MQ below (wt_Qi D tI tII B r σ') args s 0 0 (fun q => B ≤ q)) (F0 m 30 ls [])) (hf : j_X3_wasted_59 F k30 x1 x2 x4 x5 t0 σ = some (r, σ')) (hM : wt_St D tI tII B σ s H locs) (hl : lv_has ls 8 [(0, .ref (B + 0)), (1, .int x1), (2, .int x2), (4, .int x4), (5, .int x5)]) : W p l e rm_X3_wasted s m args below meth c H locs 0 0 (MQ below (wt_Qi D tI tII B r σ') args s 0 0 (fun q => B ≤ q)) (F0 m 59 ls [.int t0]) := by
  obtain ⟨hx, hb, hts, hown, hml, hr, hlk, hK⟩ := id C
  replace hf := Eq.trans j_X3_wasted_59_e.symm hf
  refine lv_istore (lv' := [(6, .int t0), (0, .ref (B + 0)), (1, .int x1), (2, .int x2), (4, .int x4), (5, .int x5)]) hx hb dX3_wasted_59 hl (by decide) rfl (fun ls hl => ?_)
  refine lv_aload_n hx hb dX3_wasted_61 rfl (lv_at hl 1 rfl) ?_
  refine gf_X3_house  hx hb hts hown hK hM tw_114 dX3_wasted_62 ?_
  refine lv_iload_n hx hb dX3_wasted_65 rfl (lv_at hl 2 rfl) ?_
  refine lv_iload hx hb dX3_wasted_66 (lv_at hl 5 rfl) ?_
  refine wt_callVi (As := [.int x1, .int x5]) (rest := []) hx hb hml hts hown hK hM (wt_rc_X0 wt_h1) cw_X3_244 hd_X0_pull rfl ⟨qz_b rfl, qz_b rfl⟩ ⟨rfl, rfl⟩ hl.1 rfl (qz_b rfl) dX3_wasted_68 hf (fun _ _ h9 => c_X0_pull wt_h1 h9) (fun r2 s3 H locs hf hM => ?_)
  refine wq_if_le (tgt := 78) hx hb dX3_wasted_71 (by decide) hf (fun hf => ?_) (fun hf => ?_)
  · refine lv_iconst (v := 0) hx hb dX3_wasted_78 (by decide) ?_
    exact w_X3_wasted_79 C hk30 hf hM (lv_sub hl [1, 2, 3, 4, 5, 0] rfl)
  refine lv_iconst (v := 1) hx hb dX3_wasted_74 (by decide) ?_
  refine lv_goto (tgt := 79) hx hb dX3_wasted_75 (by decide) ?_
  exact w_X3_wasted_79 C hk30 hf hM (lv_sub hl [1, 2, 3, 4, 5, 0] rfl)
set_option maxHeartbeats 4000000 in
set_option maxRecDepth 100000 in
theorem w_X3_wasted_30 (C : wt_C p s m args meth c RX3 cX3_wasted 8 (some .int) D tI tII) {F : Nat} {x1 : Int32} {x2 : Int32} {r : Int32} {σ' : Mem} : ∀ (N : Nat) (x4 : Int32) (x5 : Int32) (σ : Mem) (H : Heap) (locs : List Loc) (ls : Array Slot), lp_X3_wasted_30 F x1 x2 N x4 x5 σ = some (r, σ') → wt_St D tI tII B σ s H locs → lv_has ls 8 [(0, .ref (B + 0)), (1, .int x1), (2, .int x2), (4, .int x4), (5, .int x5)] → W p l e rm_X3_wasted s m args below meth c H locs 0 0 (MQ below (wt_Qi D tI tII B r σ') args s 0 0 (fun q => B ≤ q)) (F0 m 30 ls []) := by
  obtain ⟨hx, hb, hts, hown, hml, hr, hlk, hK⟩ := id C
  intro N
  induction N with
  | zero => intro x4 x5 σ H locs ls hf; exact wt_none (show (none : Option (Int32 × Mem)) = some (r, σ') from hf)
  | succ N ih =>
    intro x4 x5 σ H locs ls hf hM hl
    replace hf := Eq.trans lp_X3_wasted_30_s.symm hf
    refine lv_iload hx hb dX3_wasted_30 (lv_at hl 4 rfl) ?_
    refine lv_bipush (v := 24) hx hb dX3_wasted_32 (by decide) ?_
    refine wq_icmp_ge (tgt := 123) hx hb dX3_wasted_34 (by decide) hf (fun hf => ?_) (fun hf => ?_)
    · refine lv_iload hx hb dX3_wasted_123 (lv_at hl 3 rfl) ?_
      exact wt_iret hx hb hr hlk hK hM hf dX3_wasted_125
    refine lv_aload_n hx hb dX3_wasted_37 rfl (lv_at hl 0 rfl) ?_
    refine gf_X3_house  hx hb hts hown hK hM tw_114 dX3_wasted_38 ?_
    refine gf_X0_rosters wt_h1 hx hb hts hown hK hM tw_37 dX3_wasted_41 ?_
    refine lv_iload_n hx hb dX3_wasted_44 rfl (lv_at hl 1 rfl) ?_
    obtain ⟨i4, hf⟩ := wt_chk_of hf
    refine wt_ald hx hb hK hM (wt_aaH_4 wt_h1) i4 dX3_wasted_45 ?_
    refine lv_iload hx hb dX3_wasted_46 (lv_at hl 4 rfl) ?_
    obtain ⟨i5, hf⟩ := wt_chk_of hf
    refine wt_ild hx hb hK hM (wt_rH_4 wt_h1 i4) i5 dX3_wasted_48 ?_
    refine lv_bipush (v := 9) hx hb dX3_wasted_49 (by decide) ?_
    refine wq_icmp_eq (tgt := 58) hx hb dX3_wasted_51 (by decide) hf (fun hf => ?_) (fun hf => ?_)
    · refine lv_iconst (v := 0) hx hb dX3_wasted_58 (by decide) ?_
      exact w_X3_wasted_59 C ih hf hM hl
    refine lv_iconst (v := 1) hx hb dX3_wasted_54 (by decide) ?_
    refine lv_goto (tgt := 59) hx hb dX3_wasted_55 (by decide) ?_
    exact w_X3_wasted_59 C ih hf hM hl
set_option maxHeartbeats 4000000 in
set_option maxRecDepth 100000 in
theorem w_X3_wasted_0 (C : wt_C p s m args meth c RX3 cX3_wasted 8 (some .int) D tI tII) {F : Nat} {x1 : Int32} {x2 : Int32} {σ : Mem} {r : Int32} {σ' : Mem} {H : Heap} {locs : List Loc} {ls : Array Slot} (hf : f_X3_wasted F x1 x2 σ = some (r, σ')) (hM : wt_St D tI tII B σ s H locs) (hl : lv_has ls 8 [(0, .ref (B + 0)), (1, .int x1), (2, .int x2)]) : W p l e rm_X3_wasted s m args below meth c H locs 0 0 (MQ below (wt_Qi D tI tII B r σ') args s 0 0 (fun q => B ≤ q)) (F0 m 0 ls []) := by
  obtain ⟨hx, hb, hts, hown, hml, hr, hlk, hK⟩ := id C
  replace hf := Eq.trans f_X3_wasted_e.symm hf
  refine lv_aload_n hx hb dX3_wasted_0 rfl (lv_at hl 0 rfl) ?_
  refine lv_iload_n hx hb dX3_wasted_1 rfl (lv_at hl 1 rfl) ?_
  refine wt_callVi (As := [.int x1]) (rest := []) hx hb hml hts hown hK hM wt_rc_X3 cw_X3_78 hd_X3_noLooker rfl ⟨qz_b rfl, qz_b rfl⟩ ⟨rfl, rfl⟩ hl.1 rfl (qz_b rfl) dX3_wasted_2 hf (fun _ _ h9 => c_X3_noLooker h9) (fun r6 s7 H locs hf hM => ?_)
  refine lv_iload_n hx hb dX3_wasted_5 rfl (lv_at hl 2 rfl) ?_
  refine lv_iconst (v := 2) hx hb dX3_wasted_6 (by decide) ?_
  refine wt_callSi (As := [.int x2, .int (2 : Int32)]) (rest := [.int r6]) hx hb hml hts hown hK hM cw_X3_123 hd_X3_notBelow rfl ⟨qz_b rfl, qz_b rfl⟩ ⟨rfl, rfl⟩ hl.1 rfl (qz_b rfl) dX3_wasted_7 hf (fun _ _ h9 => c_X3_notBelow h9) (fun r8 s9 H locs hf hM => ?_)
  refine wt_callSi (As := [.int r6, .int r8]) (rest := []) hx hb hml hts hown hK hM cw_X3_85 hd_X3_firstOf rfl ⟨qz_b rfl, qz_b rfl⟩ ⟨rfl, rfl⟩ hl.1 rfl (qz_b rfl) dX3_wasted_10 hf (fun _ _ h9 => c_X3_firstOf h9) (fun r10 s11 H locs hf hM => ?_)
  refine lv_istore_n (lv' := [(3, .int r10), (0, .ref (B + 0)), (1, .int x1), (2, .int x2)]) hx hb dX3_wasted_13 rfl hl (by decide) rfl (fun ls hl => ?_)
  refine lv_iload_n hx hb dX3_wasted_14 rfl (lv_at hl 0 rfl) ?_
  refine wq_if_eq (tgt := 24) hx hb dX3_wasted_15 (by decide) hf (fun hf => ?_) (fun hf => ?_)
  · refine lv_iconst (v := 0) hx hb dX3_wasted_24 (by decide) ?_
    refine lv_istore (lv' := [(4, .int (0 : Int32)), (3, .int r10), (0, .ref (B + 0)), (1, .int x1), (2, .int x2)]) hx hb dX3_wasted_25 hl (by decide) rfl (fun ls hl => ?_)
    refine lv_iconst (v := 0) hx hb dX3_wasted_27 (by decide) ?_
    refine lv_istore (lv' := [(5, .int (0 : Int32)), (4, .int (0 : Int32)), (3, .int r10), (0, .ref (B + 0)), (1, .int x1), (2, .int x2)]) hx hb dX3_wasted_28 hl (by decide) rfl (fun ls hl => ?_)
    exact w_X3_wasted_30 C _ _ _ _ _ _ _ hf hM (lv_sub hl [3, 4, 5, 1, 0] rfl)
  refine lv_aload_n hx hb dX3_wasted_18 rfl (lv_at hl 1 rfl) ?_
  refine lv_iload_n hx hb dX3_wasted_19 rfl (lv_at hl 0 rfl) ?_
  refine wt_callVi (As := [.int r10]) (rest := []) hx hb hml hts hown hK hM wt_rc_X3 cw_X3_61 hd_X3_refuse rfl ⟨qz_b rfl, qz_b rfl⟩ ⟨rfl, rfl⟩ hl.1 rfl (qz_b rfl) dX3_wasted_20 hf (fun _ _ h9 => c_X3_refuse h9) (fun r12 s13 H locs hf hM => ?_)
  exact wt_iret hx hb hr hlk hK hM hf dX3_wasted_23
end
set_option maxHeartbeats 4000000 in
set_option maxRecDepth 100000 in
theorem c_X3_wasted {l : Launch} {D : va_G} {tI tII : ClassId} {B F : Nat} {x1 : Int32} {x2 : Int32} {σ σ' : Mem} {r : Int32} (hf : f_X3_wasted F x1 x2 σ = some (r, σ')) : wt_Mi l yX3_wasted cX3_wasted 8 (some .int) rm_X3_wasted [.ref (B + 0), .int x1, .int x2] D tI tII B σ r σ' := by
  refine Met.ofW (cc := cX3_wasted) (maxL := 8) (ret := (some .int)) (by decide) rfl ?_
  intro p e s m args below meth c s₁ B9 hml hv
  obtain ⟨rfl, hP, hK⟩ := hv
  have hl := lv_entry ([.ref (B + 0), .int x1, .int x2]) (n := 8) (qz_b rfl)
  rw [lg_entry_eq]
  generalize (lg_sl ([.ref (B + 0), .int x1, .int x2]) ++ List.replicate (8 - (lg_sl ([.ref (B + 0), .int x1, .int x2])).length) Slot.unset).toArray = ls at hl ⊢
  exact w_X3_wasted_0 (wt_C_of B9 hml hK) hf ⟨hP, va_S.rf⟩ hl
section
variable {p : Program} {l : Launch} {e : Env} {s : State} {m : MethodId} {args : Array Value} {below : List Frame} {meth : Method} {c : Code} {D : va_G} {tI tII : ClassId} {B : Nat}
set_option maxHeartbeats 4000000 in
set_option maxRecDepth 100000 in
theorem w_X3_ahead_27 (C : wt_C p s m args meth c RX3 cX3_ahead 5 (some .int) D tI tII) {F : Nat} {x1 : Int32} {x2 : Int32} {r : Int32} {σ' : Mem} : ∀ (N : Nat) (x4 : Int32) (σ : Mem) (H : Heap) (locs : List Loc) (ls : Array Slot), lp_X3_ahead_27 F x1 x2 N x4 σ = some (r, σ') → wt_St D tI tII B σ s H locs → lv_has ls 5 [(0, .ref (B + 0)), (1, .int x1), (2, .int x2), (4, .int x4)] → W p l e rm_X3_ahead s m args below meth c H locs 0 0 (MQ below (wt_Qi D tI tII B r σ') args s 0 0 (fun q => B ≤ q)) (F0 m 27 ls []) := by
  obtain ⟨hx, hb, hts, hown, hml, hr, hlk, hK⟩ := id C
  intro N
  induction N with
  | zero => intro x4 σ H locs ls hf; exact wt_none (show (none : Option (Int32 × Mem)) = some (r, σ') from hf)
  | succ N ih =>
    intro x4 σ H locs ls hf hM hl
    replace hf := Eq.trans lp_X3_ahead_27_s.symm hf
    refine lv_iload hx hb dX3_ahead_27 (lv_at hl 3 rfl) ?_
    refine lv_sipush (v := 999) hx hb dX3_ahead_29 (by decide) ?_
    refine wq_icmp_gt (tgt := 58) hx hb dX3_ahead_32 (by decide) hf (fun hf => ?_) (fun hf => ?_)
    · refine lv_bipush (v := -9) hx hb dX3_ahead_58 (by decide) ?_
      exact wt_iret hx hb hr hlk hK hM hf dX3_ahead_60
    refine lv_aload_n hx hb dX3_ahead_35 rfl (lv_at hl 0 rfl) ?_
    refine gf_X3_house  hx hb hts hown hK hM tw_114 dX3_ahead_36 ?_
    refine lv_iload_n hx hb dX3_ahead_39 rfl (lv_at hl 1 rfl) ?_
    refine lv_iload_n hx hb dX3_ahead_40 rfl (lv_at hl 2 rfl) ?_
    refine lv_iload hx hb dX3_ahead_41 (lv_at hl 3 rfl) ?_
    refine wt_callVi (As := [.int x1, .int x2, .int x4]) (rest := []) hx hb hml hts hown hK hM (wt_rc_X0 wt_h1) cw_X3_303 hd_X0_lead rfl ⟨qz_b rfl, qz_b rfl⟩ ⟨rfl, rfl⟩ hl.1 rfl (qz_b rfl) dX3_ahead_43 hf (fun _ _ h9 => c_X0_lead wt_h1 h9) (fun r1 s2 H locs hf hM => ?_)
    refine wq_if_le (tgt := 52) hx hb dX3_ahead_46 (by decide) hf (fun hf => ?_) (fun hf => ?_)
    · refine lv_iinc (v := (x4 + (1 : Int32))) (lv' := [(4, .int (x4 + (1 : Int32))), (0, .ref (B + 0)), (1, .int x1), (2, .int x2)]) hx hb dX3_ahead_52 hl (k := 3) rfl rfl (by decide) rfl (fun ls hl => ?_)
      refine lv_goto (tgt := 27) hx hb dX3_ahead_55 (by decide) ?_
      exact ih _ _ _ _ _ hf hM (lv_sub hl [1, 2, 3, 0] rfl)
    refine lv_iload hx hb dX3_ahead_49 (lv_at hl 3 rfl) ?_
    exact wt_iret hx hb hr hlk hK hM hf dX3_ahead_51
set_option maxHeartbeats 4000000 in
set_option maxRecDepth 100000 in
theorem w_X3_ahead_0 (C : wt_C p s m args meth c RX3 cX3_ahead 5 (some .int) D tI tII) {F : Nat} {x1 : Int32} {x2 : Int32} {σ : Mem} {r : Int32} {σ' : Mem} {H : Heap} {locs : List Loc} {ls : Array Slot} (hf : f_X3_ahead F x1 x2 σ = some (r, σ')) (hM : wt_St D tI tII B σ s H locs) (hl : lv_has ls 5 [(0, .ref (B + 0)), (1, .int x1), (2, .int x2)]) : W p l e rm_X3_ahead s m args below meth c H locs 0 0 (MQ below (wt_Qi D tI tII B r σ') args s 0 0 (fun q => B ≤ q)) (F0 m 0 ls []) := by
  obtain ⟨hx, hb, hts, hown, hml, hr, hlk, hK⟩ := id C
  replace hf := Eq.trans f_X3_ahead_e.symm hf
  refine lv_aload_n hx hb dX3_ahead_0 rfl (lv_at hl 0 rfl) ?_
  refine lv_iload_n hx hb dX3_ahead_1 rfl (lv_at hl 1 rfl) ?_
  refine lv_iload_n hx hb dX3_ahead_2 rfl (lv_at hl 2 rfl) ?_
  refine wt_callVi (As := [.int x1, .int x2]) (rest := []) hx hb hml hts hown hK hM wt_rc_X3 cw_X3_89 hd_X3_noPair rfl ⟨qz_b rfl, qz_b rfl⟩ ⟨rfl, rfl⟩ hl.1 rfl (qz_b rfl) dX3_ahead_3 hf (fun _ _ h9 => c_X3_noPair h9) (fun r3 s4 H locs hf hM => ?_)
  refine lv_istore_n (lv' := [(3, .int r3), (0, .ref (B + 0)), (1, .int x1), (2, .int x2)]) hx hb dX3_ahead_6 rfl hl (by decide) rfl (fun ls hl => ?_)
  refine lv_iload_n hx hb dX3_ahead_7 rfl (lv_at hl 0 rfl) ?_
  refine wq_if_eq (tgt := 17) hx hb dX3_ahead_8 (by decide) hf (fun hf => ?_) (fun hf => ?_)
  · refine lv_aload_n hx hb dX3_ahead_17 rfl (lv_at hl 1 rfl) ?_
    refine gf_X3_house  hx hb hts hown hK hM tw_114 dX3_ahead_18 ?_
    refine wt_callVv (As := []) (rest := []) hx hb hml hts hown hK hM (wt_rc_X0 wt_h1) cw_X3_141 hd_X0_reckon rfl ⟨qz_b rfl, qz_b rfl⟩ ⟨rfl, rfl⟩ hl.1 rfl (qz_b rfl) dX3_ahead_21 hf (fun _ _ h9 => c_X0_reckon wt_h1 h9) (fun r5 s6 H locs hf hM => ?_)
    refine lv_iconst (v := 0) hx hb dX3_ahead_24 (by decide) ?_
    refine lv_istore (lv' := [(4, .int (0 : Int32)), (3, .int r3), (0, .ref (B + 0)), (1, .int x1), (2, .int x2)]) hx hb dX3_ahead_25 hl (by decide) rfl (fun ls hl => ?_)
    exact w_X3_ahead_27 C _ _ _ _ _ _ hf hM (lv_sub hl [2, 3, 4, 0] rfl)
  refine lv_aload_n hx hb dX3_ahead_11 rfl (lv_at hl 1 rfl) ?_
  refine lv_iload_n hx hb dX3_ahead_12 rfl (lv_at hl 0 rfl) ?_
  refine wt_callVi (As := [.int r3]) (rest := []) hx hb hml hts hown hK hM wt_rc_X3 cw_X3_61 hd_X3_refuse rfl ⟨qz_b rfl, qz_b rfl⟩ ⟨rfl, rfl⟩ hl.1 rfl (qz_b rfl) dX3_ahead_13 hf (fun _ _ h9 => c_X3_refuse h9) (fun r7 s8 H locs hf hM => ?_)
  exact wt_iret hx hb hr hlk hK hM hf dX3_ahead_16
end
set_option maxHeartbeats 4000000 in
set_option maxRecDepth 100000 in
theorem c_X3_ahead {l : Launch} {D : va_G} {tI tII : ClassId} {B F : Nat} {x1 : Int32} {x2 : Int32} {σ σ' : Mem} {r : Int32} (hf : f_X3_ahead F x1 x2 σ = some (r, σ')) : wt_Mi l yX3_ahead cX3_ahead 5 (some .int) rm_X3_ahead [.ref (B + 0), .int x1, .int x2] D tI tII B σ r σ' := by
  refine Met.ofW (cc := cX3_ahead) (maxL := 5) (ret := (some .int)) (by decide) rfl ?_
  intro p e s m args below meth c s₁ B9 hml hv
  obtain ⟨rfl, hP, hK⟩ := hv
  have hl := lv_entry ([.ref (B + 0), .int x1, .int x2]) (n := 5) (qz_b rfl)
  rw [lg_entry_eq]
  generalize (lg_sl ([.ref (B + 0), .int x1, .int x2]) ++ List.replicate (5 - (lg_sl ([.ref (B + 0), .int x1, .int x2])).length) Slot.unset).toArray = ls at hl ⊢
  exact w_X3_ahead_0 (wt_C_of B9 hml hK) hf ⟨hP, va_S.rf⟩ hl
section
variable {p : Program} {l : Launch} {e : Env} {s : State} {m : MethodId} {args : Array Value} {below : List Frame} {meth : Method} {c : Code} {D : va_G} {tI tII : ClassId} {B : Nat}
set_option maxHeartbeats 4000000 in
set_option maxRecDepth 100000 in
theorem w_X3_bestLaw_86 (C : wt_C p s m args meth c RX3 cX3_bestLaw 8 (some .int) D tI tII) {F : Nat} {k44 : Int32 → Int32 → Int32 → Mem → Option (Int32 × Mem)} {x1 : Int32} {x2 : Int32} {x4 : Int32} {x5 : Int32} {x6 : Int32} {σ : Mem} {r : Int32} {σ' : Mem} {H : Heap} {locs : List Loc} {ls : Array Slot} (hk44 : ∀ (x4 : Int32) (x5 : Int32) (x6 : Int32) (σ : Mem) (H : Heap) (locs : List Loc) (ls : Array Slot), k44 x4 x5 x6 σ = some (r, σ') → wt_St D tI tII B σ s H locs → lv_has ls 8 [(0, .ref (B + 0)), (1, .int x1), (2, .int x2), (4, .int x4), (5, .int x5), (6, .int x6)] → W p l e rm_X3_bestLaw s m args below meth c H locs 0 0 (MQ below (wt_Qi D tI tII B r σ') args s 0 0 (fun q => B ≤ q)) (F0 m 44 ls [])) (hf : j_X3_bestLaw_86 F k44 x1 x2 x4 x5 x6 σ = some (r, σ')) (hM : wt_St D tI tII B σ s H locs) (hl : lv_has ls 8 [(0, .ref (B + 0)), (1, .int x1), (2, .int x2), (4, .int x4), (5, .int x5), (6, .int x6)]) : W p l e rm_X3_bestLaw s m args below meth c H locs 0 0 (MQ below (wt_Qi D tI tII B r σ') args s 0 0 (fun q => B ≤ q)) (F0 m 86 ls []) := by
  obtain ⟨hx, hb, hts, hown, hml, hr, hlk, hK⟩ := id C
  replace hf := Eq.trans j_X3_bestLaw_86_e.symm hf
  refine lv_iinc (v := (x6 + (1 : Int32))) (lv' := [(6, .int (x6 + (1 : Int32))), (0, .ref (B + 0)), (1, .int x1), (2, .int x2), (4, .int x4), (5, .int x5)]) hx hb dX3_bestLaw_86 hl (k := 5) rfl rfl (by decide) rfl (fun ls hl => ?_)
  refine lv_goto (tgt := 44) hx hb dX3_bestLaw_89 (by decide) ?_
  exact hk44 _ _ _ _ _ _ _ hf hM (lv_sub hl [1, 2, 3, 4, 5, 0] rfl)
set_option maxHeartbeats 4000000 in
set_option maxRecDepth 100000 in
theorem w_X3_bestLaw_44 (C : wt_C p s m args meth c RX3 cX3_bestLaw 8 (some .int) D tI tII) {F : Nat} {x1 : Int32} {x2 : Int32} {r : Int32} {σ' : Mem} : ∀ (N : Nat) (x4 : Int32) (x5 : Int32) (x6 : Int32) (σ : Mem) (H : Heap) (locs : List Loc) (ls : Array Slot), lp_X3_bestLaw_44 F x1 x2 N x4 x5 x6 σ = some (r, σ') → wt_St D tI tII B σ s H locs → lv_has ls 8 [(0, .ref (B + 0)), (1, .int x1), (2, .int x2), (4, .int x4), (5, .int x5), (6, .int x6)] → W p l e rm_X3_bestLaw s m args below meth c H locs 0 0 (MQ below (wt_Qi D tI tII B r σ') args s 0 0 (fun q => B ≤ q)) (F0 m 44 ls []) := by
  obtain ⟨hx, hb, hts, hown, hml, hr, hlk, hK⟩ := id C
  intro N
  induction N with
  | zero => intro x4 x5 x6 σ H locs ls hf; exact wt_none (show (none : Option (Int32 × Mem)) = some (r, σ') from hf)
  | succ N ih =>
    intro x4 x5 x6 σ H locs ls hf hM hl
    replace hf := Eq.trans lp_X3_bestLaw_44_s.symm hf
    refine lv_iload hx hb dX3_bestLaw_44 (lv_at hl 5 rfl) ?_
    refine lv_iconst (v := 3) hx hb dX3_bestLaw_46 (by decide) ?_
    refine wq_icmp_ge (tgt := 92) hx hb dX3_bestLaw_47 (by decide) hf (fun hf => ?_) (fun hf => ?_)
    · refine lv_iload hx hb dX3_bestLaw_92 (lv_at hl 3 rfl) ?_
      exact wt_iret hx hb hr hlk hK hM hf dX3_bestLaw_94
    refine lv_aload_n hx hb dX3_bestLaw_50 rfl (lv_at hl 0 rfl) ?_
    refine gf_X3_mind  hx hb hts hown hK hM tw_115 dX3_bestLaw_51 ?_
    refine lv_iload hx hb dX3_bestLaw_54 (lv_at hl 5 rfl) ?_
    refine wt_callVi (As := [.int x6]) (rest := []) hx hb hml hts hown hK hM (wt_rc_X0 wt_h24) cw_X3_196 hd_X0_rule rfl ⟨qz_b rfl, qz_b rfl⟩ ⟨rfl, rfl⟩ hl.1 rfl (qz_b rfl) dX3_bestLaw_56 hf (fun _ _ h9 => c_X0_rule wt_h24 h9) (fun r1 s2 H locs hf hM => ?_)
    refine lv_pop hx hb dX3_bestLaw_59 rfl ?_
    refine lv_aload_n hx hb dX3_bestLaw_60 rfl (lv_at hl 0 rfl) ?_
    refine gf_X3_mind  hx hb hts hown hK hM tw_115 dX3_bestLaw_61 ?_
    refine lv_iload_n hx hb dX3_bestLaw_64 rfl (lv_at hl 1 rfl) ?_
    refine lv_iload_n hx hb dX3_bestLaw_65 rfl (lv_at hl 2 rfl) ?_
    refine wt_callVi (As := [.int x1, .int x2]) (rest := []) hx hb hml hts hown hK hM (wt_rc_X0 wt_h24) cw_X3_229 hd_X0_wealth rfl ⟨qz_b rfl, qz_b rfl⟩ ⟨rfl, rfl⟩ hl.1 rfl (qz_b rfl) dX3_bestLaw_66 hf (fun _ _ h9 => c_X0_wealth wt_h24 h9) (fun r3 s4 H locs hf hM => ?_)
    refine lv_istore (lv' := [(7, .int r3), (0, .ref (B + 0)), (1, .int x1), (2, .int x2), (4, .int x4), (5, .int x5), (6, .int x6)]) hx hb dX3_bestLaw_69 hl (by decide) rfl (fun ls hl => ?_)
    refine lv_iload hx hb dX3_bestLaw_71 (lv_at hl 0 rfl) ?_
    refine lv_iload hx hb dX3_bestLaw_73 (lv_at hl 5 rfl) ?_
    refine wq_icmp_le (tgt := 86) hx hb dX3_bestLaw_75 (by decide) hf (fun hf => ?_) (fun hf => ?_)
    · exact w_X3_bestLaw_86 C ih hf hM (lv_sub hl [1, 2, 3, 4, 5, 6] rfl)
    refine lv_iload hx hb dX3_bestLaw_78 (lv_at hl 0 rfl) ?_
    refine lv_istore (lv' := [(5, .int r3), (7, .int r3), (0, .ref (B + 0)), (1, .int x1), (2, .int x2), (4, .int x4), (6, .int x6)]) hx hb dX3_bestLaw_80 hl (by decide) rfl (fun ls hl => ?_)
    refine lv_iload hx hb dX3_bestLaw_82 (lv_at hl 6 rfl) ?_
    refine lv_istore (lv' := [(4, .int x6), (5, .int r3), (7, .int r3), (0, .ref (B + 0)), (1, .int x1), (2, .int x2), (6, .int x6)]) hx hb dX3_bestLaw_84 hl (by decide) rfl (fun ls hl => ?_)
    exact w_X3_bestLaw_86 C ih hf hM (lv_sub hl [3, 4, 5, 0, 1, 6] rfl)
set_option maxHeartbeats 4000000 in
set_option maxRecDepth 100000 in
theorem w_X3_bestLaw_0 (C : wt_C p s m args meth c RX3 cX3_bestLaw 8 (some .int) D tI tII) {F : Nat} {x1 : Int32} {x2 : Int32} {σ : Mem} {r : Int32} {σ' : Mem} {H : Heap} {locs : List Loc} {ls : Array Slot} (hf : f_X3_bestLaw F x1 x2 σ = some (r, σ')) (hM : wt_St D tI tII B σ s H locs) (hl : lv_has ls 8 [(0, .ref (B + 0)), (1, .int x1), (2, .int x2)]) : W p l e rm_X3_bestLaw s m args below meth c H locs 0 0 (MQ below (wt_Qi D tI tII B r σ') args s 0 0 (fun q => B ≤ q)) (F0 m 0 ls []) := by
  obtain ⟨hx, hb, hts, hown, hml, hr, hlk, hK⟩ := id C
  replace hf := Eq.trans f_X3_bestLaw_e.symm hf
  refine lv_aload_n hx hb dX3_bestLaw_0 rfl (lv_at hl 0 rfl) ?_
  refine lv_iload_n hx hb dX3_bestLaw_1 rfl (lv_at hl 1 rfl) ?_
  refine lv_iload_n hx hb dX3_bestLaw_2 rfl (lv_at hl 2 rfl) ?_
  refine wt_callVi (As := [.int x1, .int x2]) (rest := []) hx hb hml hts hown hK hM wt_rc_X3 cw_X3_226 hd_X3_noLookerFar rfl ⟨qz_b rfl, qz_b rfl⟩ ⟨rfl, rfl⟩ hl.1 rfl (qz_b rfl) dX3_bestLaw_3 hf (fun _ _ h9 => c_X3_noLookerFar h9) (fun r5 s6 H locs hf hM => ?_)
  refine lv_istore_n (lv' := [(3, .int r5), (0, .ref (B + 0)), (1, .int x1), (2, .int x2)]) hx hb dX3_bestLaw_6 rfl hl (by decide) rfl (fun ls hl => ?_)
  refine lv_iload_n hx hb dX3_bestLaw_7 rfl (lv_at hl 0 rfl) ?_
  refine wq_if_eq (tgt := 17) hx hb dX3_bestLaw_8 (by decide) hf (fun hf => ?_) (fun hf => ?_)
  · refine lv_aload_n hx hb dX3_bestLaw_17 rfl (lv_at hl 1 rfl) ?_
    refine gf_X3_mind  hx hb hts hown hK hM tw_115 dX3_bestLaw_18 ?_
    refine lv_aload_n hx hb dX3_bestLaw_21 rfl (lv_at hl 1 rfl) ?_
    refine gf_X3_house  hx hb hts hown hK hM tw_114 dX3_bestLaw_22 ?_
    refine wt_callVv (As := [.ref (B + 1)]) (rest := []) hx hb hml hts hown hK hM (wt_rc_X0 wt_h24) cw_X3_106 hd_X0_takeFrom rfl ⟨qz_b rfl, qz_b rfl⟩ ⟨rfl, rfl⟩ hl.1 rfl (qz_b rfl) dX3_bestLaw_25 hf (fun _ _ h9 => c_X0_takeFrom wt_h24 wt_h1 h9) (fun r7 s8 H locs hf hM => ?_)
    refine lv_aload_n hx hb dX3_bestLaw_28 rfl (lv_at hl 1 rfl) ?_
    refine gf_X3_mind  hx hb hts hown hK hM tw_115 dX3_bestLaw_29 ?_
    refine wt_callVv (As := []) (rest := []) hx hb hml hts hown hK hM (wt_rc_X0 wt_h24) cw_X3_141 hd_X0_reckon rfl ⟨qz_b rfl, qz_b rfl⟩ ⟨rfl, rfl⟩ hl.1 rfl (qz_b rfl) dX3_bestLaw_32 hf (fun _ _ h9 => c_X0_reckon wt_h24 h9) (fun r9 s10 H locs hf hM => ?_)
    refine lv_iconst (v := 0) hx hb dX3_bestLaw_35 (by decide) ?_
    refine lv_istore (lv' := [(4, .int (0 : Int32)), (3, .int r5), (0, .ref (B + 0)), (1, .int x1), (2, .int x2)]) hx hb dX3_bestLaw_36 hl (by decide) rfl (fun ls hl => ?_)
    refine lv_iconst (v := -1) hx hb dX3_bestLaw_38 (by decide) ?_
    refine lv_istore (lv' := [(5, .int (-1 : Int32)), (4, .int (0 : Int32)), (3, .int r5), (0, .ref (B + 0)), (1, .int x1), (2, .int x2)]) hx hb dX3_bestLaw_39 hl (by decide) rfl (fun ls hl => ?_)
    refine lv_iconst (v := 0) hx hb dX3_bestLaw_41 (by decide) ?_
    refine lv_istore (lv' := [(6, .int (0 : Int32)), (5, .int (-1 : Int32)), (4, .int (0 : Int32)), (3, .int r5), (0, .ref (B + 0)), (1, .int x1), (2, .int x2)]) hx hb dX3_bestLaw_42 hl (by decide) rfl (fun ls hl => ?_)
    exact w_X3_bestLaw_44 C _ _ _ _ _ _ _ _ hf hM (lv_sub hl [4, 5, 6, 2, 1, 0] rfl)
  refine lv_aload_n hx hb dX3_bestLaw_11 rfl (lv_at hl 1 rfl) ?_
  refine lv_iload_n hx hb dX3_bestLaw_12 rfl (lv_at hl 0 rfl) ?_
  refine wt_callVi (As := [.int r5]) (rest := []) hx hb hml hts hown hK hM wt_rc_X3 cw_X3_61 hd_X3_refuse rfl ⟨qz_b rfl, qz_b rfl⟩ ⟨rfl, rfl⟩ hl.1 rfl (qz_b rfl) dX3_bestLaw_13 hf (fun _ _ h9 => c_X3_refuse h9) (fun r11 s12 H locs hf hM => ?_)
  exact wt_iret hx hb hr hlk hK hM hf dX3_bestLaw_16
end
set_option maxHeartbeats 4000000 in
set_option maxRecDepth 100000 in
theorem c_X3_bestLaw {l : Launch} {D : va_G} {tI tII : ClassId} {B F : Nat} {x1 : Int32} {x2 : Int32} {σ σ' : Mem} {r : Int32} (hf : f_X3_bestLaw F x1 x2 σ = some (r, σ')) : wt_Mi l yX3_bestLaw cX3_bestLaw 8 (some .int) rm_X3_bestLaw [.ref (B + 0), .int x1, .int x2] D tI tII B σ r σ' := by
  refine Met.ofW (cc := cX3_bestLaw) (maxL := 8) (ret := (some .int)) (by decide) rfl ?_
  intro p e s m args below meth c s₁ B9 hml hv
  obtain ⟨rfl, hP, hK⟩ := hv
  have hl := lv_entry ([.ref (B + 0), .int x1, .int x2]) (n := 8) (qz_b rfl)
  rw [lg_entry_eq]
  generalize (lg_sl ([.ref (B + 0), .int x1, .int x2]) ++ List.replicate (8 - (lg_sl ([.ref (B + 0), .int x1, .int x2])).length) Slot.unset).toArray = ls at hl ⊢
  exact w_X3_bestLaw_0 (wt_C_of B9 hml hK) hf ⟨hP, va_S.rf⟩ hl
section
variable {p : Program} {l : Launch} {e : Env} {s : State} {m : MethodId} {args : Array Value} {below : List Frame} {meth : Method} {c : Code} {D : va_G} {tI tII : ClassId} {B : Nat}
set_option maxHeartbeats 4000000 in
set_option maxRecDepth 100000 in
theorem w_X3_newcomer_112 (C : wt_C p s m args meth c RX3 cX3_newcomer 8 (some .int) D tI tII) {F : Nat} {x3 : Int32} {x5 : Int32} {r : Int32} {σ' : Mem} : ∀ (N : Nat) (x6 : Int32) (σ : Mem) (H : Heap) (locs : List Loc) (ls : Array Slot), lp_X3_newcomer_112 F x3 x5 N x6 σ = some (r, σ') → wt_St D tI tII B σ s H locs → lv_has ls 8 [(0, .ref (B + 0)), (3, .int x3), (5, .int x5), (6, .int x6)] → W p l e rm_X3_newcomer s m args below meth c H locs 0 0 (MQ below (wt_Qi D tI tII B r σ') args s 0 0 (fun q => B ≤ q)) (F0 m 112 ls []) := by
  obtain ⟨hx, hb, hts, hown, hml, hr, hlk, hK⟩ := id C
  intro N
  induction N with
  | zero => intro x6 σ H locs ls hf; exact wt_none (show (none : Option (Int32 × Mem)) = some (r, σ') from hf)
  | succ N ih =>
    intro x6 σ H locs ls hf hM hl
    replace hf := Eq.trans lp_X3_newcomer_112_s.symm hf
    refine lv_iload hx hb dX3_newcomer_112 (lv_at hl 3 rfl) ?_
    refine lv_sipush (v := 999) hx hb dX3_newcomer_114 (by decide) ?_
    refine wq_icmp_gt (tgt := 158) hx hb dX3_newcomer_117 (by decide) hf (fun hf => ?_) (fun hf => ?_)
    · refine lv_bipush (v := -9) hx hb dX3_newcomer_158 (by decide) ?_
      exact wt_iret hx hb hr hlk hK hM hf dX3_newcomer_160
    refine lv_aload_n hx hb dX3_newcomer_120 rfl (lv_at hl 0 rfl) ?_
    refine gf_X3_mind  hx hb hts hown hK hM tw_115 dX3_newcomer_121 ?_
    refine lv_iload hx hb dX3_newcomer_124 (lv_at hl 2 rfl) ?_
    refine lv_iload hx hb dX3_newcomer_126 (lv_at hl 3 rfl) ?_
    refine wt_callVi (As := [.int x5, .int x6]) (rest := []) hx hb hml hts hown hK hM (wt_rc_X0 wt_h24) cw_X3_312 hd_X0_firstHolding rfl ⟨qz_b rfl, qz_b rfl⟩ ⟨rfl, rfl⟩ hl.1 rfl (qz_b rfl) dX3_newcomer_128 hf (fun _ _ h9 => c_X0_firstHolding wt_h24 h9) (fun r1 s2 H locs hf hM => ?_)
    refine lv_istore (lv' := [(7, .int r1), (0, .ref (B + 0)), (3, .int x3), (5, .int x5), (6, .int x6)]) hx hb dX3_newcomer_131 hl (by decide) rfl (fun ls hl => ?_)
    refine lv_iload hx hb dX3_newcomer_133 (lv_at hl 0 rfl) ?_
    refine lv_bipush (v := -9) hx hb dX3_newcomer_135 (by decide) ?_
    refine wq_icmp_eq (tgt := 152) hx hb dX3_newcomer_137 (by decide) hf (fun hf => ?_) (fun hf => ?_)
    · refine lv_iinc (v := (x6 + (1 : Int32))) (lv' := [(6, .int (x6 + (1 : Int32))), (7, .int r1), (0, .ref (B + 0)), (3, .int x3), (5, .int x5)]) hx hb dX3_newcomer_152 hl (k := 4) rfl rfl (by decide) rfl (fun ls hl => ?_)
      refine lv_goto (tgt := 112) hx hb dX3_newcomer_155 (by decide) ?_
      exact ih _ _ _ _ _ hf hM (lv_sub hl [2, 3, 4, 0] rfl)
    refine lv_iload_n hx hb dX3_newcomer_140 rfl (lv_at hl 2 rfl) ?_
    refine wq_if_ne (tgt := 149) hx hb dX3_newcomer_141 (by decide) hf (fun hf => ?_) (fun hf => ?_)
    · refine lv_iload hx hb dX3_newcomer_149 (lv_at hl 0 rfl) ?_
      exact wt_iret hx hb hr hlk hK hM hf dX3_newcomer_151
    refine lv_iload hx hb dX3_newcomer_144 (lv_at hl 4 rfl) ?_
    refine lv_goto (tgt := 151) hx hb dX3_newcomer_146 (by decide) ?_
    exact wt_iret hx hb hr hlk hK hM hf dX3_newcomer_151
set_option maxHeartbeats 4000000 in
set_option maxRecDepth 100000 in
theorem w_X3_newcomer_44 (C : wt_C p s m args meth c RX3 cX3_newcomer 8 (some .int) D tI tII) {F : Nat} {x1 : Int32} {x2 : Int32} {x3 : Int32} {x4 : Int32} {σ : Mem} {r : Int32} {σ' : Mem} {H : Heap} {locs : List Loc} {ls : Array Slot} (hf : j_X3_newcomer_44 F x1 x2 x3 x4 σ = some (r, σ')) (hM : wt_St D tI tII B σ s H locs) (hl : lv_has ls 8 [(0, .ref (B + 0)), (1, .int x1), (2, .int x2), (3, .int x3), (4, .int x4)]) : W p l e rm_X3_newcomer s m args below meth c H locs 0 0 (MQ below (wt_Qi D tI tII B r σ') args s 0 0 (fun q => B ≤ q)) (F0 m 44 ls []) := by
  obtain ⟨hx, hb, hts, hown, hml, hr, hlk, hK⟩ := id C
  replace hf := Eq.trans j_X3_newcomer_44_e.symm hf
  refine lv_iload hx hb dX3_newcomer_44 (lv_at hl 4 rfl) ?_
  refine wq_if_eq (tgt := 56) hx hb dX3_newcomer_46 (by decide) hf (fun hf => ?_) (fun hf => ?_)
  · refine lv_aload_n hx hb dX3_newcomer_56 rfl (lv_at hl 0 rfl) ?_
    refine gf_X3_mind  hx hb hts hown hK hM tw_115 dX3_newcomer_57 ?_
    refine lv_aload_n hx hb dX3_newcomer_60 rfl (lv_at hl 0 rfl) ?_
    refine gf_X3_house  hx hb hts hown hK hM tw_114 dX3_newcomer_61 ?_
    refine wt_callVv (As := [.ref (B + 1)]) (rest := []) hx hb hml hts hown hK hM (wt_rc_X0 wt_h24) cw_X3_106 hd_X0_takeFrom rfl ⟨qz_b rfl, qz_b rfl⟩ ⟨rfl, rfl⟩ hl.1 rfl (qz_b rfl) dX3_newcomer_64 hf (fun _ _ h9 => c_X0_takeFrom wt_h24 wt_h1 h9) (fun r3 s4 H locs hf hM => ?_)
    refine lv_aload_n hx hb dX3_newcomer_67 rfl (lv_at hl 0 rfl) ?_
    refine gf_X3_mind  hx hb hts hown hK hM tw_115 dX3_newcomer_68 ?_
    refine lv_iload_n hx hb dX3_newcomer_71 rfl (lv_at hl 1 rfl) ?_
    refine lv_iconst (v := 5) hx hb dX3_newcomer_72 (by decide) ?_
    refine wt_callVi (As := [.int x1, .int (5 : Int32)]) (rest := []) hx hb hml hts hown hK hM (wt_rc_X0 wt_h24) cw_X3_156 hd_X0_addLooker rfl ⟨qz_b rfl, qz_b rfl⟩ ⟨rfl, rfl⟩ hl.1 rfl (qz_b rfl) dX3_newcomer_73 hf (fun _ _ h9 => c_X0_addLooker wt_h24 h9) (fun r5 s6 H locs hf hM => ?_)
    refine lv_pop hx hb dX3_newcomer_76 rfl ?_
    refine lv_aload_n hx hb dX3_newcomer_77 rfl (lv_at hl 0 rfl) ?_
    refine gf_X3_mind  hx hb hts hown hK hM tw_115 dX3_newcomer_78 ?_
    refine gf_X0_lookerCount wt_h24 hx hb hts hown hK hM tw_31 dX3_newcomer_81 ?_
    refine lv_iconst (v := 1) hx hb dX3_newcomer_84 (by decide) ?_
    refine lv_isub hx hb dX3_newcomer_85 ?_
    refine wt_leti hf (fun z7 hf => ?_)
    refine lv_istore (lv' := [(5, .int z7), (0, .ref (B + 0)), (1, .int x1), (2, .int x2), (3, .int x3), (4, .int x4)]) hx hb dX3_newcomer_86 hl (by decide) rfl (fun ls hl => ?_)
    refine lv_aload_n hx hb dX3_newcomer_88 rfl (lv_at hl 1 rfl) ?_
    refine gf_X3_mind  hx hb hts hown hK hM tw_115 dX3_newcomer_89 ?_
    refine lv_iload hx hb dX3_newcomer_92 (lv_at hl 0 rfl) ?_
    refine lv_iconst (v := 0) hx hb dX3_newcomer_94 (by decide) ?_
    refine lv_bipush (v := 23) hx hb dX3_newcomer_95 (by decide) ?_
    refine lv_iload_n hx hb dX3_newcomer_97 rfl (lv_at hl 3 rfl) ?_
    refine wt_callVi (As := [.int z7, .int (0 : Int32), .int (23 : Int32), .int x2]) (rest := []) hx hb hml hts hown hK hM (wt_rc_X0 wt_h24) cw_X3_170 hd_X0_post rfl ⟨qz_b rfl, qz_b rfl⟩ ⟨rfl, rfl⟩ hl.1 rfl (qz_b rfl) dX3_newcomer_98 hf (fun _ _ h9 => c_X0_post wt_h24 h9) (fun r8 s9 H locs hf hM => ?_)
    refine lv_pop hx hb dX3_newcomer_101 rfl ?_
    refine lv_aload_n hx hb dX3_newcomer_102 rfl (lv_at hl 1 rfl) ?_
    refine gf_X3_mind  hx hb hts hown hK hM tw_115 dX3_newcomer_103 ?_
    refine wt_callVv (As := []) (rest := []) hx hb hml hts hown hK hM (wt_rc_X0 wt_h24) cw_X3_141 hd_X0_reckon rfl ⟨qz_b rfl, qz_b rfl⟩ ⟨rfl, rfl⟩ hl.1 rfl (qz_b rfl) dX3_newcomer_106 hf (fun _ _ h9 => c_X0_reckon wt_h24 h9) (fun r10 s11 H locs hf hM => ?_)
    refine lv_iconst (v := 0) hx hb dX3_newcomer_109 (by decide) ?_
    refine lv_istore (lv' := [(6, .int (0 : Int32)), (5, .int z7), (0, .ref (B + 0)), (1, .int x1), (2, .int x2), (3, .int x3), (4, .int x4)]) hx hb dX3_newcomer_110 hl (by decide) rfl (fun ls hl => ?_)
    exact w_X3_newcomer_112 C _ _ _ _ _ _ hf hM (lv_sub hl [2, 5, 1, 0] rfl)
  refine lv_aload_n hx hb dX3_newcomer_49 rfl (lv_at hl 0 rfl) ?_
  refine lv_iload hx hb dX3_newcomer_50 (lv_at hl 4 rfl) ?_
  refine wt_callVi (As := [.int x4]) (rest := []) hx hb hml hts hown hK hM wt_rc_X3 cw_X3_61 hd_X3_refuse rfl ⟨qz_b rfl, qz_b rfl⟩ ⟨rfl, rfl⟩ hl.1 rfl (qz_b rfl) dX3_newcomer_52 hf (fun _ _ h9 => c_X3_refuse h9) (fun r12 s13 H locs hf hM => ?_)
  exact wt_iret hx hb hr hlk hK hM hf dX3_newcomer_55
set_option maxHeartbeats 4000000 in
set_option maxRecDepth 100000 in
theorem w_X3_newcomer_0 (C : wt_C p s m args meth c RX3 cX3_newcomer 8 (some .int) D tI tII) {F : Nat} {x1 : Int32} {x2 : Int32} {x3 : Int32} {σ : Mem} {r : Int32} {σ' : Mem} {H : Heap} {locs : List Loc} {ls : Array Slot} (hf : f_X3_newcomer F x1 x2 x3 σ = some (r, σ')) (hM : wt_St D tI tII B σ s H locs) (hl : lv_has ls 8 [(0, .ref (B + 0)), (1, .int x1), (2, .int x2), (3, .int x3)]) : W p l e rm_X3_newcomer s m args below meth c H locs 0 0 (MQ below (wt_Qi D tI tII B r σ') args s 0 0 (fun q => B ≤ q)) (F0 m 0 ls []) := by
  obtain ⟨hx, hb, hts, hown, hml, hr, hlk, hK⟩ := id C
  replace hf := Eq.trans f_X3_newcomer_e.symm hf
  refine lv_aload_n hx hb dX3_newcomer_0 rfl (lv_at hl 0 rfl) ?_
  refine lv_iload_n hx hb dX3_newcomer_1 rfl (lv_at hl 2 rfl) ?_
  refine wt_callVi (As := [.int x2]) (rest := []) hx hb hml hts hown hK hM wt_rc_X3 cw_X3_120 hd_X3_noPane rfl ⟨qz_b rfl, qz_b rfl⟩ ⟨rfl, rfl⟩ hl.1 rfl (qz_b rfl) dX3_newcomer_2 hf (fun _ _ h9 => c_X3_noPane h9) (fun r14 s15 H locs hf hM => ?_)
  refine lv_iload_n hx hb dX3_newcomer_5 rfl (lv_at hl 1 rfl) ?_
  refine lv_bipush (v := 6) hx hb dX3_newcomer_6 (by decide) ?_
  refine wt_callSi (As := [.int x1, .int (6 : Int32)]) (rest := [.int r14]) hx hb hml hts hown hK hM cw_X3_123 hd_X3_notBelow rfl ⟨qz_b rfl, qz_b rfl⟩ ⟨rfl, rfl⟩ hl.1 rfl (qz_b rfl) dX3_newcomer_8 hf (fun _ _ h9 => c_X3_notBelow h9) (fun r16 s17 H locs hf hM => ?_)
  refine lv_iload_n hx hb dX3_newcomer_11 rfl (lv_at hl 3 rfl) ?_
  refine lv_iconst (v := 2) hx hb dX3_newcomer_12 (by decide) ?_
  refine wt_callSi (As := [.int x3, .int (2 : Int32)]) (rest := [.int r16, .int r14]) hx hb hml hts hown hK hM cw_X3_123 hd_X3_notBelow rfl ⟨qz_b rfl, qz_b rfl⟩ ⟨rfl, rfl⟩ hl.1 rfl (qz_b rfl) dX3_newcomer_13 hf (fun _ _ h9 => c_X3_notBelow h9) (fun r18 s19 H locs hf hM => ?_)
  refine wt_callSi (As := [.int r16, .int r18]) (rest := [.int r14]) hx hb hml hts hown hK hM cw_X3_85 hd_X3_firstOf rfl ⟨qz_b rfl, qz_b rfl⟩ ⟨rfl, rfl⟩ hl.1 rfl (qz_b rfl) dX3_newcomer_16 hf (fun _ _ h9 => c_X3_firstOf h9) (fun r20 s21 H locs hf hM => ?_)
  refine wt_callSi (As := [.int r14, .int r20]) (rest := []) hx hb hml hts hown hK hM cw_X3_85 hd_X3_firstOf rfl ⟨qz_b rfl, qz_b rfl⟩ ⟨rfl, rfl⟩ hl.1 rfl (qz_b rfl) dX3_newcomer_19 hf (fun _ _ h9 => c_X3_firstOf h9) (fun r22 s23 H locs hf hM => ?_)
  refine lv_istore (lv' := [(4, .int r22), (0, .ref (B + 0)), (1, .int x1), (2, .int x2), (3, .int x3)]) hx hb dX3_newcomer_22 hl (by decide) rfl (fun ls hl => ?_)
  refine lv_iload hx hb dX3_newcomer_24 (lv_at hl 0 rfl) ?_
  refine wq_if_ne (tgt := 44) hx hb dX3_newcomer_26 (by decide) hf (fun hf => ?_) (fun hf => ?_)
  · exact w_X3_newcomer_44 C hf hM (lv_sub hl [1, 2, 3, 4, 0] rfl)
  refine lv_aload_n hx hb dX3_newcomer_29 rfl (lv_at hl 1 rfl) ?_
  refine gf_X3_house  hx hb hts hown hK hM tw_114 dX3_newcomer_30 ?_
  refine gf_X0_lookerCount wt_h1 hx hb hts hown hK hM tw_31 dX3_newcomer_33 ?_
  refine lv_iconst (v := 5) hx hb dX3_newcomer_36 (by decide) ?_
  refine wq_icmp_lt (tgt := 44) hx hb dX3_newcomer_37 (by decide) hf (fun hf => ?_) (fun hf => ?_)
  · exact w_X3_newcomer_44 C hf hM (lv_sub hl [1, 2, 3, 4, 0] rfl)
  refine lv_bipush (v := -3) hx hb dX3_newcomer_40 (by decide) ?_
  refine lv_istore (lv' := [(4, .int (-3 : Int32)), (0, .ref (B + 0)), (1, .int x1), (2, .int x2), (3, .int x3)]) hx hb dX3_newcomer_42 hl (by decide) rfl (fun ls hl => ?_)
  exact w_X3_newcomer_44 C hf hM (lv_sub hl [1, 2, 3, 4, 0] rfl)
end
set_option maxHeartbeats 4000000 in
set_option maxRecDepth 100000 in
theorem c_X3_newcomer {l : Launch} {D : va_G} {tI tII : ClassId} {B F : Nat} {x1 : Int32} {x2 : Int32} {x3 : Int32} {σ σ' : Mem} {r : Int32} (hf : f_X3_newcomer F x1 x2 x3 σ = some (r, σ')) : wt_Mi l yX3_newcomer cX3_newcomer 8 (some .int) rm_X3_newcomer [.ref (B + 0), .int x1, .int x2, .int x3] D tI tII B σ r σ' := by
  refine Met.ofW (cc := cX3_newcomer) (maxL := 8) (ret := (some .int)) (by decide) rfl ?_
  intro p e s m args below meth c s₁ B9 hml hv
  obtain ⟨rfl, hP, hK⟩ := hv
  have hl := lv_entry ([.ref (B + 0), .int x1, .int x2, .int x3]) (n := 8) (qz_b rfl)
  rw [lg_entry_eq]
  generalize (lg_sl ([.ref (B + 0), .int x1, .int x2, .int x3]) ++ List.replicate (8 - (lg_sl ([.ref (B + 0), .int x1, .int x2, .int x3])).length) Slot.unset).toArray = ls at hl ⊢
  exact w_X3_newcomer_0 (wt_C_of B9 hml hK) hf ⟨hP, va_S.rf⟩ hl
section
variable {p : Program} {l : Launch} {e : Env} {s : State} {m : MethodId} {args : Array Value} {below : List Frame} {meth : Method} {c : Code} {D : va_G} {tI tII : ClassId} {B : Nat}
set_option maxHeartbeats 4000000 in
set_option maxRecDepth 100000 in
theorem w_X3_mostSeen_63 (C : wt_C p s m args meth c RX3 cX3_mostSeen 7 (some .int) D tI tII) {F : Nat} {k31 : Int32 → Int32 → Int32 → Mem → Option (Int32 × Mem)} {x1 : Int32} {x3 : Int32} {x4 : Int32} {x5 : Int32} {σ : Mem} {r : Int32} {σ' : Mem} {H : Heap} {locs : List Loc} {ls : Array Slot} (hk31 : ∀ (x3 : Int32) (x4 : Int32) (x5 : Int32) (σ : Mem) (H : Heap) (locs : List Loc) (ls : Array Slot), k31 x3 x4 x5 σ = some (r, σ') → wt_St D tI tII B σ s H locs → lv_has ls 7 [(0, .ref (B + 0)), (1, .int x1), (3, .int x3), (4, .int x4), (5, .int x5)] → W p l e rm_X3_mostSeen s m args below meth c H locs 0 0 (MQ below (wt_Qi D tI tII B r σ') args s 0 0 (fun q => B ≤ q)) (F0 m 31 ls [])) (hf : j_X3_mostSeen_63 F k31 x1 x3 x4 x5 σ = some (r, σ')) (hM : wt_St D tI tII B σ s H locs) (hl : lv_has ls 7 [(0, .ref (B + 0)), (1, .int x1), (3, .int x3), (4, .int x4), (5, .int x5)]) : W p l e rm_X3_mostSeen s m args below meth c H locs 0 0 (MQ below (wt_Qi D tI tII B r σ') args s 0 0 (fun q => B ≤ q)) (F0 m 63 ls []) := by
  obtain ⟨hx, hb, hts, hown, hml, hr, hlk, hK⟩ := id C
  replace hf := Eq.trans j_X3_mostSeen_63_e.symm hf
  refine lv_iinc (v := (x5 + (1 : Int32))) (lv' := [(5, .int (x5 + (1 : Int32))), (0, .ref (B + 0)), (1, .int x1), (3, .int x3), (4, .int x4)]) hx hb dX3_mostSeen_63 hl (k := 4) rfl rfl (by decide) rfl (fun ls hl => ?_)
  refine lv_goto (tgt := 31) hx hb dX3_mostSeen_66 (by decide) ?_
  exact hk31 _ _ _ _ _ _ _ hf hM (lv_sub hl [1, 2, 3, 4, 0] rfl)
set_option maxHeartbeats 4000000 in
set_option maxRecDepth 100000 in
theorem w_X3_mostSeen_31 (C : wt_C p s m args meth c RX3 cX3_mostSeen 7 (some .int) D tI tII) {F : Nat} {x1 : Int32} {r : Int32} {σ' : Mem} : ∀ (N : Nat) (x3 : Int32) (x4 : Int32) (x5 : Int32) (σ : Mem) (H : Heap) (locs : List Loc) (ls : Array Slot), lp_X3_mostSeen_31 F x1 N x3 x4 x5 σ = some (r, σ') → wt_St D tI tII B σ s H locs → lv_has ls 7 [(0, .ref (B + 0)), (1, .int x1), (3, .int x3), (4, .int x4), (5, .int x5)] → W p l e rm_X3_mostSeen s m args below meth c H locs 0 0 (MQ below (wt_Qi D tI tII B r σ') args s 0 0 (fun q => B ≤ q)) (F0 m 31 ls []) := by
  obtain ⟨hx, hb, hts, hown, hml, hr, hlk, hK⟩ := id C
  intro N
  induction N with
  | zero => intro x3 x4 x5 σ H locs ls hf; exact wt_none (show (none : Option (Int32 × Mem)) = some (r, σ') from hf)
  | succ N ih =>
    intro x3 x4 x5 σ H locs ls hf hM hl
    replace hf := Eq.trans lp_X3_mostSeen_31_s.symm hf
    refine lv_iload hx hb dX3_mostSeen_31 (lv_at hl 4 rfl) ?_
    refine lv_bipush (v := 8) hx hb dX3_mostSeen_33 (by decide) ?_
    refine wq_icmp_ge (tgt := 69) hx hb dX3_mostSeen_35 (by decide) hf (fun hf => ?_) (fun hf => ?_)
    · refine lv_iload_n hx hb dX3_mostSeen_69 rfl (lv_at hl 1 rfl) ?_
      refine wq_if_ne (tgt := 77) hx hb dX3_mostSeen_70 (by decide) hf (fun hf => ?_) (fun hf => ?_)
      · refine lv_iload hx hb dX3_mostSeen_77 (lv_at hl 3 rfl) ?_
        exact wt_iret hx hb hr hlk hK hM hf dX3_mostSeen_79
      refine lv_iload_n hx hb dX3_mostSeen_73 rfl (lv_at hl 2 rfl) ?_
      refine lv_goto (tgt := 79) hx hb dX3_mostSeen_74 (by decide) ?_
      exact wt_iret hx hb hr hlk hK hM hf dX3_mostSeen_79
    refine lv_aload_n hx hb dX3_mostSeen_38 rfl (lv_at hl 0 rfl) ?_
    refine gf_X3_house  hx hb hts hown hK hM tw_114 dX3_mostSeen_39 ?_
    refine lv_iload hx hb dX3_mostSeen_42 (lv_at hl 4 rfl) ?_
    refine wt_callVi (As := [.int x5]) (rest := []) hx hb hml hts hown hK hM (wt_rc_X0 wt_h1) cw_X3_315 hd_X0_gainOfAll rfl ⟨qz_b rfl, qz_b rfl⟩ ⟨rfl, rfl⟩ hl.1 rfl (qz_b rfl) dX3_mostSeen_44 hf (fun _ _ h9 => c_X0_gainOfAll wt_h1 h9) (fun r1 s2 H locs hf hM => ?_)
    refine lv_istore (lv' := [(6, .int r1), (0, .ref (B + 0)), (1, .int x1), (3, .int x3), (4, .int x4), (5, .int x5)]) hx hb dX3_mostSeen_47 hl (by decide) rfl (fun ls hl => ?_)
    refine lv_iload hx hb dX3_mostSeen_49 (lv_at hl 0 rfl) ?_
    refine lv_iload hx hb dX3_mostSeen_51 (lv_at hl 4 rfl) ?_
    refine wq_icmp_le (tgt := 63) hx hb dX3_mostSeen_53 (by decide) hf (fun hf => ?_) (fun hf => ?_)
    · exact w_X3_mostSeen_63 C ih hf hM (lv_sub hl [1, 2, 3, 4, 5] rfl)
    refine lv_iload hx hb dX3_mostSeen_56 (lv_at hl 0 rfl) ?_
    refine lv_istore (lv' := [(4, .int r1), (6, .int r1), (0, .ref (B + 0)), (1, .int x1), (3, .int x3), (5, .int x5)]) hx hb dX3_mostSeen_58 hl (by decide) rfl (fun ls hl => ?_)
    refine lv_iload hx hb dX3_mostSeen_60 (lv_at hl 5 rfl) ?_
    refine lv_istore_n (lv' := [(3, .int x5), (4, .int r1), (6, .int r1), (0, .ref (B + 0)), (1, .int x1), (5, .int x5)]) hx hb dX3_mostSeen_62 rfl hl (by decide) rfl (fun ls hl => ?_)
    exact w_X3_mostSeen_63 C ih hf hM (lv_sub hl [3, 4, 0, 1, 5] rfl)
set_option maxHeartbeats 4000000 in
set_option maxRecDepth 100000 in
theorem w_X3_mostSeen_0 (C : wt_C p s m args meth c RX3 cX3_mostSeen 7 (some .int) D tI tII) {F : Nat} {x1 : Int32} {σ : Mem} {r : Int32} {σ' : Mem} {H : Heap} {locs : List Loc} {ls : Array Slot} (hf : f_X3_mostSeen F x1 σ = some (r, σ')) (hM : wt_St D tI tII B σ s H locs) (hl : lv_has ls 7 [(0, .ref (B + 0)), (1, .int x1)]) : W p l e rm_X3_mostSeen s m args below meth c H locs 0 0 (MQ below (wt_Qi D tI tII B r σ') args s 0 0 (fun q => B ≤ q)) (F0 m 0 ls []) := by
  obtain ⟨hx, hb, hts, hown, hml, hr, hlk, hK⟩ := id C
  replace hf := Eq.trans f_X3_mostSeen_e.symm hf
  refine lv_iload_n hx hb dX3_mostSeen_0 rfl (lv_at hl 1 rfl) ?_
  refine lv_iconst (v := 2) hx hb dX3_mostSeen_1 (by decide) ?_
  refine wt_callSi (As := [.int x1, .int (2 : Int32)]) (rest := []) hx hb hml hts hown hK hM cw_X3_123 hd_X3_notBelow rfl ⟨qz_b rfl, qz_b rfl⟩ ⟨rfl, rfl⟩ hl.1 rfl (qz_b rfl) dX3_mostSeen_2 hf (fun _ _ h9 => c_X3_notBelow h9) (fun r3 s4 H locs hf hM => ?_)
  refine lv_istore_n (lv' := [(2, .int r3), (0, .ref (B + 0)), (1, .int x1)]) hx hb dX3_mostSeen_5 rfl hl (by decide) rfl (fun ls hl => ?_)
  refine lv_iload_n hx hb dX3_mostSeen_6 rfl (lv_at hl 0 rfl) ?_
  refine wq_if_eq (tgt := 16) hx hb dX3_mostSeen_7 (by decide) hf (fun hf => ?_) (fun hf => ?_)
  · refine lv_aload_n hx hb dX3_mostSeen_16 rfl (lv_at hl 1 rfl) ?_
    refine gf_X3_house  hx hb hts hown hK hM tw_114 dX3_mostSeen_17 ?_
    refine wt_callVv (As := []) (rest := []) hx hb hml hts hown hK hM (wt_rc_X0 wt_h1) cw_X3_141 hd_X0_reckon rfl ⟨qz_b rfl, qz_b rfl⟩ ⟨rfl, rfl⟩ hl.1 rfl (qz_b rfl) dX3_mostSeen_20 hf (fun _ _ h9 => c_X0_reckon wt_h1 h9) (fun r5 s6 H locs hf hM => ?_)
    refine lv_iconst (v := 0) hx hb dX3_mostSeen_23 (by decide) ?_
    refine lv_istore_n (lv' := [(3, .int (0 : Int32)), (2, .int r3), (0, .ref (B + 0)), (1, .int x1)]) hx hb dX3_mostSeen_24 rfl hl (by decide) rfl (fun ls hl => ?_)
    refine lv_iconst (v := 0) hx hb dX3_mostSeen_25 (by decide) ?_
    refine lv_istore (lv' := [(4, .int (0 : Int32)), (3, .int (0 : Int32)), (2, .int r3), (0, .ref (B + 0)), (1, .int x1)]) hx hb dX3_mostSeen_26 hl (by decide) rfl (fun ls hl => ?_)
    refine lv_iconst (v := 0) hx hb dX3_mostSeen_28 (by decide) ?_
    refine lv_istore (lv' := [(5, .int (0 : Int32)), (4, .int (0 : Int32)), (3, .int (0 : Int32)), (2, .int r3), (0, .ref (B + 0)), (1, .int x1)]) hx hb dX3_mostSeen_29 hl (by decide) rfl (fun ls hl => ?_)
    exact w_X3_mostSeen_31 C _ _ _ _ _ _ _ _ hf hM (lv_sub hl [4, 5, 2, 1, 0] rfl)
  refine lv_aload_n hx hb dX3_mostSeen_10 rfl (lv_at hl 1 rfl) ?_
  refine lv_iload_n hx hb dX3_mostSeen_11 rfl (lv_at hl 0 rfl) ?_
  refine wt_callVi (As := [.int r3]) (rest := []) hx hb hml hts hown hK hM wt_rc_X3 cw_X3_61 hd_X3_refuse rfl ⟨qz_b rfl, qz_b rfl⟩ ⟨rfl, rfl⟩ hl.1 rfl (qz_b rfl) dX3_mostSeen_12 hf (fun _ _ h9 => c_X3_refuse h9) (fun r7 s8 H locs hf hM => ?_)
  exact wt_iret hx hb hr hlk hK hM hf dX3_mostSeen_15
end
set_option maxHeartbeats 4000000 in
set_option maxRecDepth 100000 in
theorem c_X3_mostSeen {l : Launch} {D : va_G} {tI tII : ClassId} {B F : Nat} {x1 : Int32} {σ σ' : Mem} {r : Int32} (hf : f_X3_mostSeen F x1 σ = some (r, σ')) : wt_Mi l yX3_mostSeen cX3_mostSeen 7 (some .int) rm_X3_mostSeen [.ref (B + 0), .int x1] D tI tII B σ r σ' := by
  refine Met.ofW (cc := cX3_mostSeen) (maxL := 7) (ret := (some .int)) (by decide) rfl ?_
  intro p e s m args below meth c s₁ B9 hml hv
  obtain ⟨rfl, hP, hK⟩ := hv
  have hl := lv_entry ([.ref (B + 0), .int x1]) (n := 7) (qz_b rfl)
  rw [lg_entry_eq]
  generalize (lg_sl ([.ref (B + 0), .int x1]) ++ List.replicate (7 - (lg_sl ([.ref (B + 0), .int x1])).length) Slot.unset).toArray = ls at hl ⊢
  exact w_X3_mostSeen_0 (wt_C_of B9 hml hK) hf ⟨hP, va_S.rf⟩ hl
