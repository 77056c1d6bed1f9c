theorem dX4_bestPane_0 : decode cX4_bestPane 0 = .ok (.aload_n 0, 1) := qd_p qo_42 (by decide +kernel)
theorem dX4_bestPane_1 : decode cX4_bestPane 1 = .ok (.iconst 0, 1) := qd_p qo_3 (by decide +kernel)
theorem dX4_bestPane_2 : decode cX4_bestPane 2 = .ok (.putfield 70, 3) := qz_2 .putfield 0 70 qo_181 (by decide +kernel) rfl
theorem dX4_bestPane_5 : decode cX4_bestPane 5 = .ok (.aload_n 0, 1) := qd_p qo_42 (by decide +kernel)
theorem dX4_bestPane_6 : decode cX4_bestPane 6 = .ok (.iload_n 1, 1) := qd_p qo_27 (by decide +kernel)
theorem dX4_bestPane_7 : decode cX4_bestPane 7 = .ok (.invokevirtual 88, 3) := qz_2 .invokevirtual 0 88 qo_182 (by decide +kernel) rfl
theorem dX4_bestPane_10 : decode cX4_bestPane 10 = .ok (.ifCond .eq 21, 3) := qz_s2 (.ifCond .eq) 0 21 qo_153 (by decide +kernel) rfl
theorem dX4_bestPane_13 : decode cX4_bestPane 13 = .ok (.iload_n 2, 1) := qd_p qo_28 (by decide +kernel)
theorem dX4_bestPane_14 : decode cX4_bestPane 14 = .ok (.invokestatic 237, 3) := qz_2 .invokestatic 0 237 qo_184 (by decide +kernel) rfl
theorem dX4_bestPane_17 : decode cX4_bestPane 17 = .ok (.ifCond .eq 14, 3) := qz_s2 (.ifCond .eq) 0 14 qo_153 (by decide +kernel) rfl
theorem dX4_bestPane_20 : decode cX4_bestPane 20 = .ok (.iload_n 3, 1) := qd_p qo_29 (by decide +kernel)
theorem dX4_bestPane_21 : decode cX4_bestPane 21 = .ok (.iconst 0, 1) := qd_p qo_3 (by decide +kernel)
theorem dX4_bestPane_22 : decode cX4_bestPane 22 = .ok (.sipush 999, 3) := qz_s2 .sipush 3 231 qo_17 (by decide +kernel) rfl
theorem dX4_bestPane_25 : decode cX4_bestPane 25 = .ok (.invokestatic 231, 3) := qz_2 .invokestatic 0 231 qo_184 (by decide +kernel) rfl
theorem dX4_bestPane_28 : decode cX4_bestPane 28 = .ok (.goto 4, 3) := qz_s2 .goto 0 4 qo_167 (by decide +kernel) rfl
theorem dX4_bestPane_31 : decode cX4_bestPane 31 = .ok (.iconst (-1), 1) := qd_p qo_2 (by decide +kernel)
theorem dX4_bestPane_32 : decode cX4_bestPane 32 = .ok (.iload 4, 2) := qz_1 .iload 4 qo_21 (by decide +kernel)
theorem dX4_bestPane_34 : decode cX4_bestPane 34 = .ok (.iconst 1, 1) := qd_p qo_4 (by decide +kernel)
theorem dX4_bestPane_35 : decode cX4_bestPane 35 = .ok (.invokestatic 251, 3) := qz_2 .invokestatic 0 251 qo_184 (by decide +kernel) rfl
theorem dX4_bestPane_38 : decode cX4_bestPane 38 = .ok (.istore 5, 2) := qz_1 .istore 5 qo_54 (by decide +kernel)
theorem dX4_bestPane_40 : decode cX4_bestPane 40 = .ok (.iload 5, 2) := qz_1 .iload 5 qo_21 (by decide +kernel)
theorem dX4_bestPane_42 : decode cX4_bestPane 42 = .ok (.ifCond .ge 10, 3) := qz_s2 (.ifCond .ge) 0 10 qo_156 (by decide +kernel) rfl
theorem dX4_bestPane_45 : decode cX4_bestPane 45 = .ok (.aload_n 0, 1) := qd_p qo_42 (by decide +kernel)
theorem dX4_bestPane_46 : decode cX4_bestPane 46 = .ok (.iload 5, 2) := qz_1 .iload 5 qo_21 (by decide +kernel)
theorem dX4_bestPane_48 : decode cX4_bestPane 48 = .ok (.invokevirtual 143, 3) := qz_2 .invokevirtual 0 143 qo_182 (by decide +kernel) rfl
theorem dX4_bestPane_51 : decode cX4_bestPane 51 = .ok (.ireturn, 1) := qd_p qo_172 (by decide +kernel)
theorem dX4_bestPane_52 : decode cX4_bestPane 52 = .ok (.aload_n 0, 1) := qd_p qo_42 (by decide +kernel)
theorem dX4_bestPane_53 : decode cX4_bestPane 53 = .ok (.getfield 22, 3) := qz_2 .getfield 0 22 qo_180 (by decide +kernel) rfl
theorem dX4_bestPane_56 : decode cX4_bestPane 56 = .ok (.bipush 24, 2) := qz_s1 .bipush 24 qo_16 (by decide +kernel) rfl
theorem dX4_bestPane_58 : decode cX4_bestPane 58 = .ok (.iload_n 1, 1) := qd_p qo_27 (by decide +kernel)
theorem dX4_bestPane_59 : decode cX4_bestPane 59 = .ok (.imul, 1) := qd_p qo_104 (by decide +kernel)
theorem dX4_bestPane_60 : decode cX4_bestPane 60 = .ok (.iload_n 2, 1) := qd_p qo_28 (by decide +kernel)
theorem dX4_bestPane_61 : decode cX4_bestPane 61 = .ok (.iadd, 1) := qd_p qo_96 (by decide +kernel)
theorem dX4_bestPane_62 : decode cX4_bestPane 62 = .ok (.iaload, 1) := qd_p qo_46 (by decide +kernel)
theorem dX4_bestPane_63 : decode cX4_bestPane 63 = .ok (.istore 6, 2) := qz_1 .istore 6 qo_54 (by decide +kernel)
theorem dX4_bestPane_65 : decode cX4_bestPane 65 = .ok (.iconst (-1), 1) := qd_p qo_2 (by decide +kernel)
theorem dX4_bestPane_66 : decode cX4_bestPane 66 = .ok (.istore 7, 2) := qz_1 .istore 7 qo_54 (by decide +kernel)
theorem dX4_bestPane_68 : decode cX4_bestPane 68 = .ok (.iconst (-1), 1) := qd_p qo_2 (by decide +kernel)
theorem dX4_bestPane_69 : decode cX4_bestPane 69 = .ok (.istore 8, 2) := qz_1 .istore 8 qo_54 (by decide +kernel)
theorem dX4_bestPane_71 : decode cX4_bestPane 71 = .ok (.iconst 0, 1) := qd_p qo_3 (by decide +kernel)
theorem dX4_bestPane_72 : decode cX4_bestPane 72 = .ok (.istore 9, 2) := qz_1 .istore 9 qo_54 (by decide +kernel)
theorem dX4_bestPane_74 : decode cX4_bestPane 74 = .ok (.iload 9, 2) := qz_1 .iload 9 qo_21 (by decide +kernel)
theorem dX4_bestPane_76 : decode cX4_bestPane 76 = .ok (.aload_n 0, 1) := qd_p qo_42 (by decide +kernel)
theorem dX4_bestPane_77 : decode cX4_bestPane 77 = .ok (.getfield 81, 3) := qz_2 .getfield 0 81 qo_180 (by decide +kernel) rfl
theorem dX4_bestPane_80 : decode cX4_bestPane 80 = .ok (.if_icmp .gt 90, 3) := qz_s2 (.if_icmp .gt) 0 90 qo_163 (by decide +kernel) rfl
theorem dX4_bestPane_83 : decode cX4_bestPane 83 = .ok (.aload_n 0, 1) := qd_p qo_42 (by decide +kernel)
theorem dX4_bestPane_84 : decode cX4_bestPane 84 = .ok (.getfield 22, 3) := qz_2 .getfield 0 22 qo_180 (by decide +kernel) rfl
theorem dX4_bestPane_87 : decode cX4_bestPane 87 = .ok (.bipush 24, 2) := qz_s1 .bipush 24 qo_16 (by decide +kernel) rfl
theorem dX4_bestPane_89 : decode cX4_bestPane 89 = .ok (.iload_n 1, 1) := qd_p qo_27 (by decide +kernel)
theorem dX4_bestPane_90 : decode cX4_bestPane 90 = .ok (.imul, 1) := qd_p qo_104 (by decide +kernel)
theorem dX4_bestPane_91 : decode cX4_bestPane 91 = .ok (.iload_n 2, 1) := qd_p qo_28 (by decide +kernel)
theorem dX4_bestPane_92 : decode cX4_bestPane 92 = .ok (.iadd, 1) := qd_p qo_96 (by decide +kernel)
theorem dX4_bestPane_93 : decode cX4_bestPane 93 = .ok (.iload 9, 2) := qz_1 .iload 9 qo_21 (by decide +kernel)
theorem dX4_bestPane_95 : decode cX4_bestPane 95 = .ok (.aload_n 0, 1) := qd_p qo_42 (by decide +kernel)
theorem dX4_bestPane_96 : decode cX4_bestPane 96 = .ok (.getfield 81, 3) := qz_2 .getfield 0 81 qo_180 (by decide +kernel) rfl
theorem dX4_bestPane_99 : decode cX4_bestPane 99 = .ok (.if_icmp .ne 8, 3) := qz_s2 (.if_icmp .ne) 0 8 qo_160 (by decide +kernel) rfl
theorem dX4_bestPane_102 : decode cX4_bestPane 102 = .ok (.bipush (-9), 2) := qz_s1 .bipush 247 qo_16 (by decide +kernel) rfl
theorem dX4_bestPane_104 : decode cX4_bestPane 104 = .ok (.goto 5, 3) := qz_s2 .goto 0 5 qo_167 (by decide +kernel) rfl
theorem dX4_bestPane_107 : decode cX4_bestPane 107 = .ok (.iload 9, 2) := qz_1 .iload 9 qo_21 (by decide +kernel)
theorem dX4_bestPane_109 : decode cX4_bestPane 109 = .ok (.iastore, 1) := qd_p qo_79 (by decide +kernel)
theorem dX4_bestPane_110 : decode cX4_bestPane 110 = .ok (.aload_n 0, 1) := qd_p qo_42 (by decide +kernel)
theorem dX4_bestPane_111 : decode cX4_bestPane 111 = .ok (.iload_n 1, 1) := qd_p qo_27 (by decide +kernel)
theorem dX4_bestPane_112 : decode cX4_bestPane 112 = .ok (.iload_n 3, 1) := qd_p qo_29 (by decide +kernel)
theorem dX4_bestPane_113 : decode cX4_bestPane 113 = .ok (.invokevirtual 260, 3) := qz_2 .invokevirtual 1 4 qo_182 (by decide +kernel) rfl
theorem dX4_bestPane_116 : decode cX4_bestPane 116 = .ok (.istore 10, 2) := qz_1 .istore 10 qo_54 (by decide +kernel)
theorem dX4_bestPane_118 : decode cX4_bestPane 118 = .ok (.iload 10, 2) := qz_1 .iload 10 qo_21 (by decide +kernel)
theorem dX4_bestPane_120 : decode cX4_bestPane 120 = .ok (.iload 8, 2) := qz_1 .iload 8 qo_21 (by decide +kernel)
theorem dX4_bestPane_122 : decode cX4_bestPane 122 = .ok (.if_icmp .le 22, 3) := qz_s2 (.if_icmp .le) 0 22 qo_164 (by decide +kernel) rfl
theorem dX4_bestPane_125 : decode cX4_bestPane 125 = .ok (.iload 9, 2) := qz_1 .iload 9 qo_21 (by decide +kernel)
theorem dX4_bestPane_127 : decode cX4_bestPane 127 = .ok (.aload_n 0, 1) := qd_p qo_42 (by decide +kernel)
theorem dX4_bestPane_128 : decode cX4_bestPane 128 = .ok (.getfield 81, 3) := qz_2 .getfield 0 81 qo_180 (by decide +kernel) rfl
theorem dX4_bestPane_131 : decode cX4_bestPane 131 = .ok (.if_icmp .ne 8, 3) := qz_s2 (.if_icmp .ne) 0 8 qo_160 (by decide +kernel) rfl
theorem dX4_bestPane_134 : decode cX4_bestPane 134 = .ok (.bipush 9, 2) := qz_s1 .bipush 9 qo_16 (by decide +kernel) rfl
theorem dX4_bestPane_136 : decode cX4_bestPane 136 = .ok (.goto 10, 3) := qz_s2 .goto 0 10 qo_167 (by decide +kernel) rfl
theorem dX4_bestPane_139 : decode cX4_bestPane 139 = .ok (.iload 9, 2) := qz_1 .iload 9 qo_21 (by decide +kernel)
theorem dX4_bestPane_141 : decode cX4_bestPane 141 = .ok (.goto 5, 3) := qz_s2 .goto 0 5 qo_167 (by decide +kernel) rfl
theorem dX4_bestPane_144 : decode cX4_bestPane 144 = .ok (.iload 7, 2) := qz_1 .iload 7 qo_21 (by decide +kernel)
theorem dX4_bestPane_146 : decode cX4_bestPane 146 = .ok (.istore 7, 2) := qz_1 .istore 7 qo_54 (by decide +kernel)
theorem dX4_bestPane_148 : decode cX4_bestPane 148 = .ok (.iload 10, 2) := qz_1 .iload 10 qo_21 (by decide +kernel)
theorem dX4_bestPane_150 : decode cX4_bestPane 150 = .ok (.iload 8, 2) := qz_1 .iload 8 qo_21 (by decide +kernel)
theorem dX4_bestPane_152 : decode cX4_bestPane 152 = .ok (.if_icmp .le 8, 3) := qz_s2 (.if_icmp .le) 0 8 qo_164 (by decide +kernel) rfl
theorem dX4_bestPane_155 : decode cX4_bestPane 155 = .ok (.iload 10, 2) := qz_1 .iload 10 qo_21 (by decide +kernel)
theorem dX4_bestPane_157 : decode cX4_bestPane 157 = .ok (.goto 5, 3) := qz_s2 .goto 0 5 qo_167 (by decide +kernel) rfl
theorem dX4_bestPane_160 : decode cX4_bestPane 160 = .ok (.iload 8, 2) := qz_1 .iload 8 qo_21 (by decide +kernel)
theorem dX4_bestPane_162 : decode cX4_bestPane 162 = .ok (.istore 8, 2) := qz_1 .istore 8 qo_54 (by decide +kernel)
theorem dX4_bestPane_164 : decode cX4_bestPane 164 = .ok (.iinc 9 1, 3) := qd_i (x := 9) (y := 1) qo_132 (by decide +kernel) rfl
theorem dX4_bestPane_167 : decode cX4_bestPane 167 = .ok (.goto (-93), 3) := qz_s2 .goto 255 163 qo_167 (by decide +kernel) rfl
theorem dX4_bestPane_170 : decode cX4_bestPane 170 = .ok (.aload_n 0, 1) := qd_p qo_42 (by decide +kernel)
theorem dX4_bestPane_171 : decode cX4_bestPane 171 = .ok (.getfield 22, 3) := qz_2 .getfield 0 22 qo_180 (by decide +kernel) rfl
theorem dX4_bestPane_174 : decode cX4_bestPane 174 = .ok (.bipush 24, 2) := qz_s1 .bipush 24 qo_16 (by decide +kernel) rfl
theorem dX4_bestPane_176 : decode cX4_bestPane 176 = .ok (.iload_n 1, 1) := qd_p qo_27 (by decide +kernel)
theorem dX4_bestPane_177 : decode cX4_bestPane 177 = .ok (.imul, 1) := qd_p qo_104 (by decide +kernel)
theorem dX4_bestPane_178 : decode cX4_bestPane 178 = .ok (.iload_n 2, 1) := qd_p qo_28 (by decide +kernel)
theorem dX4_bestPane_179 : decode cX4_bestPane 179 = .ok (.iadd, 1) := qd_p qo_96 (by decide +kernel)
theorem dX4_bestPane_180 : decode cX4_bestPane 180 = .ok (.iload 6, 2) := qz_1 .iload 6 qo_21 (by decide +kernel)
theorem dX4_bestPane_182 : decode cX4_bestPane 182 = .ok (.iastore, 1) := qd_p qo_79 (by decide +kernel)
theorem dX4_bestPane_183 : decode cX4_bestPane 183 = .ok (.iload 4, 2) := qz_1 .iload 4 qo_21 (by decide +kernel)
theorem dX4_bestPane_185 : decode cX4_bestPane 185 = .ok (.ifCond .ne 8, 3) := qz_s2 (.ifCond .ne) 0 8 qo_154 (by decide +kernel) rfl
theorem dX4_bestPane_188 : decode cX4_bestPane 188 = .ok (.iload 7, 2) := qz_1 .iload 7 qo_21 (by decide +kernel)
theorem dX4_bestPane_190 : decode cX4_bestPane 190 = .ok (.goto 5, 3) := qz_s2 .goto 0 5 qo_167 (by decide +kernel) rfl
theorem dX4_bestPane_193 : decode cX4_bestPane 193 = .ok (.iload 8, 2) := qz_1 .iload 8 qo_21 (by decide +kernel)
theorem dX4_bestPane_195 : decode cX4_bestPane 195 = .ok (.ireturn, 1) := qd_p qo_172 (by decide +kernel)
theorem dX4_freeHours_0 : decode cX4_freeHours 0 = .ok (.aload_n 0, 1) := qd_p qo_42 (by decide +kernel)
theorem dX4_freeHours_1 : decode cX4_freeHours 1 = .ok (.iconst 0, 1) := qd_p qo_3 (by decide +kernel)
theorem dX4_freeHours_2 : decode cX4_freeHours 2 = .ok (.putfield 70, 3) := qz_2 .putfield 0 70 qo_181 (by decide +kernel) rfl
theorem dX4_freeHours_5 : decode cX4_freeHours 5 = .ok (.aload_n 0, 1) := qd_p qo_42 (by decide +kernel)
theorem dX4_freeHours_6 : decode cX4_freeHours 6 = .ok (.iload_n 1, 1) := qd_p qo_27 (by decide +kernel)
theorem dX4_freeHours_7 : decode cX4_freeHours 7 = .ok (.invokevirtual 88, 3) := qz_2 .invokevirtual 0 88 qo_182 (by decide +kernel) rfl
theorem dX4_freeHours_10 : decode cX4_freeHours 10 = .ok (.ifCond .eq 14, 3) := qz_s2 (.ifCond .eq) 0 14 qo_153 (by decide +kernel) rfl
theorem dX4_freeHours_13 : decode cX4_freeHours 13 = .ok (.iload_n 2, 1) := qd_p qo_28 (by decide +kernel)
theorem dX4_freeHours_14 : decode cX4_freeHours 14 = .ok (.iconst 0, 1) := qd_p qo_3 (by decide +kernel)
theorem dX4_freeHours_15 : decode cX4_freeHours 15 = .ok (.sipush 999, 3) := qz_s2 .sipush 3 231 qo_17 (by decide +kernel) rfl
theorem dX4_freeHours_18 : decode cX4_freeHours 18 = .ok (.invokestatic 231, 3) := qz_2 .invokestatic 0 231 qo_184 (by decide +kernel) rfl
theorem dX4_freeHours_21 : decode cX4_freeHours 21 = .ok (.goto 4, 3) := qz_s2 .goto 0 4 qo_167 (by decide +kernel) rfl
theorem dX4_freeHours_24 : decode cX4_freeHours 24 = .ok (.iconst (-1), 1) := qd_p qo_2 (by decide +kernel)
theorem dX4_freeHours_25 : decode cX4_freeHours 25 = .ok (.istore_n 3, 1) := qd_p qo_62 (by decide +kernel)
theorem dX4_freeHours_26 : decode cX4_freeHours 26 = .ok (.iload_n 3, 1) := qd_p qo_29 (by decide +kernel)
theorem dX4_freeHours_27 : decode cX4_freeHours 27 = .ok (.ifCond .ge 9, 3) := qz_s2 (.ifCond .ge) 0 9 qo_156 (by decide +kernel) rfl
theorem dX4_freeHours_30 : decode cX4_freeHours 30 = .ok (.aload_n 0, 1) := qd_p qo_42 (by decide +kernel)
theorem dX4_freeHours_31 : decode cX4_freeHours 31 = .ok (.iload_n 3, 1) := qd_p qo_29 (by decide +kernel)
theorem dX4_freeHours_32 : decode cX4_freeHours 32 = .ok (.invokevirtual 143, 3) := qz_2 .invokevirtual 0 143 qo_182 (by decide +kernel) rfl
theorem dX4_freeHours_35 : decode cX4_freeHours 35 = .ok (.ireturn, 1) := qd_p qo_172 (by decide +kernel)
theorem dX4_freeHours_36 : decode cX4_freeHours 36 = .ok (.aload_n 0, 1) := qd_p qo_42 (by decide +kernel)
theorem dX4_freeHours_37 : decode cX4_freeHours 37 = .ok (.invokevirtual 134, 3) := qz_2 .invokevirtual 0 134 qo_182 (by decide +kernel) rfl
theorem dX4_freeHours_40 : decode cX4_freeHours 40 = .ok (.aload_n 0, 1) := qd_p qo_42 (by decide +kernel)
theorem dX4_freeHours_41 : decode cX4_freeHours 41 = .ok (.iload_n 1, 1) := qd_p qo_27 (by decide +kernel)
theorem dX4_freeHours_42 : decode cX4_freeHours 42 = .ok (.iload_n 2, 1) := qd_p qo_28 (by decide +kernel)
theorem dX4_freeHours_43 : decode cX4_freeHours 43 = .ok (.invokevirtual 128, 3) := qz_2 .invokevirtual 0 128 qo_182 (by decide +kernel) rfl
theorem dX4_freeHours_46 : decode cX4_freeHours 46 = .ok (.istore 4, 2) := qz_1 .istore 4 qo_54 (by decide +kernel)
theorem dX4_freeHours_48 : decode cX4_freeHours 48 = .ok (.iconst 0, 1) := qd_p qo_3 (by decide +kernel)
theorem dX4_freeHours_49 : decode cX4_freeHours 49 = .ok (.istore 5, 2) := qz_1 .istore 5 qo_54 (by decide +kernel)
theorem dX4_freeHours_51 : decode cX4_freeHours 51 = .ok (.iconst 0, 1) := qd_p qo_3 (by decide +kernel)
theorem dX4_freeHours_52 : decode cX4_freeHours 52 = .ok (.istore 6, 2) := qz_1 .istore 6 qo_54 (by decide +kernel)
theorem dX4_freeHours_54 : decode cX4_freeHours 54 = .ok (.iload 6, 2) := qz_1 .iload 6 qo_21 (by decide +kernel)
theorem dX4_freeHours_56 : decode cX4_freeHours 56 = .ok (.bipush 24, 2) := qz_s1 .bipush 24 qo_16 (by decide +kernel) rfl
theorem dX4_freeHours_58 : decode cX4_freeHours 58 = .ok (.if_icmp .ge 84, 3) := qz_s2 (.if_icmp .ge) 0 84 qo_162 (by decide +kernel) rfl
theorem dX4_freeHours_61 : decode cX4_freeHours 61 = .ok (.aload_n 0, 1) := qd_p qo_42 (by decide +kernel)
theorem dX4_freeHours_62 : decode cX4_freeHours 62 = .ok (.getfield 22, 3) := qz_2 .getfield 0 22 qo_180 (by decide +kernel) rfl
theorem dX4_freeHours_65 : decode cX4_freeHours 65 = .ok (.bipush 24, 2) := qz_s1 .bipush 24 qo_16 (by decide +kernel) rfl
theorem dX4_freeHours_67 : decode cX4_freeHours 67 = .ok (.iload_n 1, 1) := qd_p qo_27 (by decide +kernel)
theorem dX4_freeHours_68 : decode cX4_freeHours 68 = .ok (.imul, 1) := qd_p qo_104 (by decide +kernel)
theorem dX4_freeHours_69 : decode cX4_freeHours 69 = .ok (.iload 6, 2) := qz_1 .iload 6 qo_21 (by decide +kernel)
theorem dX4_freeHours_71 : decode cX4_freeHours 71 = .ok (.iadd, 1) := qd_p qo_96 (by decide +kernel)
theorem dX4_freeHours_72 : decode cX4_freeHours 72 = .ok (.iaload, 1) := qd_p qo_46 (by decide +kernel)
theorem dX4_freeHours_73 : decode cX4_freeHours 73 = .ok (.istore 7, 2) := qz_1 .istore 7 qo_54 (by decide +kernel)
theorem dX4_freeHours_75 : decode cX4_freeHours 75 = .ok (.aload_n 0, 1) := qd_p qo_42 (by decide +kernel)
theorem dX4_freeHours_76 : decode cX4_freeHours 76 = .ok (.getfield 22, 3) := qz_2 .getfield 0 22 qo_180 (by decide +kernel) rfl
theorem dX4_freeHours_79 : decode cX4_freeHours 79 = .ok (.bipush 24, 2) := qz_s1 .bipush 24 qo_16 (by decide +kernel) rfl
theorem dX4_freeHours_81 : decode cX4_freeHours 81 = .ok (.iload_n 1, 1) := qd_p qo_27 (by decide +kernel)
theorem dX4_freeHours_82 : decode cX4_freeHours 82 = .ok (.imul, 1) := qd_p qo_104 (by decide +kernel)
theorem dX4_freeHours_83 : decode cX4_freeHours 83 = .ok (.iload 6, 2) := qz_1 .iload 6 qo_21 (by decide +kernel)
theorem dX4_freeHours_85 : decode cX4_freeHours 85 = .ok (.iadd, 1) := qd_p qo_96 (by decide +kernel)
theorem dX4_freeHours_86 : decode cX4_freeHours 86 = .ok (.bipush (-9), 2) := qz_s1 .bipush 247 qo_16 (by decide +kernel) rfl
theorem dX4_freeHours_88 : decode cX4_freeHours 88 = .ok (.iastore, 1) := qd_p qo_79 (by decide +kernel)
theorem dX4_freeHours_89 : decode cX4_freeHours 89 = .ok (.aload_n 0, 1) := qd_p qo_42 (by decide +kernel)
theorem dX4_freeHours_90 : decode cX4_freeHours 90 = .ok (.invokevirtual 134, 3) := qz_2 .invokevirtual 0 134 qo_182 (by decide +kernel) rfl
theorem dX4_freeHours_93 : decode cX4_freeHours 93 = .ok (.iload 5, 2) := qz_1 .iload 5 qo_21 (by decide +kernel)
theorem dX4_freeHours_95 : decode cX4_freeHours 95 = .ok (.iload 7, 2) := qz_1 .iload 7 qo_21 (by decide +kernel)
theorem dX4_freeHours_97 : decode cX4_freeHours 97 = .ok (.ifCond .lt 21, 3) := qz_s2 (.ifCond .lt) 0 21 qo_155 (by decide +kernel) rfl
theorem dX4_freeHours_100 : decode cX4_freeHours 100 = .ok (.aload_n 0, 1) := qd_p qo_42 (by decide +kernel)
theorem dX4_freeHours_101 : decode cX4_freeHours 101 = .ok (.iload_n 1, 1) := qd_p qo_27 (by decide +kernel)
theorem dX4_freeHours_102 : decode cX4_freeHours 102 = .ok (.iload_n 2, 1) := qd_p qo_28 (by decide +kernel)
theorem dX4_freeHours_103 : decode cX4_freeHours 103 = .ok (.invokevirtual 128, 3) := qz_2 .invokevirtual 0 128 qo_182 (by decide +kernel) rfl
theorem dX4_freeHours_106 : decode cX4_freeHours 106 = .ok (.iload 4, 2) := qz_1 .iload 4 qo_21 (by decide +kernel)
theorem dX4_freeHours_108 : decode cX4_freeHours 108 = .ok (.if_icmp .ne 10, 3) := qz_s2 (.if_icmp .ne) 0 10 qo_160 (by decide +kernel) rfl
theorem dX4_freeHours_111 : decode cX4_freeHours 111 = .ok (.iconst 1, 1) := qd_p qo_4 (by decide +kernel)
theorem dX4_freeHours_112 : decode cX4_freeHours 112 = .ok (.iload 6, 2) := qz_1 .iload 6 qo_21 (by decide +kernel)
theorem dX4_freeHours_114 : decode cX4_freeHours 114 = .ok (.ishl, 1) := qd_p qo_120 (by decide +kernel)
theorem dX4_freeHours_115 : decode cX4_freeHours 115 = .ok (.goto 4, 3) := qz_s2 .goto 0 4 qo_167 (by decide +kernel) rfl
theorem dX4_freeHours_118 : decode cX4_freeHours 118 = .ok (.iconst 0, 1) := qd_p qo_3 (by decide +kernel)
theorem dX4_freeHours_119 : decode cX4_freeHours 119 = .ok (.ior, 1) := qd_p qo_128 (by decide +kernel)
theorem dX4_freeHours_120 : decode cX4_freeHours 120 = .ok (.istore 5, 2) := qz_1 .istore 5 qo_54 (by decide +kernel)
theorem dX4_freeHours_122 : decode cX4_freeHours 122 = .ok (.aload_n 0, 1) := qd_p qo_42 (by decide +kernel)
theorem dX4_freeHours_123 : decode cX4_freeHours 123 = .ok (.getfield 22, 3) := qz_2 .getfield 0 22 qo_180 (by decide +kernel) rfl
theorem dX4_freeHours_126 : decode cX4_freeHours 126 = .ok (.bipush 24, 2) := qz_s1 .bipush 24 qo_16 (by decide +kernel) rfl
theorem dX4_freeHours_128 : decode cX4_freeHours 128 = .ok (.iload_n 1, 1) := qd_p qo_27 (by decide +kernel)
theorem dX4_freeHours_129 : decode cX4_freeHours 129 = .ok (.imul, 1) := qd_p qo_104 (by decide +kernel)
theorem dX4_freeHours_130 : decode cX4_freeHours 130 = .ok (.iload 6, 2) := qz_1 .iload 6 qo_21 (by decide +kernel)
theorem dX4_freeHours_132 : decode cX4_freeHours 132 = .ok (.iadd, 1) := qd_p qo_96 (by decide +kernel)
theorem dX4_freeHours_133 : decode cX4_freeHours 133 = .ok (.iload 7, 2) := qz_1 .iload 7 qo_21 (by decide +kernel)
theorem dX4_freeHours_135 : decode cX4_freeHours 135 = .ok (.iastore, 1) := qd_p qo_79 (by decide +kernel)
theorem dX4_freeHours_136 : decode cX4_freeHours 136 = .ok (.iinc 6 1, 3) := qd_i (x := 6) (y := 1) qo_132 (by decide +kernel) rfl
theorem dX4_freeHours_139 : decode cX4_freeHours 139 = .ok (.goto (-85), 3) := qz_s2 .goto 255 171 qo_167 (by decide +kernel) rfl
theorem dX4_freeHours_142 : decode cX4_freeHours 142 = .ok (.iload 5, 2) := qz_1 .iload 5 qo_21 (by decide +kernel)
theorem dX4_freeHours_144 : decode cX4_freeHours 144 = .ok (.ireturn, 1) := qd_p qo_172 (by decide +kernel)
theorem dX4_cover_0 : decode cX4_cover 0 = .ok (.aload_n 0, 1) := qd_p qo_42 (by decide +kernel)
theorem dX4_cover_1 : decode cX4_cover 1 = .ok (.iconst 0, 1) := qd_p qo_3 (by decide +kernel)
theorem dX4_cover_2 : decode cX4_cover 2 = .ok (.putfield 70, 3) := qz_2 .putfield 0 70 qo_181 (by decide +kernel) rfl
theorem dX4_cover_5 : decode cX4_cover 5 = .ok (.aload_n 0, 1) := qd_p qo_42 (by decide +kernel)
theorem dX4_cover_6 : decode cX4_cover 6 = .ok (.invokevirtual 96, 3) := qz_2 .invokevirtual 0 96 qo_182 (by decide +kernel) rfl
theorem dX4_cover_9 : decode cX4_cover 9 = .ok (.istore_n 1, 1) := qd_p qo_60 (by decide +kernel)
theorem dX4_cover_10 : decode cX4_cover 10 = .ok (.iconst 1, 1) := qd_p qo_4 (by decide +kernel)
theorem dX4_cover_11 : decode cX4_cover 11 = .ok (.aload_n 0, 1) := qd_p qo_42 (by decide +kernel)
theorem dX4_cover_12 : decode cX4_cover 12 = .ok (.getfield 81, 3) := qz_2 .getfield 0 81 qo_180 (by decide +kernel) rfl
theorem dX4_cover_15 : decode cX4_cover 15 = .ok (.ishl, 1) := qd_p qo_120 (by decide +kernel)
theorem dX4_cover_16 : decode cX4_cover 16 = .ok (.iconst 1, 1) := qd_p qo_4 (by decide +kernel)
theorem dX4_cover_17 : decode cX4_cover 17 = .ok (.isub, 1) := qd_p qo_100 (by decide +kernel)
theorem dX4_cover_18 : decode cX4_cover 18 = .ok (.istore_n 2, 1) := qd_p qo_61 (by decide +kernel)
theorem dX4_cover_19 : decode cX4_cover 19 = .ok (.iload_n 2, 1) := qd_p qo_28 (by decide +kernel)
theorem dX4_cover_20 : decode cX4_cover 20 = .ok (.istore_n 3, 1) := qd_p qo_62 (by decide +kernel)
theorem dX4_cover_21 : decode cX4_cover 21 = .ok (.iload_n 3, 1) := qd_p qo_29 (by decide +kernel)
theorem dX4_cover_22 : decode cX4_cover 22 = .ok (.ifCond .lt 78, 3) := qz_s2 (.ifCond .lt) 0 78 qo_155 (by decide +kernel) rfl
theorem dX4_cover_25 : decode cX4_cover 25 = .ok (.iconst 0, 1) := qd_p qo_3 (by decide +kernel)
theorem dX4_cover_26 : decode cX4_cover 26 = .ok (.istore 4, 2) := qz_1 .istore 4 qo_54 (by decide +kernel)
theorem dX4_cover_28 : decode cX4_cover 28 = .ok (.iconst 0, 1) := qd_p qo_3 (by decide +kernel)
theorem dX4_cover_29 : decode cX4_cover 29 = .ok (.istore 5, 2) := qz_1 .istore 5 qo_54 (by decide +kernel)
theorem dX4_cover_31 : decode cX4_cover 31 = .ok (.iload 5, 2) := qz_1 .iload 5 qo_21 (by decide +kernel)
theorem dX4_cover_33 : decode cX4_cover 33 = .ok (.aload_n 0, 1) := qd_p qo_42 (by decide +kernel)
theorem dX4_cover_34 : decode cX4_cover 34 = .ok (.getfield 81, 3) := qz_2 .getfield 0 81 qo_180 (by decide +kernel) rfl
theorem dX4_cover_37 : decode cX4_cover 37 = .ok (.if_icmp .ge 34, 3) := qz_s2 (.if_icmp .ge) 0 34 qo_162 (by decide +kernel) rfl
theorem dX4_cover_40 : decode cX4_cover 40 = .ok (.iload 4, 2) := qz_1 .iload 4 qo_21 (by decide +kernel)
theorem dX4_cover_42 : decode cX4_cover 42 = .ok (.iload_n 3, 1) := qd_p qo_29 (by decide +kernel)
theorem dX4_cover_43 : decode cX4_cover 43 = .ok (.iload 5, 2) := qz_1 .iload 5 qo_21 (by decide +kernel)
theorem dX4_cover_45 : decode cX4_cover 45 = .ok (.invokestatic 104, 3) := qz_2 .invokestatic 0 104 qo_184 (by decide +kernel) rfl
theorem dX4_cover_48 : decode cX4_cover 48 = .ok (.ifCond .eq 13, 3) := qz_s2 (.ifCond .eq) 0 13 qo_153 (by decide +kernel) rfl
theorem dX4_cover_51 : decode cX4_cover 51 = .ok (.aload_n 0, 1) := qd_p qo_42 (by decide +kernel)
theorem dX4_cover_52 : decode cX4_cover 52 = .ok (.getfield 13, 3) := qz_2 .getfield 0 13 qo_180 (by decide +kernel) rfl
theorem dX4_cover_55 : decode cX4_cover 55 = .ok (.iload 5, 2) := qz_1 .iload 5 qo_21 (by decide +kernel)
theorem dX4_cover_57 : decode cX4_cover 57 = .ok (.iaload, 1) := qd_p qo_46 (by decide +kernel)
theorem dX4_cover_58 : decode cX4_cover 58 = .ok (.goto 4, 3) := qz_s2 .goto 0 4 qo_167 (by decide +kernel) rfl
theorem dX4_cover_61 : decode cX4_cover 61 = .ok (.iconst 0, 1) := qd_p qo_3 (by decide +kernel)
theorem dX4_cover_62 : decode cX4_cover 62 = .ok (.ior, 1) := qd_p qo_128 (by decide +kernel)
theorem dX4_cover_63 : decode cX4_cover 63 = .ok (.istore 4, 2) := qz_1 .istore 4 qo_54 (by decide +kernel)
theorem dX4_cover_65 : decode cX4_cover 65 = .ok (.iinc 5 1, 3) := qd_i (x := 5) (y := 1) qo_132 (by decide +kernel) rfl
theorem dX4_cover_68 : decode cX4_cover 68 = .ok (.goto (-37), 3) := qz_s2 .goto 255 219 qo_167 (by decide +kernel) rfl
theorem dX4_cover_71 : decode cX4_cover 71 = .ok (.iload 4, 2) := qz_1 .iload 4 qo_21 (by decide +kernel)
theorem dX4_cover_73 : decode cX4_cover 73 = .ok (.iload_n 1, 1) := qd_p qo_27 (by decide +kernel)
theorem dX4_cover_74 : decode cX4_cover 74 = .ok (.if_icmp .ne 18, 3) := qz_s2 (.if_icmp .ne) 0 18 qo_160 (by decide +kernel) rfl
theorem dX4_cover_77 : decode cX4_cover 77 = .ok (.iload_n 3, 1) := qd_p qo_29 (by decide +kernel)
theorem dX4_cover_78 : decode cX4_cover 78 = .ok (.invokestatic 263, 3) := qz_2 .invokestatic 1 7 qo_184 (by decide +kernel) rfl
theorem dX4_cover_81 : decode cX4_cover 81 = .ok (.iload_n 2, 1) := qd_p qo_28 (by decide +kernel)
theorem dX4_cover_82 : decode cX4_cover 82 = .ok (.invokestatic 263, 3) := qz_2 .invokestatic 1 7 qo_184 (by decide +kernel) rfl
theorem dX4_cover_85 : decode cX4_cover 85 = .ok (.if_icmp .gt 7, 3) := qz_s2 (.if_icmp .gt) 0 7 qo_163 (by decide +kernel) rfl
theorem dX4_cover_88 : decode cX4_cover 88 = .ok (.iload_n 3, 1) := qd_p qo_29 (by decide +kernel)
theorem dX4_cover_89 : decode cX4_cover 89 = .ok (.goto 4, 3) := qz_s2 .goto 0 4 qo_167 (by decide +kernel) rfl
theorem dX4_cover_92 : decode cX4_cover 92 = .ok (.iload_n 2, 1) := qd_p qo_28 (by decide +kernel)
theorem dX4_cover_93 : decode cX4_cover 93 = .ok (.istore_n 2, 1) := qd_p qo_61 (by decide +kernel)
theorem dX4_cover_94 : decode cX4_cover 94 = .ok (.iinc 3 (-1), 3) := qd_i (x := 3) (y := 255) qo_132 (by decide +kernel) rfl
theorem dX4_cover_97 : decode cX4_cover 97 = .ok (.goto (-76), 3) := qz_s2 .goto 255 180 qo_167 (by decide +kernel) rfl
theorem dX4_cover_100 : decode cX4_cover 100 = .ok (.iload_n 2, 1) := qd_p qo_28 (by decide +kernel)
theorem dX4_cover_101 : decode cX4_cover 101 = .ok (.ireturn, 1) := qd_p qo_172 (by decide +kernel)
theorem dX4_shown_0 : decode cX4_shown 0 = .ok (.aload_n 0, 1) := qd_p qo_42 (by decide +kernel)
theorem dX4_shown_1 : decode cX4_shown 1 = .ok (.iconst 0, 1) := qd_p qo_3 (by decide +kernel)
theorem dX4_shown_2 : decode cX4_shown 2 = .ok (.putfield 70, 3) := qz_2 .putfield 0 70 qo_181 (by decide +kernel) rfl
theorem dX4_shown_5 : decode cX4_shown 5 = .ok (.iload_n 1, 1) := qd_p qo_27 (by decide +kernel)
theorem dX4_shown_6 : decode cX4_shown 6 = .ok (.invokestatic 243, 3) := qz_2 .invokestatic 0 243 qo_184 (by decide +kernel) rfl
theorem dX4_shown_9 : decode cX4_shown 9 = .ok (.ifCond .ne 9, 3) := qz_s2 (.ifCond .ne) 0 9 qo_154 (by decide +kernel) rfl
theorem dX4_shown_12 : decode cX4_shown 12 = .ok (.aload_n 0, 1) := qd_p qo_42 (by decide +kernel)
theorem dX4_shown_13 : decode cX4_shown 13 = .ok (.iconst (-1), 1) := qd_p qo_2 (by decide +kernel)
theorem dX4_shown_14 : decode cX4_shown 14 = .ok (.invokevirtual 143, 3) := qz_2 .invokevirtual 0 143 qo_182 (by decide +kernel) rfl
theorem dX4_shown_17 : decode cX4_shown 17 = .ok (.ireturn, 1) := qd_p qo_172 (by decide +kernel)
theorem dX4_shown_18 : decode cX4_shown 18 = .ok (.iconst 0, 1) := qd_p qo_3 (by decide +kernel)
theorem dX4_shown_19 : decode cX4_shown 19 = .ok (.istore_n 2, 1) := qd_p qo_61 (by decide +kernel)
theorem dX4_shown_20 : decode cX4_shown 20 = .ok (.iconst 0, 1) := qd_p qo_3 (by decide +kernel)
theorem dX4_shown_21 : decode cX4_shown 21 = .ok (.istore_n 3, 1) := qd_p qo_62 (by decide +kernel)
theorem dX4_shown_22 : decode cX4_shown 22 = .ok (.iload_n 3, 1) := qd_p qo_29 (by decide +kernel)
theorem dX4_shown_23 : decode cX4_shown 23 = .ok (.aload_n 0, 1) := qd_p qo_42 (by decide +kernel)
theorem dX4_shown_24 : decode cX4_shown 24 = .ok (.getfield 81, 3) := qz_2 .getfield 0 81 qo_180 (by decide +kernel) rfl
theorem dX4_shown_27 : decode cX4_shown 27 = .ok (.if_icmp .ge 30, 3) := qz_s2 (.if_icmp .ge) 0 30 qo_162 (by decide +kernel) rfl
theorem dX4_shown_30 : decode cX4_shown 30 = .ok (.iload_n 2, 1) := qd_p qo_28 (by decide +kernel)
theorem dX4_shown_31 : decode cX4_shown 31 = .ok (.aload_n 0, 1) := qd_p qo_42 (by decide +kernel)
theorem dX4_shown_32 : decode cX4_shown 32 = .ok (.getfield 13, 3) := qz_2 .getfield 0 13 qo_180 (by decide +kernel) rfl
theorem dX4_shown_35 : decode cX4_shown 35 = .ok (.iload_n 3, 1) := qd_p qo_29 (by decide +kernel)
theorem dX4_shown_36 : decode cX4_shown 36 = .ok (.iaload, 1) := qd_p qo_46 (by decide +kernel)
theorem dX4_shown_37 : decode cX4_shown 37 = .ok (.iload_n 1, 1) := qd_p qo_27 (by decide +kernel)
theorem dX4_shown_38 : decode cX4_shown 38 = .ok (.invokestatic 104, 3) := qz_2 .invokestatic 0 104 qo_184 (by decide +kernel) rfl
theorem dX4_shown_41 : decode cX4_shown 41 = .ok (.ifCond .eq 7, 3) := qz_s2 (.ifCond .eq) 0 7 qo_153 (by decide +kernel) rfl
theorem dX4_shown_44 : decode cX4_shown 44 = .ok (.iconst 1, 1) := qd_p qo_4 (by decide +kernel)
theorem dX4_shown_45 : decode cX4_shown 45 = .ok (.goto 4, 3) := qz_s2 .goto 0 4 qo_167 (by decide +kernel) rfl
theorem dX4_shown_48 : decode cX4_shown 48 = .ok (.iconst 0, 1) := qd_p qo_3 (by decide +kernel)
theorem dX4_shown_49 : decode cX4_shown 49 = .ok (.iadd, 1) := qd_p qo_96 (by decide +kernel)
theorem dX4_shown_50 : decode cX4_shown 50 = .ok (.istore_n 2, 1) := qd_p qo_61 (by decide +kernel)
theorem dX4_shown_51 : decode cX4_shown 51 = .ok (.iinc 3 1, 3) := qd_i (x := 3) (y := 1) qo_132 (by decide +kernel) rfl
theorem dX4_shown_54 : decode cX4_shown 54 = .ok (.goto (-32), 3) := qz_s2 .goto 255 224 qo_167 (by decide +kernel) rfl
theorem dX4_shown_57 : decode cX4_shown 57 = .ok (.iload_n 2, 1) := qd_p qo_28 (by decide +kernel)
theorem dX4_shown_58 : decode cX4_shown 58 = .ok (.ireturn, 1) := qd_p qo_172 (by decide +kernel)
theorem dX4_walls_0 : decode cX4_walls 0 = .ok (.aload_n 0, 1) := qd_p qo_42 (by decide +kernel)
theorem dX4_walls_1 : decode cX4_walls 1 = .ok (.iconst 0, 1) := qd_p qo_3 (by decide +kernel)
theorem dX4_walls_2 : decode cX4_walls 2 = .ok (.putfield 70, 3) := qz_2 .putfield 0 70 qo_181 (by decide +kernel) rfl
theorem dX4_walls_5 : decode cX4_walls 5 = .ok (.aload_n 0, 1) := qd_p qo_42 (by decide +kernel)
theorem dX4_walls_6 : decode cX4_walls 6 = .ok (.iload_n 1, 1) := qd_p qo_27 (by decide +kernel)
theorem dX4_walls_7 : decode cX4_walls 7 = .ok (.invokevirtual 88, 3) := qz_2 .invokevirtual 0 88 qo_182 (by decide +kernel) rfl
theorem dX4_walls_10 : decode cX4_walls 10 = .ok (.ifCond .eq 14, 3) := qz_s2 (.ifCond .eq) 0 14 qo_153 (by decide +kernel) rfl
theorem dX4_walls_13 : decode cX4_walls 13 = .ok (.iload_n 2, 1) := qd_p qo_28 (by decide +kernel)
theorem dX4_walls_14 : decode cX4_walls 14 = .ok (.iconst 0, 1) := qd_p qo_3 (by decide +kernel)
theorem dX4_walls_15 : decode cX4_walls 15 = .ok (.sipush 999, 3) := qz_s2 .sipush 3 231 qo_17 (by decide +kernel) rfl
theorem dX4_walls_18 : decode cX4_walls 18 = .ok (.invokestatic 231, 3) := qz_2 .invokestatic 0 231 qo_184 (by decide +kernel) rfl
theorem dX4_walls_21 : decode cX4_walls 21 = .ok (.goto 4, 3) := qz_s2 .goto 0 4 qo_167 (by decide +kernel) rfl
theorem dX4_walls_24 : decode cX4_walls 24 = .ok (.iconst (-1), 1) := qd_p qo_2 (by decide +kernel)
theorem dX4_walls_25 : decode cX4_walls 25 = .ok (.iload_n 3, 1) := qd_p qo_29 (by decide +kernel)
theorem dX4_walls_26 : decode cX4_walls 26 = .ok (.iconst 1, 1) := qd_p qo_4 (by decide +kernel)
theorem dX4_walls_27 : decode cX4_walls 27 = .ok (.invokestatic 251, 3) := qz_2 .invokestatic 0 251 qo_184 (by decide +kernel) rfl
theorem dX4_walls_30 : decode cX4_walls 30 = .ok (.istore 4, 2) := qz_1 .istore 4 qo_54 (by decide +kernel)
theorem dX4_walls_32 : decode cX4_walls 32 = .ok (.iload 4, 2) := qz_1 .iload 4 qo_21 (by decide +kernel)
theorem dX4_walls_34 : decode cX4_walls 34 = .ok (.ifCond .ge 10, 3) := qz_s2 (.ifCond .ge) 0 10 qo_156 (by decide +kernel) rfl
theorem dX4_walls_37 : decode cX4_walls 37 = .ok (.aload_n 0, 1) := qd_p qo_42 (by decide +kernel)
theorem dX4_walls_38 : decode cX4_walls 38 = .ok (.iload 4, 2) := qz_1 .iload 4 qo_21 (by decide +kernel)
theorem dX4_walls_40 : decode cX4_walls 40 = .ok (.invokevirtual 143, 3) := qz_2 .invokevirtual 0 143 qo_182 (by decide +kernel) rfl
theorem dX4_walls_43 : decode cX4_walls 43 = .ok (.ireturn, 1) := qd_p qo_172 (by decide +kernel)
theorem dX4_walls_44 : decode cX4_walls 44 = .ok (.aload_n 0, 1) := qd_p qo_42 (by decide +kernel)
theorem dX4_walls_45 : decode cX4_walls 45 = .ok (.iload_n 1, 1) := qd_p qo_27 (by decide +kernel)
theorem dX4_walls_46 : decode cX4_walls 46 = .ok (.iload_n 2, 1) := qd_p qo_28 (by decide +kernel)
theorem dX4_walls_47 : decode cX4_walls 47 = .ok (.invokevirtual 260, 3) := qz_2 .invokevirtual 1 4 qo_182 (by decide +kernel) rfl
theorem dX4_walls_50 : decode cX4_walls 50 = .ok (.istore 5, 2) := qz_1 .istore 5 qo_54 (by decide +kernel)
theorem dX4_walls_52 : decode cX4_walls 52 = .ok (.bipush (-9), 2) := qz_s1 .bipush 247 qo_16 (by decide +kernel) rfl
theorem dX4_walls_54 : decode cX4_walls 54 = .ok (.istore 6, 2) := qz_1 .istore 6 qo_54 (by decide +kernel)
theorem dX4_walls_56 : decode cX4_walls 56 = .ok (.iconst 0, 1) := qd_p qo_3 (by decide +kernel)
theorem dX4_walls_57 : decode cX4_walls 57 = .ok (.istore 7, 2) := qz_1 .istore 7 qo_54 (by decide +kernel)
theorem dX4_walls_59 : decode cX4_walls 59 = .ok (.iconst 0, 1) := qd_p qo_3 (by decide +kernel)
theorem dX4_walls_60 : decode cX4_walls 60 = .ok (.istore 8, 2) := qz_1 .istore 8 qo_54 (by decide +kernel)
theorem dX4_walls_62 : decode cX4_walls 62 = .ok (.iload 8, 2) := qz_1 .iload 8 qo_21 (by decide +kernel)
theorem dX4_walls_64 : decode cX4_walls 64 = .ok (.aload_n 0, 1) := qd_p qo_42 (by decide +kernel)
theorem dX4_walls_65 : decode cX4_walls 65 = .ok (.getfield 81, 3) := qz_2 .getfield 0 81 qo_180 (by decide +kernel) rfl
theorem dX4_walls_68 : decode cX4_walls 68 = .ok (.if_icmp .ge 117, 3) := qz_s2 (.if_icmp .ge) 0 117 qo_162 (by decide +kernel) rfl
theorem dX4_walls_71 : decode cX4_walls 71 = .ok (.iconst 0, 1) := qd_p qo_3 (by decide +kernel)
theorem dX4_walls_72 : decode cX4_walls 72 = .ok (.istore 9, 2) := qz_1 .istore 9 qo_54 (by decide +kernel)
theorem dX4_walls_74 : decode cX4_walls 74 = .ok (.iload 9, 2) := qz_1 .iload 9 qo_21 (by decide +kernel)
theorem dX4_walls_76 : decode cX4_walls 76 = .ok (.bipush 8, 2) := qz_s1 .bipush 8 qo_16 (by decide +kernel) rfl
theorem dX4_walls_78 : decode cX4_walls 78 = .ok (.if_icmp .ge 101, 3) := qz_s2 (.if_icmp .ge) 0 101 qo_162 (by decide +kernel) rfl
theorem dX4_walls_81 : decode cX4_walls 81 = .ok (.aload_n 0, 1) := qd_p qo_42 (by decide +kernel)
theorem dX4_walls_82 : decode cX4_walls 82 = .ok (.getfield 13, 3) := qz_2 .getfield 0 13 qo_180 (by decide +kernel) rfl
theorem dX4_walls_85 : decode cX4_walls 85 = .ok (.iload 8, 2) := qz_1 .iload 8 qo_21 (by decide +kernel)
theorem dX4_walls_87 : decode cX4_walls 87 = .ok (.iaload, 1) := qd_p qo_46 (by decide +kernel)
theorem dX4_walls_88 : decode cX4_walls 88 = .ok (.iload 9, 2) := qz_1 .iload 9 qo_21 (by decide +kernel)
theorem dX4_walls_90 : decode cX4_walls 90 = .ok (.invokestatic 104, 3) := qz_2 .invokestatic 0 104 qo_184 (by decide +kernel) rfl
theorem dX4_walls_93 : decode cX4_walls 93 = .ok (.ifCond .eq 80, 3) := qz_s2 (.ifCond .eq) 0 80 qo_153 (by decide +kernel) rfl
theorem dX4_walls_96 : decode cX4_walls 96 = .ok (.aload_n 0, 1) := qd_p qo_42 (by decide +kernel)
theorem dX4_walls_97 : decode cX4_walls 97 = .ok (.getfield 13, 3) := qz_2 .getfield 0 13 qo_180 (by decide +kernel) rfl
theorem dX4_walls_100 : decode cX4_walls 100 = .ok (.iload 8, 2) := qz_1 .iload 8 qo_21 (by decide +kernel)
theorem dX4_walls_102 : decode cX4_walls 102 = .ok (.dup2, 1) := qd_p qo_92 (by decide +kernel)
theorem dX4_walls_103 : decode cX4_walls 103 = .ok (.iaload, 1) := qd_p qo_46 (by decide +kernel)
theorem dX4_walls_104 : decode cX4_walls 104 = .ok (.iconst 1, 1) := qd_p qo_4 (by decide +kernel)
theorem dX4_walls_105 : decode cX4_walls 105 = .ok (.iload 9, 2) := qz_1 .iload 9 qo_21 (by decide +kernel)
theorem dX4_walls_107 : decode cX4_walls 107 = .ok (.ishl, 1) := qd_p qo_120 (by decide +kernel)
theorem dX4_walls_108 : decode cX4_walls 108 = .ok (.ixor, 1) := qd_p qo_130 (by decide +kernel)
theorem dX4_walls_109 : decode cX4_walls 109 = .ok (.iastore, 1) := qd_p qo_79 (by decide +kernel)
theorem dX4_walls_110 : decode cX4_walls 110 = .ok (.iload 5, 2) := qz_1 .iload 5 qo_21 (by decide +kernel)
theorem dX4_walls_112 : decode cX4_walls 112 = .ok (.aload_n 0, 1) := qd_p qo_42 (by decide +kernel)
theorem dX4_walls_113 : decode cX4_walls 113 = .ok (.iload_n 1, 1) := qd_p qo_27 (by decide +kernel)
theorem dX4_walls_114 : decode cX4_walls 114 = .ok (.iload_n 2, 1) := qd_p qo_28 (by decide +kernel)
theorem dX4_walls_115 : decode cX4_walls 115 = .ok (.invokevirtual 260, 3) := qz_2 .invokevirtual 1 4 qo_182 (by decide +kernel) rfl
theorem dX4_walls_118 : decode cX4_walls 118 = .ok (.isub, 1) := qd_p qo_100 (by decide +kernel)
theorem dX4_walls_119 : decode cX4_walls 119 = .ok (.istore 10, 2) := qz_1 .istore 10 qo_54 (by decide +kernel)
theorem dX4_walls_121 : decode cX4_walls 121 = .ok (.aload_n 0, 1) := qd_p qo_42 (by decide +kernel)
theorem dX4_walls_122 : decode cX4_walls 122 = .ok (.getfield 13, 3) := qz_2 .getfield 0 13 qo_180 (by decide +kernel) rfl
theorem dX4_walls_125 : decode cX4_walls 125 = .ok (.iload 8, 2) := qz_1 .iload 8 qo_21 (by decide +kernel)
theorem dX4_walls_127 : decode cX4_walls 127 = .ok (.dup2, 1) := qd_p qo_92 (by decide +kernel)
theorem dX4_walls_128 : decode cX4_walls 128 = .ok (.iaload, 1) := qd_p qo_46 (by decide +kernel)
theorem dX4_walls_129 : decode cX4_walls 129 = .ok (.iconst 1, 1) := qd_p qo_4 (by decide +kernel)
theorem dX4_walls_130 : decode cX4_walls 130 = .ok (.iload 9, 2) := qz_1 .iload 9 qo_21 (by decide +kernel)
theorem dX4_walls_132 : decode cX4_walls 132 = .ok (.ishl, 1) := qd_p qo_120 (by decide +kernel)
theorem dX4_walls_133 : decode cX4_walls 133 = .ok (.ixor, 1) := qd_p qo_130 (by decide +kernel)
theorem dX4_walls_134 : decode cX4_walls 134 = .ok (.iastore, 1) := qd_p qo_79 (by decide +kernel)
theorem dX4_walls_135 : decode cX4_walls 135 = .ok (.iload 10, 2) := qz_1 .iload 10 qo_21 (by decide +kernel)
theorem dX4_walls_137 : decode cX4_walls 137 = .ok (.iload 7, 2) := qz_1 .iload 7 qo_21 (by decide +kernel)
theorem dX4_walls_139 : decode cX4_walls 139 = .ok (.if_icmp .le 14, 3) := qz_s2 (.if_icmp .le) 0 14 qo_164 (by decide +kernel) rfl
theorem dX4_walls_142 : decode cX4_walls 142 = .ok (.bipush 10, 2) := qz_s1 .bipush 10 qo_16 (by decide +kernel) rfl
theorem dX4_walls_144 : decode cX4_walls 144 = .ok (.iload 8, 2) := qz_1 .iload 8 qo_21 (by decide +kernel)
theorem dX4_walls_146 : decode cX4_walls 146 = .ok (.imul, 1) := qd_p qo_104 (by decide +kernel)
theorem dX4_walls_147 : decode cX4_walls 147 = .ok (.iload 9, 2) := qz_1 .iload 9 qo_21 (by decide +kernel)
theorem dX4_walls_149 : decode cX4_walls 149 = .ok (.iadd, 1) := qd_p qo_96 (by decide +kernel)
theorem dX4_walls_150 : decode cX4_walls 150 = .ok (.goto 5, 3) := qz_s2 .goto 0 5 qo_167 (by decide +kernel) rfl
theorem dX4_walls_153 : decode cX4_walls 153 = .ok (.iload 6, 2) := qz_1 .iload 6 qo_21 (by decide +kernel)
theorem dX4_walls_155 : decode cX4_walls 155 = .ok (.istore 6, 2) := qz_1 .istore 6 qo_54 (by decide +kernel)
theorem dX4_walls_157 : decode cX4_walls 157 = .ok (.iload 10, 2) := qz_1 .iload 10 qo_21 (by decide +kernel)
theorem dX4_walls_159 : decode cX4_walls 159 = .ok (.iload 7, 2) := qz_1 .iload 7 qo_21 (by decide +kernel)
theorem dX4_walls_161 : decode cX4_walls 161 = .ok (.if_icmp .le 8, 3) := qz_s2 (.if_icmp .le) 0 8 qo_164 (by decide +kernel) rfl
theorem dX4_walls_164 : decode cX4_walls 164 = .ok (.iload 10, 2) := qz_1 .iload 10 qo_21 (by decide +kernel)
theorem dX4_walls_166 : decode cX4_walls 166 = .ok (.goto 5, 3) := qz_s2 .goto 0 5 qo_167 (by decide +kernel) rfl
theorem dX4_walls_169 : decode cX4_walls 169 = .ok (.iload 7, 2) := qz_1 .iload 7 qo_21 (by decide +kernel)
theorem dX4_walls_171 : decode cX4_walls 171 = .ok (.istore 7, 2) := qz_1 .istore 7 qo_54 (by decide +kernel)
theorem dX4_walls_173 : decode cX4_walls 173 = .ok (.iinc 9 1, 3) := qd_i (x := 9) (y := 1) qo_132 (by decide +kernel) rfl
theorem dX4_walls_176 : decode cX4_walls 176 = .ok (.goto (-102), 3) := qz_s2 .goto 255 154 qo_167 (by decide +kernel) rfl
theorem dX4_walls_179 : decode cX4_walls 179 = .ok (.iinc 8 1, 3) := qd_i (x := 8) (y := 1) qo_132 (by decide +kernel) rfl
theorem dX4_walls_182 : decode cX4_walls 182 = .ok (.goto (-120), 3) := qz_s2 .goto 255 136 qo_167 (by decide +kernel) rfl
theorem dX4_walls_185 : decode cX4_walls 185 = .ok (.iload_n 3, 1) := qd_p qo_29 (by decide +kernel)
theorem dX4_walls_186 : decode cX4_walls 186 = .ok (.ifCond .eq 8, 3) := qz_s2 (.ifCond .eq) 0 8 qo_153 (by decide +kernel) rfl
theorem dX4_walls_189 : decode cX4_walls 189 = .ok (.iload 6, 2) := qz_1 .iload 6 qo_21 (by decide +kernel)
theorem dX4_walls_191 : decode cX4_walls 191 = .ok (.ifCond .ge 8, 3) := qz_s2 (.ifCond .ge) 0 8 qo_156 (by decide +kernel) rfl
theorem dX4_walls_194 : decode cX4_walls 194 = .ok (.iload 6, 2) := qz_1 .iload 6 qo_21 (by decide +kernel)
theorem dX4_walls_196 : decode cX4_walls 196 = .ok (.goto 5, 3) := qz_s2 .goto 0 5 qo_167 (by decide +kernel) rfl
theorem dX4_walls_199 : decode cX4_walls 199 = .ok (.iload 7, 2) := qz_1 .iload 7 qo_21 (by decide +kernel)
theorem dX4_walls_201 : decode cX4_walls 201 = .ok (.ireturn, 1) := qd_p qo_172 (by decide +kernel)
theorem dX4_divisor_0 : decode cX4_divisor 0 = .ok (.lload_n 0, 1) := qd_p qo_30 (by decide +kernel)
theorem dX4_divisor_1 : decode cX4_divisor 1 = .ok (.lstore 4, 2) := qz_1 .lstore 4 qo_55 (by decide +kernel)
theorem dX4_divisor_3 : decode cX4_divisor 3 = .ok (.lload_n 2, 1) := qd_p qo_32 (by decide +kernel)
theorem dX4_divisor_4 : decode cX4_divisor 4 = .ok (.lstore 6, 2) := qz_1 .lstore 6 qo_55 (by decide +kernel)
theorem dX4_divisor_6 : decode cX4_divisor 6 = .ok (.lload 6, 2) := qz_1 .lload 6 qo_22 (by decide +kernel)
theorem dX4_divisor_8 : decode cX4_divisor 8 = .ok (.lconst 0, 1) := qd_p qo_9 (by decide +kernel)
theorem dX4_divisor_9 : decode cX4_divisor 9 = .ok (.lcmp, 1) := qd_p qo_148 (by decide +kernel)
theorem dX4_divisor_10 : decode cX4_divisor 10 = .ok (.ifCond .eq 21, 3) := qz_s2 (.ifCond .eq) 0 21 qo_153 (by decide +kernel) rfl
theorem dX4_divisor_13 : decode cX4_divisor 13 = .ok (.lload 4, 2) := qz_1 .lload 4 qo_22 (by decide +kernel)
theorem dX4_divisor_15 : decode cX4_divisor 15 = .ok (.lload 6, 2) := qz_1 .lload 6 qo_22 (by decide +kernel)
theorem dX4_divisor_17 : decode cX4_divisor 17 = .ok (.lrem, 1) := qd_p qo_113 (by decide +kernel)
theorem dX4_divisor_18 : decode cX4_divisor 18 = .ok (.lstore 8, 2) := qz_1 .lstore 8 qo_55 (by decide +kernel)
theorem dX4_divisor_20 : decode cX4_divisor 20 = .ok (.lload 6, 2) := qz_1 .lload 6 qo_22 (by decide +kernel)
theorem dX4_divisor_22 : decode cX4_divisor 22 = .ok (.lstore 4, 2) := qz_1 .lstore 4 qo_55 (by decide +kernel)
theorem dX4_divisor_24 : decode cX4_divisor 24 = .ok (.lload 8, 2) := qz_1 .lload 8 qo_22 (by decide +kernel)
theorem dX4_divisor_26 : decode cX4_divisor 26 = .ok (.lstore 6, 2) := qz_1 .lstore 6 qo_55 (by decide +kernel)
theorem dX4_divisor_28 : decode cX4_divisor 28 = .ok (.goto (-22), 3) := qz_s2 .goto 255 234 qo_167 (by decide +kernel) rfl
theorem dX4_divisor_31 : decode cX4_divisor 31 = .ok (.lload 4, 2) := qz_1 .lload 4 qo_22 (by decide +kernel)
theorem dX4_divisor_33 : decode cX4_divisor 33 = .ok (.lreturn, 1) := qd_p qo_173 (by decide +kernel)
theorem dX4_partOf_0 : decode cX4_partOf 0 = .ok (.lload_n 0, 1) := qd_p qo_30 (by decide +kernel)
theorem dX4_partOf_1 : decode cX4_partOf 1 = .ok (.lconst 0, 1) := qd_p qo_9 (by decide +kernel)
theorem dX4_partOf_2 : decode cX4_partOf 2 = .ok (.lcmp, 1) := qd_p qo_148 (by decide +kernel)
theorem dX4_partOf_3 : decode cX4_partOf 3 = .ok (.ifCond .ne 7, 3) := qz_s2 (.ifCond .ne) 0 7 qo_154 (by decide +kernel) rfl
theorem dX4_partOf_6 : decode cX4_partOf 6 = .ok (.iload 4, 2) := qz_1 .iload 4 qo_21 (by decide +kernel)
theorem dX4_partOf_8 : decode cX4_partOf 8 = .ok (.i2l, 1) := qd_p qo_133 (by decide +kernel)
theorem dX4_partOf_9 : decode cX4_partOf 9 = .ok (.lreturn, 1) := qd_p qo_173 (by decide +kernel)
theorem dX4_partOf_10 : decode cX4_partOf 10 = .ok (.lload_n 0, 1) := qd_p qo_30 (by decide +kernel)
theorem dX4_partOf_11 : decode cX4_partOf 11 = .ok (.lload_n 2, 1) := qd_p qo_32 (by decide +kernel)
theorem dX4_partOf_12 : decode cX4_partOf 12 = .ok (.invokestatic 266, 3) := qz_2 .invokestatic 1 10 qo_184 (by decide +kernel) rfl
theorem dX4_partOf_15 : decode cX4_partOf 15 = .ok (.lstore 5, 2) := qz_1 .lstore 5 qo_55 (by decide +kernel)
theorem dX4_partOf_17 : decode cX4_partOf 17 = .ok (.iload 4, 2) := qz_1 .iload 4 qo_21 (by decide +kernel)
theorem dX4_partOf_19 : decode cX4_partOf 19 = .ok (.ifCond .ne 10, 3) := qz_s2 (.ifCond .ne) 0 10 qo_154 (by decide +kernel) rfl
theorem dX4_partOf_22 : decode cX4_partOf 22 = .ok (.lload_n 0, 1) := qd_p qo_30 (by decide +kernel)
theorem dX4_partOf_23 : decode cX4_partOf 23 = .ok (.lload 5, 2) := qz_1 .lload 5 qo_22 (by decide +kernel)
theorem dX4_partOf_25 : decode cX4_partOf 25 = .ok (.ldiv, 1) := qd_p qo_109 (by decide +kernel)
theorem dX4_partOf_26 : decode cX4_partOf 26 = .ok (.goto 7, 3) := qz_s2 .goto 0 7 qo_167 (by decide +kernel) rfl
theorem dX4_partOf_29 : decode cX4_partOf 29 = .ok (.lload_n 2, 1) := qd_p qo_32 (by decide +kernel)
theorem dX4_partOf_30 : decode cX4_partOf 30 = .ok (.lload 5, 2) := qz_1 .lload 5 qo_22 (by decide +kernel)
theorem dX4_partOf_32 : decode cX4_partOf 32 = .ok (.ldiv, 1) := qd_p qo_109 (by decide +kernel)
theorem dX4_partOf_33 : decode cX4_partOf 33 = .ok (.lreturn, 1) := qd_p qo_173 (by decide +kernel)
theorem dX4_share_0 : decode cX4_share 0 = .ok (.aload_n 0, 1) := qd_p qo_42 (by decide +kernel)
theorem dX4_share_1 : decode cX4_share 1 = .ok (.iconst 0, 1) := qd_p qo_3 (by decide +kernel)
theorem dX4_share_2 : decode cX4_share 2 = .ok (.putfield 70, 3) := qz_2 .putfield 0 70 qo_181 (by decide +kernel) rfl
theorem dX4_share_5 : decode cX4_share 5 = .ok (.aload_n 0, 1) := qd_p qo_42 (by decide +kernel)
theorem dX4_share_6 : decode cX4_share 6 = .ok (.iload_n 1, 1) := qd_p qo_27 (by decide +kernel)
theorem dX4_share_7 : decode cX4_share 7 = .ok (.invokevirtual 88, 3) := qz_2 .invokevirtual 0 88 qo_182 (by decide +kernel) rfl
theorem dX4_share_10 : decode cX4_share 10 = .ok (.ifCond .eq 19, 3) := qz_s2 (.ifCond .eq) 0 19 qo_153 (by decide +kernel) rfl
theorem dX4_share_13 : decode cX4_share 13 = .ok (.iload_n 2, 1) := qd_p qo_28 (by decide +kernel)
theorem dX4_share_14 : decode cX4_share 14 = .ok (.invokestatic 243, 3) := qz_2 .invokestatic 0 243 qo_184 (by decide +kernel) rfl
theorem dX4_share_17 : decode cX4_share 17 = .ok (.ifCond .eq 12, 3) := qz_s2 (.ifCond .eq) 0 12 qo_153 (by decide +kernel) rfl
theorem dX4_share_20 : decode cX4_share 20 = .ok (.iconst 0, 1) := qd_p qo_3 (by decide +kernel)
theorem dX4_share_21 : decode cX4_share 21 = .ok (.iload_n 3, 1) := qd_p qo_29 (by decide +kernel)
theorem dX4_share_22 : decode cX4_share 22 = .ok (.iconst 1, 1) := qd_p qo_4 (by decide +kernel)
theorem dX4_share_23 : decode cX4_share 23 = .ok (.invokestatic 251, 3) := qz_2 .invokestatic 0 251 qo_184 (by decide +kernel) rfl
theorem dX4_share_26 : decode cX4_share 26 = .ok (.goto 4, 3) := qz_s2 .goto 0 4 qo_167 (by decide +kernel) rfl
theorem dX4_share_29 : decode cX4_share 29 = .ok (.iconst (-1), 1) := qd_p qo_2 (by decide +kernel)
theorem dX4_share_30 : decode cX4_share 30 = .ok (.istore 4, 2) := qz_1 .istore 4 qo_54 (by decide +kernel)
theorem dX4_share_32 : decode cX4_share 32 = .ok (.iload 4, 2) := qz_1 .iload 4 qo_21 (by decide +kernel)
theorem dX4_share_34 : decode cX4_share 34 = .ok (.ifCond .ge 15, 3) := qz_s2 (.ifCond .ge) 0 15 qo_156 (by decide +kernel) rfl
theorem dX4_share_37 : decode cX4_share 37 = .ok (.ldc2_w 270, 3) := qz_2 .ldc2_w 1 14 qo_20 (by decide +kernel) rfl
theorem dX4_share_40 : decode cX4_share 40 = .ok (.aload_n 0, 1) := qd_p qo_42 (by decide +kernel)
theorem dX4_share_41 : decode cX4_share 41 = .ok (.iload 4, 2) := qz_1 .iload 4 qo_21 (by decide +kernel)
theorem dX4_share_43 : decode cX4_share 43 = .ok (.invokevirtual 143, 3) := qz_2 .invokevirtual 0 143 qo_182 (by decide +kernel) rfl
theorem dX4_share_46 : decode cX4_share 46 = .ok (.i2l, 1) := qd_p qo_133 (by decide +kernel)
theorem dX4_share_47 : decode cX4_share 47 = .ok (.lsub, 1) := qd_p qo_101 (by decide +kernel)
theorem dX4_share_48 : decode cX4_share 48 = .ok (.lreturn, 1) := qd_p qo_173 (by decide +kernel)
theorem dX4_share_49 : decode cX4_share 49 = .ok (.lconst 0, 1) := qd_p qo_9 (by decide +kernel)
theorem dX4_share_50 : decode cX4_share 50 = .ok (.lstore 5, 2) := qz_1 .lstore 5 qo_55 (by decide +kernel)
theorem dX4_share_52 : decode cX4_share 52 = .ok (.iconst 0, 1) := qd_p qo_3 (by decide +kernel)
theorem dX4_share_53 : decode cX4_share 53 = .ok (.istore 7, 2) := qz_1 .istore 7 qo_54 (by decide +kernel)
theorem dX4_share_55 : decode cX4_share 55 = .ok (.iload 7, 2) := qz_1 .iload 7 qo_21 (by decide +kernel)
theorem dX4_share_57 : decode cX4_share 57 = .ok (.aload_n 0, 1) := qd_p qo_42 (by decide +kernel)
theorem dX4_share_58 : decode cX4_share 58 = .ok (.getfield 74, 3) := qz_2 .getfield 0 74 qo_180 (by decide +kernel) rfl
theorem dX4_share_61 : decode cX4_share 61 = .ok (.if_icmp .ge 27, 3) := qz_s2 (.if_icmp .ge) 0 27 qo_162 (by decide +kernel) rfl
theorem dX4_share_64 : decode cX4_share 64 = .ok (.lload 5, 2) := qz_1 .lload 5 qo_22 (by decide +kernel)
theorem dX4_share_66 : decode cX4_share 66 = .ok (.aload_n 0, 1) := qd_p qo_42 (by decide +kernel)
theorem dX4_share_67 : decode cX4_share 67 = .ok (.getfield 25, 3) := qz_2 .getfield 0 25 qo_180 (by decide +kernel) rfl
theorem dX4_share_70 : decode cX4_share 70 = .ok (.bipush 8, 2) := qz_s1 .bipush 8 qo_16 (by decide +kernel) rfl
theorem dX4_share_72 : decode cX4_share 72 = .ok (.iload 7, 2) := qz_1 .iload 7 qo_21 (by decide +kernel)
theorem dX4_share_74 : decode cX4_share 74 = .ok (.imul, 1) := qd_p qo_104 (by decide +kernel)
theorem dX4_share_75 : decode cX4_share 75 = .ok (.iload_n 2, 1) := qd_p qo_28 (by decide +kernel)
theorem dX4_share_76 : decode cX4_share 76 = .ok (.iadd, 1) := qd_p qo_96 (by decide +kernel)
theorem dX4_share_77 : decode cX4_share 77 = .ok (.iaload, 1) := qd_p qo_46 (by decide +kernel)
theorem dX4_share_78 : decode cX4_share 78 = .ok (.i2l, 1) := qd_p qo_133 (by decide +kernel)
theorem dX4_share_79 : decode cX4_share 79 = .ok (.ladd, 1) := qd_p qo_97 (by decide +kernel)
theorem dX4_share_80 : decode cX4_share 80 = .ok (.lstore 5, 2) := qz_1 .lstore 5 qo_55 (by decide +kernel)
theorem dX4_share_82 : decode cX4_share 82 = .ok (.iinc 7 1, 3) := qd_i (x := 7) (y := 1) qo_132 (by decide +kernel) rfl
theorem dX4_share_85 : decode cX4_share 85 = .ok (.goto (-30), 3) := qz_s2 .goto 255 226 qo_167 (by decide +kernel) rfl
theorem dX4_share_88 : decode cX4_share 88 = .ok (.aload_n 0, 1) := qd_p qo_42 (by decide +kernel)
theorem dX4_share_89 : decode cX4_share 89 = .ok (.getfield 25, 3) := qz_2 .getfield 0 25 qo_180 (by decide +kernel) rfl
theorem dX4_share_92 : decode cX4_share 92 = .ok (.bipush 8, 2) := qz_s1 .bipush 8 qo_16 (by decide +kernel) rfl
theorem dX4_share_94 : decode cX4_share 94 = .ok (.iload_n 1, 1) := qd_p qo_27 (by decide +kernel)
theorem dX4_share_95 : decode cX4_share 95 = .ok (.imul, 1) := qd_p qo_104 (by decide +kernel)
theorem dX4_share_96 : decode cX4_share 96 = .ok (.iload_n 2, 1) := qd_p qo_28 (by decide +kernel)
theorem dX4_share_97 : decode cX4_share 97 = .ok (.iadd, 1) := qd_p qo_96 (by decide +kernel)
theorem dX4_share_98 : decode cX4_share 98 = .ok (.iaload, 1) := qd_p qo_46 (by decide +kernel)
theorem dX4_share_99 : decode cX4_share 99 = .ok (.i2l, 1) := qd_p qo_133 (by decide +kernel)
theorem dX4_share_100 : decode cX4_share 100 = .ok (.lload 5, 2) := qz_1 .lload 5 qo_22 (by decide +kernel)
theorem dX4_share_102 : decode cX4_share 102 = .ok (.iload_n 3, 1) := qd_p qo_29 (by decide +kernel)
theorem dX4_share_103 : decode cX4_share 103 = .ok (.invokestatic 272, 3) := qz_2 .invokestatic 1 16 qo_184 (by decide +kernel) rfl
theorem dX4_share_106 : decode cX4_share 106 = .ok (.lreturn, 1) := qd_p qo_173 (by decide +kernel)
theorem dX4_areResting_0 : decode cX4_areResting 0 = .ok (.iload_n 1, 1) := qd_p qo_27 (by decide +kernel)
theorem dX4_areResting_1 : decode cX4_areResting 1 = .ok (.bipush 6, 2) := qz_s1 .bipush 6 qo_16 (by decide +kernel) rfl
theorem dX4_areResting_3 : decode cX4_areResting 3 = .ok (.idiv, 1) := qd_p qo_108 (by decide +kernel)
theorem dX4_areResting_4 : decode cX4_areResting 4 = .ok (.istore_n 2, 1) := qd_p qo_61 (by decide +kernel)
theorem dX4_areResting_5 : decode cX4_areResting 5 = .ok (.iload_n 1, 1) := qd_p qo_27 (by decide +kernel)
theorem dX4_areResting_6 : decode cX4_areResting 6 = .ok (.bipush 6, 2) := qz_s1 .bipush 6 qo_16 (by decide +kernel) rfl
theorem dX4_areResting_8 : decode cX4_areResting 8 = .ok (.irem, 1) := qd_p qo_112 (by decide +kernel)
theorem dX4_areResting_9 : decode cX4_areResting 9 = .ok (.istore_n 3, 1) := qd_p qo_62 (by decide +kernel)
theorem dX4_areResting_10 : decode cX4_areResting 10 = .ok (.iload_n 2, 1) := qd_p qo_28 (by decide +kernel)
theorem dX4_areResting_11 : decode cX4_areResting 11 = .ok (.aload_n 0, 1) := qd_p qo_42 (by decide +kernel)
theorem dX4_areResting_12 : decode cX4_areResting 12 = .ok (.getfield 81, 3) := qz_2 .getfield 0 81 qo_180 (by decide +kernel) rfl
theorem dX4_areResting_15 : decode cX4_areResting 15 = .ok (.if_icmp .ge 15, 3) := qz_s2 (.if_icmp .ge) 0 15 qo_162 (by decide +kernel) rfl
theorem dX4_areResting_18 : decode cX4_areResting 18 = .ok (.iload_n 3, 1) := qd_p qo_29 (by decide +kernel)
theorem dX4_areResting_19 : decode cX4_areResting 19 = .ok (.aload_n 0, 1) := qd_p qo_42 (by decide +kernel)
theorem dX4_areResting_20 : decode cX4_areResting 20 = .ok (.getfield 81, 3) := qz_2 .getfield 0 81 qo_180 (by decide +kernel) rfl
theorem dX4_areResting_23 : decode cX4_areResting 23 = .ok (.if_icmp .ge 7, 3) := qz_s2 (.if_icmp .ge) 0 7 qo_162 (by decide +kernel) rfl
theorem dX4_areResting_26 : decode cX4_areResting 26 = .ok (.iconst 1, 1) := qd_p qo_4 (by decide +kernel)
theorem dX4_areResting_27 : decode cX4_areResting 27 = .ok (.goto 4, 3) := qz_s2 .goto 0 4 qo_167 (by decide +kernel) rfl
theorem dX4_areResting_30 : decode cX4_areResting 30 = .ok (.iconst 0, 1) := qd_p qo_3 (by decide +kernel)
theorem dX4_areResting_31 : decode cX4_areResting 31 = .ok (.istore 4, 2) := qz_1 .istore 4 qo_54 (by decide +kernel)
theorem dX4_areResting_33 : decode cX4_areResting 33 = .ok (.iconst 0, 1) := qd_p qo_3 (by decide +kernel)
theorem dX4_areResting_34 : decode cX4_areResting 34 = .ok (.istore 5, 2) := qz_1 .istore 5 qo_54 (by decide +kernel)
theorem dX4_areResting_36 : decode cX4_areResting 36 = .ok (.iload 5, 2) := qz_1 .iload 5 qo_21 (by decide +kernel)
theorem dX4_areResting_38 : decode cX4_areResting 38 = .ok (.aload_n 0, 1) := qd_p qo_42 (by decide +kernel)
theorem dX4_areResting_39 : decode cX4_areResting 39 = .ok (.getfield 81, 3) := qz_2 .getfield 0 81 qo_180 (by decide +kernel) rfl
theorem dX4_areResting_42 : decode cX4_areResting 42 = .ok (.if_icmp .ge 63, 3) := qz_s2 (.if_icmp .ge) 0 63 qo_162 (by decide +kernel) rfl
theorem dX4_areResting_45 : decode cX4_areResting 45 = .ok (.iload 4, 2) := qz_1 .iload 4 qo_21 (by decide +kernel)
theorem dX4_areResting_47 : decode cX4_areResting 47 = .ok (.ifCond .eq 58, 3) := qz_s2 (.ifCond .eq) 0 58 qo_153 (by decide +kernel) rfl
theorem dX4_areResting_50 : decode cX4_areResting 50 = .ok (.aload_n 0, 1) := qd_p qo_42 (by decide +kernel)
theorem dX4_areResting_51 : decode cX4_areResting 51 = .ok (.getfield 61, 3) := qz_2 .getfield 0 61 qo_180 (by decide +kernel) rfl
theorem dX4_areResting_54 : decode cX4_areResting 54 = .ok (.bipush 6, 2) := qz_s1 .bipush 6 qo_16 (by decide +kernel) rfl
theorem dX4_areResting_56 : decode cX4_areResting 56 = .ok (.iload 5, 2) := qz_1 .iload 5 qo_21 (by decide +kernel)
theorem dX4_areResting_58 : decode cX4_areResting 58 = .ok (.imul, 1) := qd_p qo_104 (by decide +kernel)
theorem dX4_areResting_59 : decode cX4_areResting 59 = .ok (.iload_n 3, 1) := qd_p qo_29 (by decide +kernel)
theorem dX4_areResting_60 : decode cX4_areResting 60 = .ok (.iadd, 1) := qd_p qo_96 (by decide +kernel)
theorem dX4_areResting_61 : decode cX4_areResting 61 = .ok (.iaload, 1) := qd_p qo_46 (by decide +kernel)
theorem dX4_areResting_62 : decode cX4_areResting 62 = .ok (.aload_n 0, 1) := qd_p qo_42 (by decide +kernel)
theorem dX4_areResting_63 : decode cX4_areResting 63 = .ok (.getfield 61, 3) := qz_2 .getfield 0 61 qo_180 (by decide +kernel) rfl
theorem dX4_areResting_66 : decode cX4_areResting 66 = .ok (.iload_n 1, 1) := qd_p qo_27 (by decide +kernel)
theorem dX4_areResting_67 : decode cX4_areResting 67 = .ok (.iaload, 1) := qd_p qo_46 (by decide +kernel)
theorem dX4_areResting_68 : decode cX4_areResting 68 = .ok (.if_icmp .gt 28, 3) := qz_s2 (.if_icmp .gt) 0 28 qo_163 (by decide +kernel) rfl
theorem dX4_areResting_71 : decode cX4_areResting 71 = .ok (.aload_n 0, 1) := qd_p qo_42 (by decide +kernel)
theorem dX4_areResting_72 : decode cX4_areResting 72 = .ok (.getfield 64, 3) := qz_2 .getfield 0 64 qo_180 (by decide +kernel) rfl
theorem dX4_areResting_75 : decode cX4_areResting 75 = .ok (.bipush 6, 2) := qz_s1 .bipush 6 qo_16 (by decide +kernel) rfl
theorem dX4_areResting_77 : decode cX4_areResting 77 = .ok (.iload_n 2, 1) := qd_p qo_28 (by decide +kernel)
theorem dX4_areResting_78 : decode cX4_areResting 78 = .ok (.imul, 1) := qd_p qo_104 (by decide +kernel)
theorem dX4_areResting_79 : decode cX4_areResting 79 = .ok (.iload 5, 2) := qz_1 .iload 5 qo_21 (by decide +kernel)
theorem dX4_areResting_81 : decode cX4_areResting 81 = .ok (.iadd, 1) := qd_p qo_96 (by decide +kernel)
theorem dX4_areResting_82 : decode cX4_areResting 82 = .ok (.iaload, 1) := qd_p qo_46 (by decide +kernel)
theorem dX4_areResting_83 : decode cX4_areResting 83 = .ok (.aload_n 0, 1) := qd_p qo_42 (by decide +kernel)
theorem dX4_areResting_84 : decode cX4_areResting 84 = .ok (.getfield 64, 3) := qz_2 .getfield 0 64 qo_180 (by decide +kernel) rfl
theorem dX4_areResting_87 : decode cX4_areResting 87 = .ok (.iload_n 1, 1) := qd_p qo_27 (by decide +kernel)
theorem dX4_areResting_88 : decode cX4_areResting 88 = .ok (.iaload, 1) := qd_p qo_46 (by decide +kernel)
theorem dX4_areResting_89 : decode cX4_areResting 89 = .ok (.if_icmp .gt 7, 3) := qz_s2 (.if_icmp .gt) 0 7 qo_163 (by decide +kernel) rfl
theorem dX4_areResting_92 : decode cX4_areResting 92 = .ok (.iconst 1, 1) := qd_p qo_4 (by decide +kernel)
theorem dX4_areResting_93 : decode cX4_areResting 93 = .ok (.goto 4, 3) := qz_s2 .goto 0 4 qo_167 (by decide +kernel) rfl
theorem dX4_areResting_96 : decode cX4_areResting 96 = .ok (.iconst 0, 1) := qd_p qo_3 (by decide +kernel)
theorem dX4_areResting_97 : decode cX4_areResting 97 = .ok (.istore 4, 2) := qz_1 .istore 4 qo_54 (by decide +kernel)
theorem dX4_areResting_99 : decode cX4_areResting 99 = .ok (.iinc 5 1, 3) := qd_i (x := 5) (y := 1) qo_132 (by decide +kernel) rfl
theorem dX4_areResting_102 : decode cX4_areResting 102 = .ok (.goto (-66), 3) := qz_s2 .goto 255 190 qo_167 (by decide +kernel) rfl
theorem dX4_areResting_105 : decode cX4_areResting 105 = .ok (.iload 4, 2) := qz_1 .iload 4 qo_21 (by decide +kernel)
theorem dX4_areResting_107 : decode cX4_areResting 107 = .ok (.ireturn, 1) := qd_p qo_172 (by decide +kernel)
theorem dX4_two_0 : decode cX4_two 0 = .ok (.aload_n 0, 1) := qd_p qo_42 (by decide +kernel)
theorem dX4_two_1 : decode cX4_two 1 = .ok (.iconst 0, 1) := qd_p qo_3 (by decide +kernel)
theorem dX4_two_2 : decode cX4_two 2 = .ok (.putfield 70, 3) := qz_2 .putfield 0 70 qo_181 (by decide +kernel) rfl
theorem dX4_two_5 : decode cX4_two 5 = .ok (.aload_n 0, 1) := qd_p qo_42 (by decide +kernel)
theorem dX4_two_6 : decode cX4_two 6 = .ok (.iload_n 1, 1) := qd_p qo_27 (by decide +kernel)
theorem dX4_two_7 : decode cX4_two 7 = .ok (.iload_n 2, 1) := qd_p qo_28 (by decide +kernel)
theorem dX4_two_8 : decode cX4_two 8 = .ok (.invokevirtual 257, 3) := qz_2 .invokevirtual 1 1 qo_182 (by decide +kernel) rfl
theorem dX4_two_11 : decode cX4_two 11 = .ok (.ifCond .eq 22, 3) := qz_s2 (.ifCond .eq) 0 22 qo_153 (by decide +kernel) rfl
theorem dX4_two_14 : decode cX4_two 14 = .ok (.iload_n 3, 1) := qd_p qo_29 (by decide +kernel)
theorem dX4_two_15 : decode cX4_two 15 = .ok (.invokestatic 237, 3) := qz_2 .invokestatic 0 237 qo_184 (by decide +kernel) rfl
theorem dX4_two_18 : decode cX4_two 18 = .ok (.ifCond .eq 15, 3) := qz_s2 (.ifCond .eq) 0 15 qo_153 (by decide +kernel) rfl
theorem dX4_two_21 : decode cX4_two 21 = .ok (.iload 4, 2) := qz_1 .iload 4 qo_21 (by decide +kernel)
theorem dX4_two_23 : decode cX4_two 23 = .ok (.iconst 0, 1) := qd_p qo_3 (by decide +kernel)
theorem dX4_two_24 : decode cX4_two 24 = .ok (.sipush 999, 3) := qz_s2 .sipush 3 231 qo_17 (by decide +kernel) rfl
theorem dX4_two_27 : decode cX4_two 27 = .ok (.invokestatic 231, 3) := qz_2 .invokestatic 0 231 qo_184 (by decide +kernel) rfl
theorem dX4_two_30 : decode cX4_two 30 = .ok (.goto 4, 3) := qz_s2 .goto 0 4 qo_167 (by decide +kernel) rfl
theorem dX4_two_33 : decode cX4_two 33 = .ok (.iconst (-1), 1) := qd_p qo_2 (by decide +kernel)
theorem dX4_two_34 : decode cX4_two 34 = .ok (.istore 5, 2) := qz_1 .istore 5 qo_54 (by decide +kernel)
theorem dX4_two_36 : decode cX4_two 36 = .ok (.iload 5, 2) := qz_1 .iload 5 qo_21 (by decide +kernel)
theorem dX4_two_38 : decode cX4_two 38 = .ok (.ifCond .ge 10, 3) := qz_s2 (.ifCond .ge) 0 10 qo_156 (by decide +kernel) rfl
theorem dX4_two_41 : decode cX4_two 41 = .ok (.aload_n 0, 1) := qd_p qo_42 (by decide +kernel)
theorem dX4_two_42 : decode cX4_two 42 = .ok (.iload 5, 2) := qz_1 .iload 5 qo_21 (by decide +kernel)
theorem dX4_two_44 : decode cX4_two 44 = .ok (.invokevirtual 143, 3) := qz_2 .invokevirtual 0 143 qo_182 (by decide +kernel) rfl
theorem dX4_two_47 : decode cX4_two 47 = .ok (.ireturn, 1) := qd_p qo_172 (by decide +kernel)
theorem dX4_two_48 : decode cX4_two 48 = .ok (.aload_n 0, 1) := qd_p qo_42 (by decide +kernel)
theorem dX4_two_49 : decode cX4_two 49 = .ok (.getfield 22, 3) := qz_2 .getfield 0 22 qo_180 (by decide +kernel) rfl
theorem dX4_two_52 : decode cX4_two 52 = .ok (.bipush 24, 2) := qz_s1 .bipush 24 qo_16 (by decide +kernel) rfl
theorem dX4_two_54 : decode cX4_two 54 = .ok (.iload_n 1, 1) := qd_p qo_27 (by decide +kernel)
theorem dX4_two_55 : decode cX4_two 55 = .ok (.imul, 1) := qd_p qo_104 (by decide +kernel)
theorem dX4_two_56 : decode cX4_two 56 = .ok (.iload_n 3, 1) := qd_p qo_29 (by decide +kernel)
theorem dX4_two_57 : decode cX4_two 57 = .ok (.iadd, 1) := qd_p qo_96 (by decide +kernel)
theorem dX4_two_58 : decode cX4_two 58 = .ok (.iaload, 1) := qd_p qo_46 (by decide +kernel)
theorem dX4_two_59 : decode cX4_two 59 = .ok (.istore 6, 2) := qz_1 .istore 6 qo_54 (by decide +kernel)
theorem dX4_two_61 : decode cX4_two 61 = .ok (.aload_n 0, 1) := qd_p qo_42 (by decide +kernel)
theorem dX4_two_62 : decode cX4_two 62 = .ok (.getfield 22, 3) := qz_2 .getfield 0 22 qo_180 (by decide +kernel) rfl
theorem dX4_two_65 : decode cX4_two 65 = .ok (.bipush 24, 2) := qz_s1 .bipush 24 qo_16 (by decide +kernel) rfl
theorem dX4_two_67 : decode cX4_two 67 = .ok (.iload_n 2, 1) := qd_p qo_28 (by decide +kernel)
theorem dX4_two_68 : decode cX4_two 68 = .ok (.imul, 1) := qd_p qo_104 (by decide +kernel)
theorem dX4_two_69 : decode cX4_two 69 = .ok (.iload_n 3, 1) := qd_p qo_29 (by decide +kernel)
theorem dX4_two_70 : decode cX4_two 70 = .ok (.iadd, 1) := qd_p qo_96 (by decide +kernel)
theorem dX4_two_71 : decode cX4_two 71 = .ok (.iaload, 1) := qd_p qo_46 (by decide +kernel)
theorem dX4_two_72 : decode cX4_two 72 = .ok (.istore 7, 2) := qz_1 .istore 7 qo_54 (by decide +kernel)
theorem dX4_two_74 : decode cX4_two 74 = .ok (.iconst 0, 1) := qd_p qo_3 (by decide +kernel)
theorem dX4_two_75 : decode cX4_two 75 = .ok (.istore 8, 2) := qz_1 .istore 8 qo_54 (by decide +kernel)
theorem dX4_two_77 : decode cX4_two 77 = .ok (.iload 8, 2) := qz_1 .iload 8 qo_21 (by decide +kernel)
theorem dX4_two_79 : decode cX4_two 79 = .ok (.aload_n 0, 1) := qd_p qo_42 (by decide +kernel)
theorem dX4_two_80 : decode cX4_two 80 = .ok (.getfield 81, 3) := qz_2 .getfield 0 81 qo_180 (by decide +kernel) rfl
theorem dX4_two_83 : decode cX4_two 83 = .ok (.if_icmp .ge 93, 3) := qz_s2 (.if_icmp .ge) 0 93 qo_162 (by decide +kernel) rfl
theorem dX4_two_86 : decode cX4_two 86 = .ok (.iconst 0, 1) := qd_p qo_3 (by decide +kernel)
theorem dX4_two_87 : decode cX4_two 87 = .ok (.istore 9, 2) := qz_1 .istore 9 qo_54 (by decide +kernel)
theorem dX4_two_89 : decode cX4_two 89 = .ok (.iload 9, 2) := qz_1 .iload 9 qo_21 (by decide +kernel)
theorem dX4_two_91 : decode cX4_two 91 = .ok (.aload_n 0, 1) := qd_p qo_42 (by decide +kernel)
theorem dX4_two_92 : decode cX4_two 92 = .ok (.getfield 81, 3) := qz_2 .getfield 0 81 qo_180 (by decide +kernel) rfl
theorem dX4_two_95 : decode cX4_two 95 = .ok (.if_icmp .ge 75, 3) := qz_s2 (.if_icmp .ge) 0 75 qo_162 (by decide +kernel) rfl
theorem dX4_two_98 : decode cX4_two 98 = .ok (.aload_n 0, 1) := qd_p qo_42 (by decide +kernel)
theorem dX4_two_99 : decode cX4_two 99 = .ok (.getfield 22, 3) := qz_2 .getfield 0 22 qo_180 (by decide +kernel) rfl
theorem dX4_two_102 : decode cX4_two 102 = .ok (.bipush 24, 2) := qz_s1 .bipush 24 qo_16 (by decide +kernel) rfl
theorem dX4_two_104 : decode cX4_two 104 = .ok (.iload_n 1, 1) := qd_p qo_27 (by decide +kernel)
theorem dX4_two_105 : decode cX4_two 105 = .ok (.imul, 1) := qd_p qo_104 (by decide +kernel)
theorem dX4_two_106 : decode cX4_two 106 = .ok (.iload_n 3, 1) := qd_p qo_29 (by decide +kernel)
theorem dX4_two_107 : decode cX4_two 107 = .ok (.iadd, 1) := qd_p qo_96 (by decide +kernel)
theorem dX4_two_108 : decode cX4_two 108 = .ok (.iload 8, 2) := qz_1 .iload 8 qo_21 (by decide +kernel)
theorem dX4_two_110 : decode cX4_two 110 = .ok (.iastore, 1) := qd_p qo_79 (by decide +kernel)
theorem dX4_two_111 : decode cX4_two 111 = .ok (.aload_n 0, 1) := qd_p qo_42 (by decide +kernel)
theorem dX4_two_112 : decode cX4_two 112 = .ok (.getfield 22, 3) := qz_2 .getfield 0 22 qo_180 (by decide +kernel) rfl
theorem dX4_two_115 : decode cX4_two 115 = .ok (.bipush 24, 2) := qz_s1 .bipush 24 qo_16 (by decide +kernel) rfl
theorem dX4_two_117 : decode cX4_two 117 = .ok (.iload_n 2, 1) := qd_p qo_28 (by decide +kernel)
theorem dX4_two_118 : decode cX4_two 118 = .ok (.imul, 1) := qd_p qo_104 (by decide +kernel)
theorem dX4_two_119 : decode cX4_two 119 = .ok (.iload_n 3, 1) := qd_p qo_29 (by decide +kernel)
theorem dX4_two_120 : decode cX4_two 120 = .ok (.iadd, 1) := qd_p qo_96 (by decide +kernel)
theorem dX4_two_121 : decode cX4_two 121 = .ok (.iload 9, 2) := qz_1 .iload 9 qo_21 (by decide +kernel)
theorem dX4_two_123 : decode cX4_two 123 = .ok (.iastore, 1) := qd_p qo_79 (by decide +kernel)
theorem dX4_two_124 : decode cX4_two 124 = .ok (.aload_n 0, 1) := qd_p qo_42 (by decide +kernel)
theorem dX4_two_125 : decode cX4_two 125 = .ok (.getfield 61, 3) := qz_2 .getfield 0 61 qo_180 (by decide +kernel) rfl
theorem dX4_two_128 : decode cX4_two 128 = .ok (.bipush 6, 2) := qz_s1 .bipush 6 qo_16 (by decide +kernel) rfl
theorem dX4_two_130 : decode cX4_two 130 = .ok (.iload 8, 2) := qz_1 .iload 8 qo_21 (by decide +kernel)
theorem dX4_two_132 : decode cX4_two 132 = .ok (.imul, 1) := qd_p qo_104 (by decide +kernel)
theorem dX4_two_133 : decode cX4_two 133 = .ok (.iload 9, 2) := qz_1 .iload 9 qo_21 (by decide +kernel)
theorem dX4_two_135 : decode cX4_two 135 = .ok (.iadd, 1) := qd_p qo_96 (by decide +kernel)
theorem dX4_two_136 : decode cX4_two 136 = .ok (.aload_n 0, 1) := qd_p qo_42 (by decide +kernel)
theorem dX4_two_137 : decode cX4_two 137 = .ok (.iload_n 1, 1) := qd_p qo_27 (by decide +kernel)
theorem dX4_two_138 : decode cX4_two 138 = .ok (.iload 4, 2) := qz_1 .iload 4 qo_21 (by decide +kernel)
theorem dX4_two_140 : decode cX4_two 140 = .ok (.invokevirtual 260, 3) := qz_2 .invokevirtual 1 4 qo_182 (by decide +kernel) rfl
theorem dX4_two_143 : decode cX4_two 143 = .ok (.iastore, 1) := qd_p qo_79 (by decide +kernel)
theorem dX4_two_144 : decode cX4_two 144 = .ok (.aload_n 0, 1) := qd_p qo_42 (by decide +kernel)
theorem dX4_two_145 : decode cX4_two 145 = .ok (.getfield 64, 3) := qz_2 .getfield 0 64 qo_180 (by decide +kernel) rfl
theorem dX4_two_148 : decode cX4_two 148 = .ok (.bipush 6, 2) := qz_s1 .bipush 6 qo_16 (by decide +kernel) rfl
theorem dX4_two_150 : decode cX4_two 150 = .ok (.iload 8, 2) := qz_1 .iload 8 qo_21 (by decide +kernel)
theorem dX4_two_152 : decode cX4_two 152 = .ok (.imul, 1) := qd_p qo_104 (by decide +kernel)
theorem dX4_two_153 : decode cX4_two 153 = .ok (.iload 9, 2) := qz_1 .iload 9 qo_21 (by decide +kernel)
theorem dX4_two_155 : decode cX4_two 155 = .ok (.iadd, 1) := qd_p qo_96 (by decide +kernel)
theorem dX4_two_156 : decode cX4_two 156 = .ok (.aload_n 0, 1) := qd_p qo_42 (by decide +kernel)
theorem dX4_two_157 : decode cX4_two 157 = .ok (.iload_n 2, 1) := qd_p qo_28 (by decide +kernel)
theorem dX4_two_158 : decode cX4_two 158 = .ok (.iload 4, 2) := qz_1 .iload 4 qo_21 (by decide +kernel)
theorem dX4_two_160 : decode cX4_two 160 = .ok (.invokevirtual 137, 3) := qz_2 .invokevirtual 0 137 qo_182 (by decide +kernel) rfl
theorem dX4_two_163 : decode cX4_two 163 = .ok (.iastore, 1) := qd_p qo_79 (by decide +kernel)
theorem dX4_two_164 : decode cX4_two 164 = .ok (.iinc 9 1, 3) := qd_i (x := 9) (y := 1) qo_132 (by decide +kernel) rfl
theorem dX4_two_167 : decode cX4_two 167 = .ok (.goto (-78), 3) := qz_s2 .goto 255 178 qo_167 (by decide +kernel) rfl
theorem dX4_two_170 : decode cX4_two 170 = .ok (.iinc 8 1, 3) := qd_i (x := 8) (y := 1) qo_132 (by decide +kernel) rfl
theorem dX4_two_173 : decode cX4_two 173 = .ok (.goto (-96), 3) := qz_s2 .goto 255 160 qo_167 (by decide +kernel) rfl
theorem dX4_two_176 : decode cX4_two 176 = .ok (.aload_n 0, 1) := qd_p qo_42 (by decide +kernel)
theorem dX4_two_177 : decode cX4_two 177 = .ok (.getfield 22, 3) := qz_2 .getfield 0 22 qo_180 (by decide +kernel) rfl
theorem dX4_two_180 : decode cX4_two 180 = .ok (.bipush 24, 2) := qz_s1 .bipush 24 qo_16 (by decide +kernel) rfl
theorem dX4_two_182 : decode cX4_two 182 = .ok (.iload_n 1, 1) := qd_p qo_27 (by decide +kernel)
theorem dX4_two_183 : decode cX4_two 183 = .ok (.imul, 1) := qd_p qo_104 (by decide +kernel)
theorem dX4_two_184 : decode cX4_two 184 = .ok (.iload_n 3, 1) := qd_p qo_29 (by decide +kernel)
theorem dX4_two_185 : decode cX4_two 185 = .ok (.iadd, 1) := qd_p qo_96 (by decide +kernel)
theorem dX4_two_186 : decode cX4_two 186 = .ok (.iload 6, 2) := qz_1 .iload 6 qo_21 (by decide +kernel)
theorem dX4_two_188 : decode cX4_two 188 = .ok (.iastore, 1) := qd_p qo_79 (by decide +kernel)
theorem dX4_two_189 : decode cX4_two 189 = .ok (.aload_n 0, 1) := qd_p qo_42 (by decide +kernel)
theorem dX4_two_190 : decode cX4_two 190 = .ok (.getfield 22, 3) := qz_2 .getfield 0 22 qo_180 (by decide +kernel) rfl
theorem dX4_two_193 : decode cX4_two 193 = .ok (.bipush 24, 2) := qz_s1 .bipush 24 qo_16 (by decide +kernel) rfl
theorem dX4_two_195 : decode cX4_two 195 = .ok (.iload_n 2, 1) := qd_p qo_28 (by decide +kernel)
theorem dX4_two_196 : decode cX4_two 196 = .ok (.imul, 1) := qd_p qo_104 (by decide +kernel)
theorem dX4_two_197 : decode cX4_two 197 = .ok (.iload_n 3, 1) := qd_p qo_29 (by decide +kernel)
theorem dX4_two_198 : decode cX4_two 198 = .ok (.iadd, 1) := qd_p qo_96 (by decide +kernel)
theorem dX4_two_199 : decode cX4_two 199 = .ok (.iload 7, 2) := qz_1 .iload 7 qo_21 (by decide +kernel)
theorem dX4_two_201 : decode cX4_two 201 = .ok (.iastore, 1) := qd_p qo_79 (by decide +kernel)
theorem dX4_two_202 : decode cX4_two 202 = .ok (.iconst 0, 1) := qd_p qo_3 (by decide +kernel)
theorem dX4_two_203 : decode cX4_two 203 = .ok (.istore 8, 2) := qz_1 .istore 8 qo_54 (by decide +kernel)
theorem dX4_two_205 : decode cX4_two 205 = .ok (.iload 8, 2) := qz_1 .iload 8 qo_21 (by decide +kernel)
theorem dX4_two_207 : decode cX4_two 207 = .ok (.bipush 36, 2) := qz_s1 .bipush 36 qo_16 (by decide +kernel) rfl
theorem dX4_two_209 : decode cX4_two 209 = .ok (.if_icmp .ge 33, 3) := qz_s2 (.if_icmp .ge) 0 33 qo_162 (by decide +kernel) rfl
theorem dX4_two_212 : decode cX4_two 212 = .ok (.aload_n 0, 1) := qd_p qo_42 (by decide +kernel)
theorem dX4_two_213 : decode cX4_two 213 = .ok (.iload 8, 2) := qz_1 .iload 8 qo_21 (by decide +kernel)
theorem dX4_two_215 : decode cX4_two 215 = .ok (.invokevirtual 276, 3) := qz_2 .invokevirtual 1 20 qo_182 (by decide +kernel) rfl
theorem dX4_two_218 : decode cX4_two 218 = .ok (.ifCond .eq 18, 3) := qz_s2 (.ifCond .eq) 0 18 qo_153 (by decide +kernel) rfl
theorem dX4_two_221 : decode cX4_two 221 = .ok (.bipush 10, 2) := qz_s1 .bipush 10 qo_16 (by decide +kernel) rfl
theorem dX4_two_223 : decode cX4_two 223 = .ok (.iload 8, 2) := qz_1 .iload 8 qo_21 (by decide +kernel)
theorem dX4_two_225 : decode cX4_two 225 = .ok (.bipush 6, 2) := qz_s1 .bipush 6 qo_16 (by decide +kernel) rfl
theorem dX4_two_227 : decode cX4_two 227 = .ok (.idiv, 1) := qd_p qo_108 (by decide +kernel)
theorem dX4_two_228 : decode cX4_two 228 = .ok (.imul, 1) := qd_p qo_104 (by decide +kernel)
theorem dX4_two_229 : decode cX4_two 229 = .ok (.iload 8, 2) := qz_1 .iload 8 qo_21 (by decide +kernel)
theorem dX4_two_231 : decode cX4_two 231 = .ok (.bipush 6, 2) := qz_s1 .bipush 6 qo_16 (by decide +kernel) rfl
theorem dX4_two_233 : decode cX4_two 233 = .ok (.irem, 1) := qd_p qo_112 (by decide +kernel)
theorem dX4_two_234 : decode cX4_two 234 = .ok (.iadd, 1) := qd_p qo_96 (by decide +kernel)
theorem dX4_two_235 : decode cX4_two 235 = .ok (.ireturn, 1) := qd_p qo_172 (by decide +kernel)
theorem dX4_two_236 : decode cX4_two 236 = .ok (.iinc 8 1, 3) := qd_i (x := 8) (y := 1) qo_132 (by decide +kernel) rfl
theorem dX4_two_239 : decode cX4_two 239 = .ok (.goto (-34), 3) := qz_s2 .goto 255 222 qo_167 (by decide +kernel) rfl
theorem dX4_two_242 : decode cX4_two 242 = .ok (.bipush (-9), 2) := qz_s1 .bipush 247 qo_16 (by decide +kernel) rfl
theorem dX4_two_244 : decode cX4_two 244 = .ok (.ireturn, 1) := qd_p qo_172 (by decide +kernel)
section
variable {p : Program} {l : Launch} {e : Env} {s : State} {m : MethodId} {args : Array Value} {below : List Frame} {meth : Method} {c : Code} {D : va_G} {tI tII : ClassId} {B : Nat}
set_option maxHeartbeats 4000000 in
set_option maxRecDepth 100000 in
theorem w_X4_bestPane_162 (C : wt_C p s m args meth c RX4 cX4_bestPane 11 (some .int) D tI tII) {F : Nat} {k74 : Int32 → Int32 → Int32 → Mem → Option (Int32 × Mem)} {x1 : Int32} {x2 : Int32} {x3 : Int32} {x4 : Int32} {x6 : Int32} {x7 : Int32} {x9 : Int32} {t0 : Int32} {σ : Mem} {r : Int32} {σ' : Mem} {H : Heap} {locs : List Loc} {ls : Array Slot} (hk74 : ∀ (x7 : Int32) (x8 : Int32) (x9 : Int32) (σ : Mem) (H : Heap) (locs : List Loc) (ls : Array Slot), k74 x7 x8 x9 σ = some (r, σ') → wt_St D tI tII B σ s H locs → lv_has ls 11 [(0, .ref (B + 101)), (1, .int x1), (2, .int x2), (3, .int x3), (4, .int x4), (6, .int x6), (7, .int x7), (8, .int x8), (9, .int x9)] → W p l e rm_X4_bestPane s m args below meth c H locs 0 0 (MQ below (wt_Qi D tI tII B r σ') args s 0 0 (fun q => B ≤ q)) (F0 m 74 ls [])) (hf : j_X4_bestPane_162 F k74 x1 x2 x3 x4 x6 x7 x9 t0 σ = some (r, σ')) (hM : wt_St D tI tII B σ s H locs) (hl : lv_has ls 11 [(0, .ref (B + 101)), (1, .int x1), (2, .int x2), (3, .int x3), (4, .int x4), (6, .int x6), (7, .int x7), (9, .int x9)]) : W p l e rm_X4_bestPane s m args below meth c H locs 0 0 (MQ below (wt_Qi D tI tII B r σ') args s 0 0 (fun q => B ≤ q)) (F0 m 162 ls [.int t0]) := by
  obtain ⟨hx, hb, hts, hown, hml, hr, hlk, hK⟩ := id C
  replace hf := Eq.trans j_X4_bestPane_162_e.symm hf
  refine lv_istore (lv' := [(8, .int t0), (0, .ref (B + 101)), (1, .int x1), (2, .int x2), (3, .int x3), (4, .int x4), (6, .int x6), (7, .int x7), (9, .int x9)]) hx hb dX4_bestPane_162 hl (by decide) rfl (fun ls hl => ?_)
  refine lv_iinc (v := (x9 + (1 : Int32))) (lv' := [(9, .int (x9 + (1 : Int32))), (8, .int t0), (0, .ref (B + 101)), (1, .int x1), (2, .int x2), (3, .int x3), (4, .int x4), (6, .int x6), (7, .int x7)]) hx hb dX4_bestPane_164 hl (k := 8) rfl rfl (by decide) rfl (fun ls hl => ?_)
  refine lv_goto (tgt := 74) hx hb dX4_bestPane_167 (by decide) ?_
  exact hk74 _ _ _ _ _ _ _ hf hM (lv_sub hl [2, 3, 4, 5, 6, 7, 8, 1, 0] rfl)
set_option maxHeartbeats 4000000 in
set_option maxRecDepth 100000 in
theorem w_X4_bestPane_146 (C : wt_C p s m args meth c RX4 cX4_bestPane 11 (some .int) D tI tII) {F : Nat} {k74 : Int32 → Int32 → Int32 → Mem → Option (Int32 × Mem)} {x1 : Int32} {x2 : Int32} {x3 : Int32} {x4 : Int32} {x6 : Int32} {x8 : Int32} {x9 : Int32} {x10 : Int32} {t0 : Int32} {σ : Mem} {r : Int32} {σ' : Mem} {H : Heap} {locs : List Loc} {ls : Array Slot} (hk74 : ∀ (x7 : Int32) (x8 : Int32) (x9 : Int32) (σ : Mem) (H : Heap) (locs : List Loc) (ls : Array Slot), k74 x7 x8 x9 σ = some (r, σ') → wt_St D tI tII B σ s H locs → lv_has ls 11 [(0, .ref (B + 101)), (1, .int x1), (2, .int x2), (3, .int x3), (4, .int x4), (6, .int x6), (7, .int x7), (8, .int x8), (9, .int x9)] → W p l e rm_X4_bestPane s m args below meth c H locs 0 0 (MQ below (wt_Qi D tI tII B r σ') args s 0 0 (fun q => B ≤ q)) (F0 m 74 ls [])) (hf : j_X4_bestPane_146 F k74 x1 x2 x3 x4 x6 x8 x9 x10 t0 σ = some (r, σ')) (hM : wt_St D tI tII B σ s H locs) (hl : lv_has ls 11 [(0, .ref (B + 101)), (1, .int x1), (2, .int x2), (3, .int x3), (4, .int x4), (6, .int x6), (8, .int x8), (9, .int x9), (10, .int x10)]) : W p l e rm_X4_bestPane s m args below meth c H locs 0 0 (MQ below (wt_Qi D tI tII B r σ') args s 0 0 (fun q => B ≤ q)) (F0 m 146 ls [.int t0]) := by
  obtain ⟨hx, hb, hts, hown, hml, hr, hlk, hK⟩ := id C
  replace hf := Eq.trans j_X4_bestPane_146_e.symm hf
  refine lv_istore (lv' := [(7, .int t0), (0, .ref (B + 101)), (1, .int x1), (2, .int x2), (3, .int x3), (4, .int x4), (6, .int x6), (8, .int x8), (9, .int x9), (10, .int x10)]) hx hb dX4_bestPane_146 hl (by decide) rfl (fun ls hl => ?_)
  refine lv_iload hx hb dX4_bestPane_148 (lv_at hl 9 rfl) ?_
  refine lv_iload hx hb dX4_bestPane_150 (lv_at hl 7 rfl) ?_
  refine wq_icmp_le (tgt := 160) hx hb dX4_bestPane_152 (by decide) hf (fun hf => ?_) (fun hf => ?_)
  · refine lv_iload hx hb dX4_bestPane_160 (lv_at hl 7 rfl) ?_
    exact w_X4_bestPane_162 C hk74 hf hM (lv_sub hl [1, 2, 3, 4, 5, 6, 0, 8] rfl)
  refine lv_iload hx hb dX4_bestPane_155 (lv_at hl 9 rfl) ?_
  refine lv_goto (tgt := 162) hx hb dX4_bestPane_157 (by decide) ?_
  exact w_X4_bestPane_162 C hk74 hf hM (lv_sub hl [1, 2, 3, 4, 5, 6, 0, 8] rfl)
set_option maxHeartbeats 4000000 in
set_option maxRecDepth 100000 in
theorem w_X4_bestPane_109 (C : wt_C p s m args meth c RX4 cX4_bestPane 11 (some .int) D tI tII) {F : Nat} {k74 : Int32 → Int32 → Int32 → Mem → Option (Int32 × Mem)} {x1 : Int32} {x2 : Int32} {x3 : Int32} {x4 : Int32} {x6 : Int32} {x7 : Int32} {x8 : Int32} {x9 : Int32} {t1 : Int32} {t2 : Int32} {σ : Mem} {r : Int32} {σ' : Mem} {H : Heap} {locs : List Loc} {ls : Array Slot} (hk74 : ∀ (x7 : Int32) (x8 : Int32) (x9 : Int32) (σ : Mem) (H : Heap) (locs : List Loc) (ls : Array Slot), k74 x7 x8 x9 σ = some (r, σ') → wt_St D tI tII B σ s H locs → lv_has ls 11 [(0, .ref (B + 101)), (1, .int x1), (2, .int x2), (3, .int x3), (4, .int x4), (6, .int x6), (7, .int x7), (8, .int x8), (9, .int x9)] → W p l e rm_X4_bestPane s m args below meth c H locs 0 0 (MQ below (wt_Qi D tI tII B r σ') args s 0 0 (fun q => B ≤ q)) (F0 m 74 ls [])) (hf : j_X4_bestPane_109 F k74 x1 x2 x3 x4 x6 x7 x8 x9 t1 t2 σ = some (r, σ')) (hM : wt_St D tI tII B σ s H locs) (hl : lv_has ls 11 [(0, .ref (B + 101)), (1, .int x1), (2, .int x2), (3, .int x3), (4, .int x4), (6, .int x6), (7, .int x7), (8, .int x8), (9, .int x9)]) : W p l e rm_X4_bestPane s m args below meth c H locs 0 0 (MQ below (wt_Qi D tI tII B r σ') args s 0 0 (fun q => B ≤ q)) (F0 m 109 ls [.int t2, .int t1, .ref (B + 106)]) := by
  obtain ⟨hx, hb, hts, hown, hml, hr, hlk, hK⟩ := id C
  replace hf := Eq.trans j_X4_bestPane_109_e.symm hf
  obtain ⟨i1, hf⟩ := wt_chk_of hf
  refine wt_ist hx hb hK hM wt_a106 i1 dX4_bestPane_109 hf (fun s2 H locs hf hM => ?_)
  refine lv_aload_n hx hb dX4_bestPane_110 rfl (lv_at hl 0 rfl) ?_
  refine lv_iload_n hx hb dX4_bestPane_111 rfl (lv_at hl 1 rfl) ?_
  refine lv_iload_n hx hb dX4_bestPane_112 rfl (lv_at hl 3 rfl) ?_
  refine wt_callVi (As := [.int x1, .int x3]) (rest := []) hx hb hml hts hown hK hM wt_rc_X4 cw_X4_260 hd_X4_worthAnew rfl ⟨qz_b rfl, qz_b rfl⟩ ⟨rfl, rfl⟩ hl.1 rfl (qz_b rfl) dX4_bestPane_113 hf (fun _ _ h9 => c_X4_worthAnew h9) (fun r3 s4 H locs hf hM => ?_)
  refine lv_istore (lv' := [(10, .int r3), (0, .ref (B + 101)), (1, .int x1), (2, .int x2), (3, .int x3), (4, .int x4), (6, .int x6), (7, .int x7), (8, .int x8), (9, .int x9)]) hx hb dX4_bestPane_116 hl (by decide) rfl (fun ls hl => ?_)
  refine lv_iload hx hb dX4_bestPane_118 (lv_at hl 0 rfl) ?_
  refine lv_iload hx hb dX4_bestPane_120 (lv_at hl 8 rfl) ?_
  refine wq_icmp_le (tgt := 144) hx hb dX4_bestPane_122 (by decide) hf (fun hf => ?_) (fun hf => ?_)
  · refine lv_iload hx hb dX4_bestPane_144 (lv_at hl 7 rfl) ?_
    exact w_X4_bestPane_146 C hk74 hf hM (lv_sub hl [1, 2, 3, 4, 5, 6, 8, 9, 0] rfl)
  refine lv_iload hx hb dX4_bestPane_125 (lv_at hl 9 rfl) ?_
  refine lv_aload_n hx hb dX4_bestPane_127 rfl (lv_at hl 1 rfl) ?_
  refine gf_X4_panes  hx hb hts hown hK hM tw_711 dX4_bestPane_128 ?_
  refine wq_icmp_ne (tgt := 139) hx hb dX4_bestPane_131 (by decide) hf (fun hf => ?_) (fun hf => ?_)
  · refine lv_iload hx hb dX4_bestPane_139 (lv_at hl 9 rfl) ?_
    refine lv_goto (tgt := 146) hx hb dX4_bestPane_141 (by decide) ?_
    exact w_X4_bestPane_146 C hk74 hf hM (lv_sub hl [1, 2, 3, 4, 5, 6, 8, 9, 0] rfl)
  refine lv_bipush (v := 9) hx hb dX4_bestPane_134 (by decide) ?_
  refine lv_goto (tgt := 146) hx hb dX4_bestPane_136 (by decide) ?_
  exact w_X4_bestPane_146 C hk74 hf hM (lv_sub hl [1, 2, 3, 4, 5, 6, 8, 9, 0] rfl)
set_option maxHeartbeats 4000000 in
set_option maxRecDepth 100000 in
theorem w_X4_bestPane_74 (C : wt_C p s m args meth c RX4 cX4_bestPane 11 (some .int) D tI tII) {F : Nat} {x1 : Int32} {x2 : Int32} {x3 : Int32} {x4 : Int32} {x6 : Int32} {r : Int32} {σ' : Mem} : ∀ (N : Nat) (x7 : Int32) (x8 : Int32) (x9 : Int32) (σ : Mem) (H : Heap) (locs : List Loc) (ls : Array Slot), lp_X4_bestPane_74 F x1 x2 x3 x4 x6 N x7 x8 x9 σ = some (r, σ') → wt_St D tI tII B σ s H locs → lv_has ls 11 [(0, .ref (B + 101)), (1, .int x1), (2, .int x2), (3, .int x3), (4, .int x4), (6, .int x6), (7, .int x7), (8, .int x8), (9, .int x9)] → W p l e rm_X4_bestPane s m args below meth c H locs 0 0 (MQ below (wt_Qi D tI tII B r σ') args s 0 0 (fun q => B ≤ q)) (F0 m 74 ls []) := by
  obtain ⟨hx, hb, hts, hown, hml, hr, hlk, hK⟩ := id C
  intro N
  induction N with
  | zero => intro x7 x8 x9 σ H locs ls hf; exact wt_none (show (none : Option (Int32 × Mem)) = some (r, σ') from hf)
  | succ N ih =>
    intro x7 x8 x9 σ H locs ls hf hM hl
    replace hf := Eq.trans lp_X4_bestPane_74_s.symm hf
    refine lv_iload hx hb dX4_bestPane_74 (lv_at hl 8 rfl) ?_
    refine lv_aload_n hx hb dX4_bestPane_76 rfl (lv_at hl 0 rfl) ?_
    refine gf_X4_panes  hx hb hts hown hK hM tw_711 dX4_bestPane_77 ?_
    refine wq_icmp_gt (tgt := 170) hx hb dX4_bestPane_80 (by decide) hf (fun hf => ?_) (fun hf => ?_)
    · refine lv_aload_n hx hb dX4_bestPane_170 rfl (lv_at hl 0 rfl) ?_
      refine gf_X4_rosters  hx hb hts hown hK hM tw_716 dX4_bestPane_171 ?_
      refine lv_bipush (v := 24) hx hb dX4_bestPane_174 (by decide) ?_
      refine lv_iload_n hx hb dX4_bestPane_176 rfl (lv_at hl 1 rfl) ?_
      refine lv_imul hx hb dX4_bestPane_177 ?_
      refine lv_iload_n hx hb dX4_bestPane_178 rfl (lv_at hl 2 rfl) ?_
      refine lv_iadd hx hb dX4_bestPane_179 ?_
      refine lv_iload hx hb dX4_bestPane_180 (lv_at hl 5 rfl) ?_
      obtain ⟨i5, hf⟩ := wt_chk_of hf
      refine wt_ist hx hb hK hM wt_a106 i5 dX4_bestPane_182 hf (fun s6 H locs hf hM => ?_)
      refine lv_iload hx hb dX4_bestPane_183 (lv_at hl 4 rfl) ?_
      refine wq_if_ne (tgt := 193) hx hb dX4_bestPane_185 (by decide) hf (fun hf => ?_) (fun hf => ?_)
      · refine lv_iload hx hb dX4_bestPane_193 (lv_at hl 7 rfl) ?_
        exact wt_iret hx hb hr hlk hK hM hf dX4_bestPane_195
      refine lv_iload hx hb dX4_bestPane_188 (lv_at hl 6 rfl) ?_
      refine lv_goto (tgt := 195) hx hb dX4_bestPane_190 (by decide) ?_
      exact wt_iret hx hb hr hlk hK hM hf dX4_bestPane_195
    refine lv_aload_n hx hb dX4_bestPane_83 rfl (lv_at hl 0 rfl) ?_
    refine gf_X4_rosters  hx hb hts hown hK hM tw_716 dX4_bestPane_84 ?_
    refine lv_bipush (v := 24) hx hb dX4_bestPane_87 (by decide) ?_
    refine lv_iload_n hx hb dX4_bestPane_89 rfl (lv_at hl 1 rfl) ?_
    refine lv_imul hx hb dX4_bestPane_90 ?_
    refine lv_iload_n hx hb dX4_bestPane_91 rfl (lv_at hl 2 rfl) ?_
    refine lv_iadd hx hb dX4_bestPane_92 ?_
    refine lv_iload hx hb dX4_bestPane_93 (lv_at hl 8 rfl) ?_
    refine lv_aload_n hx hb dX4_bestPane_95 rfl (lv_at hl 0 rfl) ?_
    refine gf_X4_panes  hx hb hts hown hK hM tw_711 dX4_bestPane_96 ?_
    refine wq_icmp_ne (tgt := 107) hx hb dX4_bestPane_99 (by decide) hf (fun hf => ?_) (fun hf => ?_)
    · refine lv_iload hx hb dX4_bestPane_107 (lv_at hl 8 rfl) ?_
      exact w_X4_bestPane_109 C ih hf hM hl
    refine lv_bipush (v := -9) hx hb dX4_bestPane_102 (by decide) ?_
    refine lv_goto (tgt := 109) hx hb dX4_bestPane_104 (by decide) ?_
    exact w_X4_bestPane_109 C ih hf hM hl
set_option maxHeartbeats 4000000 in
set_option maxRecDepth 100000 in
theorem w_X4_bestPane_32 (C : wt_C p s m args meth c RX4 cX4_bestPane 11 (some .int) D tI tII) {F : Nat} {x1 : Int32} {x2 : Int32} {x3 : Int32} {x4 : Int32} {t0 : Int32} {σ : Mem} {r : Int32} {σ' : Mem} {H : Heap} {locs : List Loc} {ls : Array Slot} (hf : j_X4_bestPane_32 F x1 x2 x3 x4 t0 σ = some (r, σ')) (hM : wt_St D tI tII B σ s H locs) (hl : lv_has ls 11 [(0, .ref (B + 101)), (1, .int x1), (2, .int x2), (3, .int x3), (4, .int x4)]) : W p l e rm_X4_bestPane s m args below meth c H locs 0 0 (MQ below (wt_Qi D tI tII B r σ') args s 0 0 (fun q => B ≤ q)) (F0 m 32 ls [.int t0]) := by
  obtain ⟨hx, hb, hts, hown, hml, hr, hlk, hK⟩ := id C
  replace hf := Eq.trans j_X4_bestPane_32_e.symm hf
  refine lv_iload hx hb dX4_bestPane_32 (lv_at hl 4 rfl) ?_
  refine lv_iconst (v := 1) hx hb dX4_bestPane_34 (by decide) ?_
  refine wt_callSi (As := [.int t0, .int x4, .int (1 : Int32)]) (rest := []) hx hb hml hts hown hK hM cw_X4_251 hd_X4_wrongBit rfl ⟨qz_b rfl, qz_b rfl⟩ ⟨rfl, rfl⟩ hl.1 rfl (qz_b rfl) dX4_bestPane_35 hf (fun _ _ h9 => c_X4_wrongBit h9) (fun r7 s8 H locs hf hM => ?_)
  refine lv_istore (lv' := [(5, .int r7), (0, .ref (B + 101)), (1, .int x1), (2, .int x2), (3, .int x3), (4, .int x4)]) hx hb dX4_bestPane_38 hl (by decide) rfl (fun ls hl => ?_)
  refine lv_iload hx hb dX4_bestPane_40 (lv_at hl 0 rfl) ?_
  refine wq_if_ge (tgt := 52) hx hb dX4_bestPane_42 (by decide) hf (fun hf => ?_) (fun hf => ?_)
  · refine lv_aload_n hx hb dX4_bestPane_52 rfl (lv_at hl 1 rfl) ?_
    refine gf_X4_rosters  hx hb hts hown hK hM tw_716 dX4_bestPane_53 ?_
    refine lv_bipush (v := 24) hx hb dX4_bestPane_56 (by decide) ?_
    refine lv_iload_n hx hb dX4_bestPane_58 rfl (lv_at hl 2 rfl) ?_
    refine lv_imul hx hb dX4_bestPane_59 ?_
    refine lv_iload_n hx hb dX4_bestPane_60 rfl (lv_at hl 3 rfl) ?_
    refine lv_iadd hx hb dX4_bestPane_61 ?_
    obtain ⟨i9, hf⟩ := wt_chk_of hf
    refine wt_ild hx hb hK hM wt_a106 i9 dX4_bestPane_62 ?_
    refine wt_leti hf (fun z10 hf => ?_)
    refine lv_istore (lv' := [(6, .int z10), (5, .int r7), (0, .ref (B + 101)), (1, .int x1), (2, .int x2), (3, .int x3), (4, .int x4)]) hx hb dX4_bestPane_63 hl (by decide) rfl (fun ls hl => ?_)
    refine lv_iconst (v := -1) hx hb dX4_bestPane_65 (by decide) ?_
    refine lv_istore (lv' := [(7, .int (-1 : Int32)), (6, .int z10), (5, .int r7), (0, .ref (B + 101)), (1, .int x1), (2, .int x2), (3, .int x3), (4, .int x4)]) hx hb dX4_bestPane_66 hl (by decide) rfl (fun ls hl => ?_)
    refine lv_iconst (v := -1) hx hb dX4_bestPane_68 (by decide) ?_
    refine lv_istore (lv' := [(8, .int (-1 : Int32)), (7, .int (-1 : Int32)), (6, .int z10), (5, .int r7), (0, .ref (B + 101)), (1, .int x1), (2, .int x2), (3, .int x3), (4, .int x4)]) hx hb dX4_bestPane_69 hl (by decide) rfl (fun ls hl => ?_)
    refine lv_iconst (v := 0) hx hb dX4_bestPane_71 (by decide) ?_
    refine lv_istore (lv' := [(9, .int (0 : Int32)), (8, .int (-1 : Int32)), (7, .int (-1 : Int32)), (6, .int z10), (5, .int r7), (0, .ref (B + 101)), (1, .int x1), (2, .int x2), (3, .int x3), (4, .int x4)]) hx hb dX4_bestPane_72 hl (by decide) rfl (fun ls hl => ?_)
    exact w_X4_bestPane_74 C _ _ _ _ _ _ _ _ hf hM (lv_sub hl [5, 6, 7, 8, 9, 3, 2, 1, 0] rfl)
  refine lv_aload_n hx hb dX4_bestPane_45 rfl (lv_at hl 1 rfl) ?_
  refine lv_iload hx hb dX4_bestPane_46 (lv_at hl 0 rfl) ?_
  refine wt_callVi (As := [.int r7]) (rest := []) hx hb hml hts hown hK hM wt_rc_X4 cw_X4_143 hd_X4_refuse rfl ⟨qz_b rfl, qz_b rfl⟩ ⟨rfl, rfl⟩ hl.1 rfl (qz_b rfl) dX4_bestPane_48 hf (fun _ _ h9 => c_X4_refuse h9) (fun r11 s12 H locs hf hM => ?_)
  exact wt_iret hx hb hr hlk hK hM hf dX4_bestPane_51
set_option maxHeartbeats 4000000 in
set_option maxRecDepth 100000 in
theorem w_X4_bestPane_31 (C : wt_C p s m args meth c RX4 cX4_bestPane 11 (some .int) D tI tII) {F : Nat} {x1 : Int32} {x2 : Int32} {x3 : Int32} {x4 : Int32} {σ : Mem} {r : Int32} {σ' : Mem} {H : Heap} {locs : List Loc} {ls : Array Slot} (hf : j_X4_bestPane_31 F x1 x2 x3 x4 σ = some (r, σ')) (hM : wt_St D tI tII B σ s H locs) (hl : lv_has ls 11 [(0, .ref (B + 101)), (1, .int x1), (2, .int x2), (3, .int x3), (4, .int x4)]) : W p l e rm_X4_bestPane s m args below meth c H locs 0 0 (MQ below (wt_Qi D tI tII B r σ') args s 0 0 (fun q => B ≤ q)) (F0 m 31 ls []) := by
  obtain ⟨hx, hb, hts, hown, hml, hr, hlk, hK⟩ := id C
  replace hf := Eq.trans j_X4_bestPane_31_e.symm hf
  refine lv_iconst (v := -1) hx hb dX4_bestPane_31 (by decide) ?_
  exact w_X4_bestPane_32 C hf hM hl
set_option maxHeartbeats 4000000 in
set_option maxRecDepth 100000 in
theorem w_X4_bestPane_0 (C : wt_C p s m args meth c RX4 cX4_bestPane 11 (some .int) D tI tII) {F : Nat} {x1 : Int32} {x2 : Int32} {x3 : Int32} {x4 : Int32} {σ : Mem} {r : Int32} {σ' : Mem} {H : Heap} {locs : List Loc} {ls : Array Slot} (hf : f_X4_bestPane F x1 x2 x3 x4 σ = some (r, σ')) (hM : wt_St D tI tII B σ s H locs) (hl : lv_has ls 11 [(0, .ref (B + 101)), (1, .int x1), (2, .int x2), (3, .int x3), (4, .int x4)]) : W p l e rm_X4_bestPane s m args below meth c H locs 0 0 (MQ below (wt_Qi D tI tII B r σ') args s 0 0 (fun q => B ≤ q)) (F0 m 0 ls []) := by
  obtain ⟨hx, hb, hts, hown, hml, hr, hlk, hK⟩ := id C
  replace hf := Eq.trans f_X4_bestPane_e.symm hf
  refine lv_aload_n hx hb dX4_bestPane_0 rfl (lv_at hl 0 rfl) ?_
  refine lv_iconst (v := 0) hx hb dX4_bestPane_1 (by decide) ?_
  refine pf_X4_thrown  hx hb hts hown hK hM tw_720 dX4_bestPane_2 hf (fun s13 H locs hf hM => ?_)
  refine lv_aload_n hx hb dX4_bestPane_5 rfl (lv_at hl 0 rfl) ?_
  refine lv_iload_n hx hb dX4_bestPane_6 rfl (lv_at hl 1 rfl) ?_
  refine wt_callVi (As := [.int x1]) (rest := []) hx hb hml hts hown hK hM wt_rc_X4 cw_X4_88 hd_X4_isLooker rfl ⟨qz_b rfl, qz_b rfl⟩ ⟨rfl, rfl⟩ hl.1 rfl (qz_b rfl) dX4_bestPane_7 hf (fun _ _ h9 => c_X4_isLooker h9) (fun r14 s15 H locs hf hM => ?_)
  refine wq_if_eq (tgt := 31) hx hb dX4_bestPane_10 (by decide) hf (fun hf => ?_) (fun hf => ?_)
  · exact w_X4_bestPane_31 C hf hM hl
  refine lv_iload_n hx hb dX4_bestPane_13 rfl (lv_at hl 2 rfl) ?_
  refine wt_callSi (As := [.int x2]) (rest := []) hx hb hml hts hown hK hM cw_X4_237 hd_X4_isHour rfl ⟨qz_b rfl, qz_b rfl⟩ ⟨rfl, rfl⟩ hl.1 rfl (qz_b rfl) dX4_bestPane_14 hf (fun _ _ h9 => c_X4_isHour h9) (fun r16 s17 H locs hf hM => ?_)
  refine wq_if_eq (tgt := 31) hx hb dX4_bestPane_17 (by decide) hf (fun hf => ?_) (fun hf => ?_)
  · exact w_X4_bestPane_31 C hf hM hl
  refine lv_iload_n hx hb dX4_bestPane_20 rfl (lv_at hl 3 rfl) ?_
  refine lv_iconst (v := 0) hx hb dX4_bestPane_21 (by decide) ?_
  refine lv_sipush (v := 999) hx hb dX4_bestPane_22 (by decide) ?_
  refine wt_callSi (As := [.int x3, .int (0 : Int32), .int (999 : Int32)]) (rest := []) hx hb hml hts hown hK hM cw_X4_231 hd_X4_wrongNumber rfl ⟨qz_b rfl, qz_b rfl⟩ ⟨rfl, rfl⟩ hl.1 rfl (qz_b rfl) dX4_bestPane_25 hf (fun _ _ h9 => c_X4_wrongNumber h9) (fun r18 s19 H locs hf hM => ?_)
  refine lv_goto (tgt := 32) hx hb dX4_bestPane_28 (by decide) ?_
  exact w_X4_bestPane_32 C hf hM hl
end
set_option maxHeartbeats 4000000 in
set_option maxRecDepth 100000 in
theorem c_X4_bestPane {l : Launch} {D : va_G} {tI tII : ClassId} {B F : Nat} {x1 : Int32} {x2 : Int32} {x3 : Int32} {x4 : Int32} {σ σ' : Mem} {r : Int32} (hf : f_X4_bestPane F x1 x2 x3 x4 σ = some (r, σ')) : wt_Mi l yX4_bestPane cX4_bestPane 11 (some .int) rm_X4_bestPane [.ref (B + 101), .int x1, .int x2, .int x3, .int x4] D tI tII B σ r σ' := by
  refine Met.ofW (cc := cX4_bestPane) (maxL := 11) (ret := (some .int)) (by decide) rfl ?_
  intro p e s m args below meth c s₁ B9 hml hv
  obtain ⟨rfl, hP, hK⟩ := hv
  have hl := lv_entry ([.ref (B + 101), .int x1, .int x2, .int x3, .int x4]) (n := 11) (qz_b rfl)
  rw [lg_entry_eq]
  generalize (lg_sl ([.ref (B + 101), .int x1, .int x2, .int x3, .int x4]) ++ List.replicate (11 - (lg_sl ([.ref (B + 101), .int x1, .int x2, .int x3, .int x4])).length) Slot.unset).toArray = ls at hl ⊢
  exact w_X4_bestPane_0 (wt_C_of B9 hml hK) hf ⟨hP, va_S.rf⟩ hl
section
variable {p : Program} {l : Launch} {e : Env} {s : State} {m : MethodId} {args : Array Value} {below : List Frame} {meth : Method} {c : Code} {D : va_G} {tI tII : ClassId} {B : Nat}
set_option maxHeartbeats 4000000 in
set_option maxRecDepth 100000 in
theorem w_X4_freeHours_119 (C : wt_C p s m args meth c RX4 cX4_freeHours 8 (some .int) D tI tII) {F : Nat} {k54 : Int32 → Int32 → Mem → Option (Int32 × Mem)} {x1 : Int32} {x2 : Int32} {x4 : Int32} {x6 : Int32} {x7 : Int32} {t0 : Int32} {t1 : Int32} {σ : Mem} {r : Int32} {σ' : Mem} {H : Heap} {locs : List Loc} {ls : Array Slot} (hk54 : ∀ (x5 : Int32) (x6 : Int32) (σ : Mem) (H : Heap) (locs : List Loc) (ls : Array Slot), k54 x5 x6 σ = some (r, σ') → wt_St D tI tII B σ s H locs → lv_has ls 8 [(0, .ref (B + 101)), (1, .int x1), (2, .int x2), (4, .int x4), (5, .int x5), (6, .int x6)] → W p l e rm_X4_freeHours s m args below meth c H locs 0 0 (MQ below (wt_Qi D tI tII B r σ') args s 0 0 (fun q => B ≤ q)) (F0 m 54 ls [])) (hf : j_X4_freeHours_119 F k54 x1 x2 x4 x6 x7 t0 t1 σ = some (r, σ')) (hM : wt_St D tI tII B σ s H locs) (hl : lv_has ls 8 [(0, .ref (B + 101)), (1, .int x1), (2, .int x2), (4, .int x4), (6, .int x6), (7, .int x7)]) : W p l e rm_X4_freeHours s m args below meth c H locs 0 0 (MQ below (wt_Qi D tI tII B r σ') args s 0 0 (fun q => B ≤ q)) (F0 m 119 ls [.int t1, .int t0]) := by
  obtain ⟨hx, hb, hts, hown, hml, hr, hlk, hK⟩ := id C
  replace hf := Eq.trans j_X4_freeHours_119_e.symm hf
  refine lv_ior hx hb dX4_freeHours_119 ?_
  refine lv_istore (lv' := [(5, .int (t0 ||| t1)), (0, .ref (B + 101)), (1, .int x1), (2, .int x2), (4, .int x4), (6, .int x6), (7, .int x7)]) hx hb dX4_freeHours_120 hl (by decide) rfl (fun ls hl => ?_)
  refine lv_aload_n hx hb dX4_freeHours_122 rfl (lv_at hl 1 rfl) ?_
  refine gf_X4_rosters  hx hb hts hown hK hM tw_716 dX4_freeHours_123 ?_
  refine lv_bipush (v := 24) hx hb dX4_freeHours_126 (by decide) ?_
  refine lv_iload_n hx hb dX4_freeHours_128 rfl (lv_at hl 2 rfl) ?_
  refine lv_imul hx hb dX4_freeHours_129 ?_
  refine lv_iload hx hb dX4_freeHours_130 (lv_at hl 5 rfl) ?_
  refine lv_iadd hx hb dX4_freeHours_132 ?_
  refine lv_iload hx hb dX4_freeHours_133 (lv_at hl 6 rfl) ?_
  obtain ⟨i1, hf⟩ := wt_chk_of hf
  refine wt_ist hx hb hK hM wt_a106 i1 dX4_freeHours_135 hf (fun s2 H locs hf hM => ?_)
  refine lv_iinc (v := (x6 + (1 : Int32))) (lv' := [(6, .int (x6 + (1 : Int32))), (5, .int (t0 ||| t1)), (0, .ref (B + 101)), (1, .int x1), (2, .int x2), (4, .int x4), (7, .int x7)]) hx hb dX4_freeHours_136 hl (k := 5) rfl rfl (by decide) rfl (fun ls hl => ?_)
  refine lv_goto (tgt := 54) hx hb dX4_freeHours_139 (by decide) ?_
  exact hk54 _ _ _ _ _ _ hf hM (lv_sub hl [2, 3, 4, 5, 1, 0] rfl)
set_option maxHeartbeats 4000000 in
set_option maxRecDepth 100000 in
theorem w_X4_freeHours_118 (C : wt_C p s m args meth c RX4 cX4_freeHours 8 (some .int) D tI tII) {F : Nat} {k54 : Int32 → Int32 → Mem → Option (Int32 × Mem)} {x1 : Int32} {x2 : Int32} {x4 : Int32} {x6 : Int32} {x7 : Int32} {t0 : Int32} {σ : Mem} {r : Int32} {σ' : Mem} {H : Heap} {locs : List Loc} {ls : Array Slot} (hk54 : ∀ (x5 : Int32) (x6 : Int32) (σ : Mem) (H : Heap) (locs : List Loc) (ls : Array Slot), k54 x5 x6 σ = some (r, σ') → wt_St D tI tII B σ s H locs → lv_has ls 8 [(0, .ref (B + 101)), (1, .int x1), (2, .int x2), (4, .int x4), (5, .int x5), (6, .int x6)] → W p l e rm_X4_freeHours s m args below meth c H locs 0 0 (MQ below (wt_Qi D tI tII B r σ') args s 0 0 (fun q => B ≤ q)) (F0 m 54 ls [])) (hf : j_X4_freeHours_118 F k54 x1 x2 x4 x6 x7 t0 σ = some (r, σ')) (hM : wt_St D tI tII B σ s H locs) (hl : lv_has ls 8 [(0, .ref (B + 101)), (1, .int x1), (2, .int x2), (4, .int x4), (6, .int x6), (7, .int x7)]) : W p l e rm_X4_freeHours s m args below meth c H locs 0 0 (MQ below (wt_Qi D tI tII B r σ') args s 0 0 (fun q => B ≤ q)) (F0 m 118 ls [.int t0]) := by
  obtain ⟨hx, hb, hts, hown, hml, hr, hlk, hK⟩ := id C
  replace hf := Eq.trans j_X4_freeHours_118_e.symm hf
  refine lv_iconst (v := 0) hx hb dX4_freeHours_118 (by decide) ?_
  exact w_X4_freeHours_119 C hk54 hf hM hl
set_option maxHeartbeats 4000000 in
set_option maxRecDepth 100000 in
theorem w_X4_freeHours_54 (C : wt_C p s m args meth c RX4 cX4_freeHours 8 (some .int) D tI tII) {F : Nat} {x1 : Int32} {x2 : Int32} {x4 : Int32} {r : Int32} {σ' : Mem} : ∀ (N : Nat) (x5 : Int32) (x6 : Int32) (σ : Mem) (H : Heap) (locs : List Loc) (ls : Array Slot), lp_X4_freeHours_54 F x1 x2 x4 N x5 x6 σ = some (r, σ') → wt_St D tI tII B σ s H locs → lv_has ls 8 [(0, .ref (B + 101)), (1, .int x1), (2, .int x2), (4, .int x4), (5, .int x5), (6, .int x6)] → W p l e rm_X4_freeHours s m args below meth c H locs 0 0 (MQ below (wt_Qi D tI tII B r σ') args s 0 0 (fun q => B ≤ q)) (F0 m 54 ls []) := by
  obtain ⟨hx, hb, hts, hown, hml, hr, hlk, hK⟩ := id C
  intro N
  induction N with
  | zero => intro x5 x6 σ H locs ls hf; exact wt_none (show (none : Option (Int32 × Mem)) = some (r, σ') from hf)
  | succ N ih =>
    intro x5 x6 σ H locs ls hf hM hl
    replace hf := Eq.trans lp_X4_freeHours_54_s.symm hf
    refine lv_iload hx hb dX4_freeHours_54 (lv_at hl 5 rfl) ?_
    refine lv_bipush (v := 24) hx hb dX4_freeHours_56 (by decide) ?_
    refine wq_icmp_ge (tgt := 142) hx hb dX4_freeHours_58 (by decide) hf (fun hf => ?_) (fun hf => ?_)
    · refine lv_iload hx hb dX4_freeHours_142 (lv_at hl 4 rfl) ?_
      exact wt_iret hx hb hr hlk hK hM hf dX4_freeHours_144
    refine lv_aload_n hx hb dX4_freeHours_61 rfl (lv_at hl 0 rfl) ?_
    refine gf_X4_rosters  hx hb hts hown hK hM tw_716 dX4_freeHours_62 ?_
    refine lv_bipush (v := 24) hx hb dX4_freeHours_65 (by decide) ?_
    refine lv_iload_n hx hb dX4_freeHours_67 rfl (lv_at hl 1 rfl) ?_
    refine lv_imul hx hb dX4_freeHours_68 ?_
    refine lv_iload hx hb dX4_freeHours_69 (lv_at hl 5 rfl) ?_
    refine lv_iadd hx hb dX4_freeHours_71 ?_
    obtain ⟨i3, hf⟩ := wt_chk_of hf
    refine wt_ild hx hb hK hM wt_a106 i3 dX4_freeHours_72 ?_
    refine wt_leti hf (fun z4 hf => ?_)
    refine lv_istore (lv' := [(7, .int z4), (0, .ref (B + 101)), (1, .int x1), (2, .int x2), (4, .int x4), (5, .int x5), (6, .int x6)]) hx hb dX4_freeHours_73 hl (by decide) rfl (fun ls hl => ?_)
    refine lv_aload_n hx hb dX4_freeHours_75 rfl (lv_at hl 1 rfl) ?_
    refine gf_X4_rosters  hx hb hts hown hK hM tw_716 dX4_freeHours_76 ?_
    refine lv_bipush (v := 24) hx hb dX4_freeHours_79 (by decide) ?_
    refine lv_iload_n hx hb dX4_freeHours_81 rfl (lv_at hl 2 rfl) ?_
    refine lv_imul hx hb dX4_freeHours_82 ?_
    refine lv_iload hx hb dX4_freeHours_83 (lv_at hl 6 rfl) ?_
    refine lv_iadd hx hb dX4_freeHours_85 ?_
    refine lv_bipush (v := -9) hx hb dX4_freeHours_86 (by decide) ?_
    refine wt_ist hx hb hK hM wt_a106 i3 dX4_freeHours_88 hf (fun s5 H locs hf hM => ?_)
    refine lv_aload_n hx hb dX4_freeHours_89 rfl (lv_at hl 1 rfl) ?_
    refine wt_callVv (As := []) (rest := []) hx hb hml hts hown hK hM wt_rc_X4 cw_X4_134 hd_X4_layBrings rfl ⟨qz_b rfl, qz_b rfl⟩ ⟨rfl, rfl⟩ hl.1 rfl (qz_b rfl) dX4_freeHours_90 hf (fun _ _ h9 => c_X4_layBrings h9) (fun r6 s7 H locs hf hM => ?_)
    refine lv_iload hx hb dX4_freeHours_93 (lv_at hl 5 rfl) ?_
    refine lv_iload hx hb dX4_freeHours_95 (lv_at hl 0 rfl) ?_
    refine wq_if_lt (tgt := 118) hx hb dX4_freeHours_97 (by decide) hf (fun hf => ?_) (fun hf => ?_)
    · exact w_X4_freeHours_118 C ih hf hM (lv_sub hl [1, 2, 3, 4, 6, 0] rfl)
    refine lv_aload_n hx hb dX4_freeHours_100 rfl (lv_at hl 1 rfl) ?_
    refine lv_iload_n hx hb dX4_freeHours_101 rfl (lv_at hl 2 rfl) ?_
    refine lv_iload_n hx hb dX4_freeHours_102 rfl (lv_at hl 3 rfl) ?_
    refine wt_callVi (As := [.int x1, .int x2]) (rest := [.int x5]) hx hb hml hts hown hK hM wt_rc_X4 cw_X4_128 hd_X4_viewsIn rfl ⟨qz_b rfl, qz_b rfl⟩ ⟨rfl, rfl⟩ hl.1 rfl (qz_b rfl) dX4_freeHours_103 hf (fun _ _ h9 => c_X4_viewsIn h9) (fun r8 s9 H locs hf hM => ?_)
    refine lv_iload hx hb dX4_freeHours_106 (lv_at hl 4 rfl) ?_
    refine wq_icmp_ne (tgt := 118) hx hb dX4_freeHours_108 (by decide) hf (fun hf => ?_) (fun hf => ?_)
    · exact w_X4_freeHours_118 C ih hf hM (lv_sub hl [1, 2, 3, 4, 6, 0] rfl)
    refine lv_iconst (v := 1) hx hb dX4_freeHours_111 (by decide) ?_
    refine lv_iload hx hb dX4_freeHours_112 (lv_at hl 6 rfl) ?_
    refine lv_ishl hx hb dX4_freeHours_114 ?_
    refine lv_goto (tgt := 119) hx hb dX4_freeHours_115 (by decide) ?_
    exact w_X4_freeHours_119 C ih hf hM (lv_sub hl [1, 2, 3, 4, 6, 0] rfl)
set_option maxHeartbeats 4000000 in
set_option maxRecDepth 100000 in
theorem w_X4_freeHours_25 (C : wt_C p s m args meth c RX4 cX4_freeHours 8 (some .int) D tI tII) {F : Nat} {x1 : Int32} {x2 : Int32} {t0 : Int32} {σ : Mem} {r : Int32} {σ' : Mem} {H : Heap} {locs : List Loc} {ls : Array Slot} (hf : j_X4_freeHours_25 F x1 x2 t0 σ = some (r, σ')) (hM : wt_St D tI tII B σ s H locs) (hl : lv_has ls 8 [(0, .ref (B + 101)), (1, .int x1), (2, .int x2)]) : W p l e rm_X4_freeHours s m args below meth c H locs 0 0 (MQ below (wt_Qi D tI tII B r σ') args s 0 0 (fun q => B ≤ q)) (F0 m 25 ls [.int t0]) := by
  obtain ⟨hx, hb, hts, hown, hml, hr, hlk, hK⟩ := id C
  replace hf := Eq.trans j_X4_freeHours_25_e.symm hf
  refine lv_istore_n (lv' := [(3, .int t0), (0, .ref (B + 101)), (1, .int x1), (2, .int x2)]) hx hb dX4_freeHours_25 rfl hl (by decide) rfl (fun ls hl => ?_)
  refine lv_iload_n hx hb dX4_freeHours_26 rfl (lv_at hl 0 rfl) ?_
  refine wq_if_ge (tgt := 36) hx hb dX4_freeHours_27 (by decide) hf (fun hf => ?_) (fun hf => ?_)
  · refine lv_aload_n hx hb dX4_freeHours_36 rfl (lv_at hl 1 rfl) ?_
    refine wt_callVv (As := []) (rest := []) hx hb hml hts hown hK hM wt_rc_X4 cw_X4_134 hd_X4_layBrings rfl ⟨qz_b rfl, qz_b rfl⟩ ⟨rfl, rfl⟩ hl.1 rfl (qz_b rfl) dX4_freeHours_37 hf (fun _ _ h9 => c_X4_layBrings h9) (fun r10 s11 H locs hf hM => ?_)
    refine lv_aload_n hx hb dX4_freeHours_40 rfl (lv_at hl 1 rfl) ?_
    refine lv_iload_n hx hb dX4_freeHours_41 rfl (lv_at hl 2 rfl) ?_
    refine lv_iload_n hx hb dX4_freeHours_42 rfl (lv_at hl 3 rfl) ?_
    refine wt_callVi (As := [.int x1, .int x2]) (rest := []) hx hb hml hts hown hK hM wt_rc_X4 cw_X4_128 hd_X4_viewsIn rfl ⟨qz_b rfl, qz_b rfl⟩ ⟨rfl, rfl⟩ hl.1 rfl (qz_b rfl) dX4_freeHours_43 hf (fun _ _ h9 => c_X4_viewsIn h9) (fun r12 s13 H locs hf hM => ?_)
    refine lv_istore (lv' := [(4, .int r12), (3, .int t0), (0, .ref (B + 101)), (1, .int x1), (2, .int x2)]) hx hb dX4_freeHours_46 hl (by decide) rfl (fun ls hl => ?_)
    refine lv_iconst (v := 0) hx hb dX4_freeHours_48 (by decide) ?_
    refine lv_istore (lv' := [(5, .int (0 : Int32)), (4, .int r12), (3, .int t0), (0, .ref (B + 101)), (1, .int x1), (2, .int x2)]) hx hb dX4_freeHours_49 hl (by decide) rfl (fun ls hl => ?_)
    refine lv_iconst (v := 0) hx hb dX4_freeHours_51 (by decide) ?_
    refine lv_istore (lv' := [(6, .int (0 : Int32)), (5, .int (0 : Int32)), (4, .int r12), (3, .int t0), (0, .ref (B + 101)), (1, .int x1), (2, .int x2)]) hx hb dX4_freeHours_52 hl (by decide) rfl (fun ls hl => ?_)
    exact w_X4_freeHours_54 C _ _ _ _ _ _ _ hf hM (lv_sub hl [4, 5, 6, 2, 1, 0] rfl)
  refine lv_aload_n hx hb dX4_freeHours_30 rfl (lv_at hl 1 rfl) ?_
  refine lv_iload_n hx hb dX4_freeHours_31 rfl (lv_at hl 0 rfl) ?_
  refine wt_callVi (As := [.int t0]) (rest := []) hx hb hml hts hown hK hM wt_rc_X4 cw_X4_143 hd_X4_refuse rfl ⟨qz_b rfl, qz_b rfl⟩ ⟨rfl, rfl⟩ hl.1 rfl (qz_b rfl) dX4_freeHours_32 hf (fun _ _ h9 => c_X4_refuse h9) (fun r14 s15 H locs hf hM => ?_)
  exact wt_iret hx hb hr hlk hK hM hf dX4_freeHours_35
set_option maxHeartbeats 4000000 in
set_option maxRecDepth 100000 in
theorem w_X4_freeHours_0 (C : wt_C p s m args meth c RX4 cX4_freeHours 8 (some .int) D tI tII) {F : Nat} {x1 : Int32} {x2 : Int32} {σ : Mem} {r : Int32} {σ' : Mem} {H : Heap} {locs : List Loc} {ls : Array Slot} (hf : f_X4_freeHours F x1 x2 σ = some (r, σ')) (hM : wt_St D tI tII B σ s H locs) (hl : lv_has ls 8 [(0, .ref (B + 101)), (1, .int x1), (2, .int x2)]) : W p l e rm_X4_freeHours s m args below meth c H locs 0 0 (MQ below (wt_Qi D tI tII B r σ') args s 0 0 (fun q => B ≤ q)) (F0 m 0 ls []) := by
  obtain ⟨hx, hb, hts, hown, hml, hr, hlk, hK⟩ := id C
  replace hf := Eq.trans f_X4_freeHours_e.symm hf
  refine lv_aload_n hx hb dX4_freeHours_0 rfl (lv_at hl 0 rfl) ?_
  refine lv_iconst (v := 0) hx hb dX4_freeHours_1 (by decide) ?_
  refine pf_X4_thrown  hx hb hts hown hK hM tw_720 dX4_freeHours_2 hf (fun s16 H locs hf hM => ?_)
  refine lv_aload_n hx hb dX4_freeHours_5 rfl (lv_at hl 0 rfl) ?_
  refine lv_iload_n hx hb dX4_freeHours_6 rfl (lv_at hl 1 rfl) ?_
  refine wt_callVi (As := [.int x1]) (rest := []) hx hb hml hts hown hK hM wt_rc_X4 cw_X4_88 hd_X4_isLooker rfl ⟨qz_b rfl, qz_b rfl⟩ ⟨rfl, rfl⟩ hl.1 rfl (qz_b rfl) dX4_freeHours_7 hf (fun _ _ h9 => c_X4_isLooker h9) (fun r17 s18 H locs hf hM => ?_)
  refine wq_if_eq (tgt := 24) hx hb dX4_freeHours_10 (by decide) hf (fun hf => ?_) (fun hf => ?_)
  · refine lv_iconst (v := -1) hx hb dX4_freeHours_24 (by decide) ?_
    exact w_X4_freeHours_25 C hf hM hl
  refine lv_iload_n hx hb dX4_freeHours_13 rfl (lv_at hl 2 rfl) ?_
  refine lv_iconst (v := 0) hx hb dX4_freeHours_14 (by decide) ?_
  refine lv_sipush (v := 999) hx hb dX4_freeHours_15 (by decide) ?_
  refine wt_callSi (As := [.int x2, .int (0 : Int32), .int (999 : Int32)]) (rest := []) hx hb hml hts hown hK hM cw_X4_231 hd_X4_wrongNumber rfl ⟨qz_b rfl, qz_b rfl⟩ ⟨rfl, rfl⟩ hl.1 rfl (qz_b rfl) dX4_freeHours_18 hf (fun _ _ h9 => c_X4_wrongNumber h9) (fun r19 s20 H locs hf hM => ?_)
  refine lv_goto (tgt := 25) hx hb dX4_freeHours_21 (by decide) ?_
  exact w_X4_freeHours_25 C hf hM hl
end
set_option maxHeartbeats 4000000 in
set_option maxRecDepth 100000 in
theorem c_X4_freeHours {l : Launch} {D : va_G} {tI tII : ClassId} {B F : Nat} {x1 : Int32} {x2 : Int32} {σ σ' : Mem} {r : Int32} (hf : f_X4_freeHours F x1 x2 σ = some (r, σ')) : wt_Mi l yX4_freeHours cX4_freeHours 8 (some .int) rm_X4_freeHours [.ref (B + 101), .int x1, .int x2] D tI tII B σ r σ' := by
  refine Met.ofW (cc := cX4_freeHours) (maxL := 8) (ret := (some .int)) (by decide) rfl ?_
  intro p e s m args below meth c s₁ B9 hml hv
  obtain ⟨rfl, hP, hK⟩ := hv
  have hl := lv_entry ([.ref (B + 101), .int x1, .int x2]) (n := 8) (qz_b rfl)
  rw [lg_entry_eq]
  generalize (lg_sl ([.ref (B + 101), .int x1, .int x2]) ++ List.replicate (8 - (lg_sl ([.ref (B + 101), .int x1, .int x2])).length) Slot.unset).toArray = ls at hl ⊢
  exact w_X4_freeHours_0 (wt_C_of B9 hml hK) hf ⟨hP, va_S.rf⟩ hl
section
variable {p : Program} {l : Launch} {e : Env} {s : State} {m : MethodId} {args : Array Value} {below : List Frame} {meth : Method} {c : Code} {D : va_G} {tI tII : ClassId} {B : Nat}
set_option maxHeartbeats 4000000 in
set_option maxRecDepth 100000 in
theorem w_X4_cover_62 (C : wt_C p s m args meth c RX4 cX4_cover 6 (some .int) D tI tII) {F : Nat} {k21 : Int32 → Int32 → Mem → Option (Int32 × Mem)} {k31 : Int32 → Int32 → Mem → Option (Int32 × Mem)} {x1 : Int32} {x2 : Int32} {x3 : Int32} {x5 : Int32} {t0 : Int32} {t1 : Int32} {σ : Mem} {r : Int32} {σ' : Mem} {H : Heap} {locs : List Loc} {ls : Array Slot} (hk21 : ∀ (x2 : Int32) (x3 : Int32) (σ : Mem) (H : Heap) (locs : List Loc) (ls : Array Slot), k21 x2 x3 σ = some (r, σ') → wt_St D tI tII B σ s H locs → lv_has ls 6 [(0, .ref (B + 101)), (1, .int x1), (2, .int x2), (3, .int x3)] → W p l e rm_X4_cover s m args below meth c H locs 0 0 (MQ below (wt_Qi D tI tII B r σ') args s 0 0 (fun q => B ≤ q)) (F0 m 21 ls [])) (hk31 : ∀ (x4 : Int32) (x5 : Int32) (σ : Mem) (H : Heap) (locs : List Loc) (ls : Array Slot), k31 x4 x5 σ = some (r, σ') → wt_St D tI tII B σ s H locs → lv_has ls 6 [(0, .ref (B + 101)), (1, .int x1), (2, .int x2), (3, .int x3), (4, .int x4), (5, .int x5)] → W p l e rm_X4_cover s m args below meth c H locs 0 0 (MQ below (wt_Qi D tI tII B r σ') args s 0 0 (fun q => B ≤ q)) (F0 m 31 ls [])) (hf : j_X4_cover_62 F k21 k31 x1 x2 x3 x5 t0 t1 σ = some (r, σ')) (hM : wt_St D tI tII B σ s H locs) (hl : lv_has ls 6 [(0, .ref (B + 101)), (1, .int x1), (2, .int x2), (3, .int x3), (5, .int x5)]) : W p l e rm_X4_cover s m args below meth c H locs 0 0 (MQ below (wt_Qi D tI tII B r σ') args s 0 0 (fun q => B ≤ q)) (F0 m 62 ls [.int t1, .int t0]) := by
  obtain ⟨hx, hb, hts, hown, hml, hr, hlk, hK⟩ := id C
  replace hf := Eq.trans j_X4_cover_62_e.symm hf
  refine lv_ior hx hb dX4_cover_62 ?_
  refine lv_istore (lv' := [(4, .int (t0 ||| t1)), (0, .ref (B + 101)), (1, .int x1), (2, .int x2), (3, .int x3), (5, .int x5)]) hx hb dX4_cover_63 hl (by decide) rfl (fun ls hl => ?_)
  refine lv_iinc (v := (x5 + (1 : Int32))) (lv' := [(5, .int (x5 + (1 : Int32))), (4, .int (t0 ||| t1)), (0, .ref (B + 101)), (1, .int x1), (2, .int x2), (3, .int x3)]) hx hb dX4_cover_65 hl (k := 5) rfl rfl (by decide) rfl (fun ls hl => ?_)
  refine lv_goto (tgt := 31) hx hb dX4_cover_68 (by decide) ?_
  exact hk31 _ _ _ _ _ _ hf hM (lv_sub hl [2, 3, 4, 5, 1, 0] rfl)
set_option maxHeartbeats 4000000 in
set_option maxRecDepth 100000 in
theorem w_X4_cover_93 (C : wt_C p s m args meth c RX4 cX4_cover 6 (some .int) D tI tII) {F : Nat} {k21 : Int32 → Int32 → Mem → Option (Int32 × Mem)} {x1 : Int32} {x3 : Int32} {t0 : Int32} {σ : Mem} {r : Int32} {σ' : Mem} {H : Heap} {locs : List Loc} {ls : Array Slot} (hk21 : ∀ (x2 : Int32) (x3 : Int32) (σ : Mem) (H : Heap) (locs : List Loc) (ls : Array Slot), k21 x2 x3 σ = some (r, σ') → wt_St D tI tII B σ s H locs → lv_has ls 6 [(0, .ref (B + 101)), (1, .int x1), (2, .int x2), (3, .int x3)] → W p l e rm_X4_cover s m args below meth c H locs 0 0 (MQ below (wt_Qi D tI tII B r σ') args s 0 0 (fun q => B ≤ q)) (F0 m 21 ls [])) (hf : j_X4_cover_93 F k21 x1 x3 t0 σ = some (r, σ')) (hM : wt_St D tI tII B σ s H locs) (hl : lv_has ls 6 [(0, .ref (B + 101)), (1, .int x1), (3, .int x3)]) : W p l e rm_X4_cover s m args below meth c H locs 0 0 (MQ below (wt_Qi D tI tII B r σ') args s 0 0 (fun q => B ≤ q)) (F0 m 93 ls [.int t0]) := by
  obtain ⟨hx, hb, hts, hown, hml, hr, hlk, hK⟩ := id C
  replace hf := Eq.trans j_X4_cover_93_e.symm hf
  refine lv_istore_n (lv' := [(2, .int t0), (0, .ref (B + 101)), (1, .int x1), (3, .int x3)]) hx hb dX4_cover_93 rfl hl (by decide) rfl (fun ls hl => ?_)
  refine lv_iinc (v := (x3 + (-1 : Int32))) (lv' := [(3, .int (x3 + (-1 : Int32))), (2, .int t0), (0, .ref (B + 101)), (1, .int x1)]) hx hb dX4_cover_94 hl (k := 3) rfl rfl (by decide) rfl (fun ls hl => ?_)
  refine lv_goto (tgt := 21) hx hb dX4_cover_97 (by decide) ?_
  exact hk21 _ _ _ _ _ _ hf hM (lv_sub hl [2, 3, 1, 0] rfl)
set_option maxHeartbeats 4000000 in
set_option maxRecDepth 100000 in
theorem w_X4_cover_92 (C : wt_C p s m args meth c RX4 cX4_cover 6 (some .int) D tI tII) {F : Nat} {k21 : Int32 → Int32 → Mem → Option (Int32 × Mem)} {x1 : Int32} {x2 : Int32} {x3 : Int32} {σ : Mem} {r : Int32} {σ' : Mem} {H : Heap} {locs : List Loc} {ls : Array Slot} (hk21 : ∀ (x2 : Int32) (x3 : Int32) (σ : Mem) (H : Heap) (locs : List Loc) (ls : Array Slot), k21 x2 x3 σ = some (r, σ') → wt_St D tI tII B σ s H locs → lv_has ls 6 [(0, .ref (B + 101)), (1, .int x1), (2, .int x2), (3, .int x3)] → W p l e rm_X4_cover s m args below meth c H locs 0 0 (MQ below (wt_Qi D tI tII B r σ') args s 0 0 (fun q => B ≤ q)) (F0 m 21 ls [])) (hf : j_X4_cover_92 F k21 x1 x2 x3 σ = some (r, σ')) (hM : wt_St D tI tII B σ s H locs) (hl : lv_has ls 6 [(0, .ref (B + 101)), (1, .int x1), (2, .int x2), (3, .int x3)]) : W p l e rm_X4_cover s m args below meth c H locs 0 0 (MQ below (wt_Qi D tI tII B r σ') args s 0 0 (fun q => B ≤ q)) (F0 m 92 ls []) := by
  obtain ⟨hx, hb, hts, hown, hml, hr, hlk, hK⟩ := id C
  replace hf := Eq.trans j_X4_cover_92_e.symm hf
  refine lv_iload_n hx hb dX4_cover_92 rfl (lv_at hl 2 rfl) ?_
  exact w_X4_cover_93 C hk21 hf hM (lv_sub hl [0, 1, 3] rfl)
set_option maxHeartbeats 4000000 in
set_option maxRecDepth 100000 in
theorem w_X4_cover_31 (C : wt_C p s m args meth c RX4 cX4_cover 6 (some .int) D tI tII) {F : Nat} {k21 : Int32 → Int32 → Mem → Option (Int32 × Mem)} {x1 : Int32} {x2 : Int32} {x3 : Int32} {r : Int32} {σ' : Mem} (hk21 : ∀ (x2 : Int32) (x3 : Int32) (σ : Mem) (H : Heap) (locs : List Loc) (ls : Array Slot), k21 x2 x3 σ = some (r, σ') → wt_St D tI tII B σ s H locs → lv_has ls 6 [(0, .ref (B + 101)), (1, .int x1), (2, .int x2), (3, .int x3)] → W p l e rm_X4_cover s m args below meth c H locs 0 0 (MQ below (wt_Qi D tI tII B r σ') args s 0 0 (fun q => B ≤ q)) (F0 m 21 ls [])) : ∀ (N : Nat) (x4 : Int32) (x5 : Int32) (σ : Mem) (H : Heap) (locs : List Loc) (ls : Array Slot), lp_X4_cover_31 F k21 x1 x2 x3 N x4 x5 σ = some (r, σ') → wt_St D tI tII B σ s H locs → lv_has ls 6 [(0, .ref (B + 101)), (1, .int x1), (2, .int x2), (3, .int x3), (4, .int x4), (5, .int x5)] → W p l e rm_X4_cover s m args below meth c H locs 0 0 (MQ below (wt_Qi D tI tII B r σ') args s 0 0 (fun q => B ≤ q)) (F0 m 31 ls []) := by
  obtain ⟨hx, hb, hts, hown, hml, hr, hlk, hK⟩ := id C
  intro N
  induction N with
  | zero => intro x4 x5 σ H locs ls hf; exact wt_none (show (none : Option (Int32 × Mem)) = some (r, σ') from hf)
  | succ N ih =>
    intro x4 x5 σ H locs ls hf hM hl
    replace hf := Eq.trans lp_X4_cover_31_s.symm hf
    refine lv_iload hx hb dX4_cover_31 (lv_at hl 5 rfl) ?_
    refine lv_aload_n hx hb dX4_cover_33 rfl (lv_at hl 0 rfl) ?_
    refine gf_X4_panes  hx hb hts hown hK hM tw_711 dX4_cover_34 ?_
    refine wq_icmp_ge (tgt := 71) hx hb dX4_cover_37 (by decide) hf (fun hf => ?_) (fun hf => ?_)
    · refine lv_iload hx hb dX4_cover_71 (lv_at hl 4 rfl) ?_
      refine lv_iload_n hx hb dX4_cover_73 rfl (lv_at hl 1 rfl) ?_
      refine wq_icmp_ne (tgt := 92) hx hb dX4_cover_74 (by decide) hf (fun hf => ?_) (fun hf => ?_)
      · exact w_X4_cover_92 C hk21 hf hM (lv_sub hl [0, 1, 2, 3] rfl)
      refine lv_iload_n hx hb dX4_cover_77 rfl (lv_at hl 3 rfl) ?_
      refine wt_callSi (As := [.int x3]) (rest := []) hx hb hml hts hown hK hM cw_X4_263 hd_X4_onesOf rfl ⟨qz_b rfl, qz_b rfl⟩ ⟨rfl, rfl⟩ hl.1 rfl (qz_b rfl) dX4_cover_78 hf (fun _ _ h9 => c_X4_onesOf h9) (fun r1 s2 H locs hf hM => ?_)
      refine lv_iload_n hx hb dX4_cover_81 rfl (lv_at hl 2 rfl) ?_
      refine wt_callSi (As := [.int x2]) (rest := [.int r1]) hx hb hml hts hown hK hM cw_X4_263 hd_X4_onesOf rfl ⟨qz_b rfl, qz_b rfl⟩ ⟨rfl, rfl⟩ hl.1 rfl (qz_b rfl) dX4_cover_82 hf (fun _ _ h9 => c_X4_onesOf h9) (fun r3 s4 H locs hf hM => ?_)
      refine wq_icmp_gt (tgt := 92) hx hb dX4_cover_85 (by decide) hf (fun hf => ?_) (fun hf => ?_)
      · exact w_X4_cover_92 C hk21 hf hM (lv_sub hl [0, 1, 2, 3] rfl)
      refine lv_iload_n hx hb dX4_cover_88 rfl (lv_at hl 3 rfl) ?_
      refine lv_goto (tgt := 93) hx hb dX4_cover_89 (by decide) ?_
      exact w_X4_cover_93 C hk21 hf hM (lv_sub hl [0, 1, 3] rfl)
    refine lv_iload hx hb dX4_cover_40 (lv_at hl 4 rfl) ?_
    refine lv_iload_n hx hb dX4_cover_42 rfl (lv_at hl 3 rfl) ?_
    refine lv_iload hx hb dX4_cover_43 (lv_at hl 5 rfl) ?_
    refine wt_callSi (As := [.int x3, .int x5]) (rest := [.int x4]) hx hb hml hts hown hK hM cw_X4_104 hd_X4_hasBit rfl ⟨qz_b rfl, qz_b rfl⟩ ⟨rfl, rfl⟩ hl.1 rfl (qz_b rfl) dX4_cover_45 hf (fun _ _ h9 => c_X4_hasBit h9) (fun r5 s6 H locs hf hM => ?_)
    refine wq_if_eq (tgt := 61) hx hb dX4_cover_48 (by decide) hf (fun hf => ?_) (fun hf => ?_)
    · refine lv_iconst (v := 0) hx hb dX4_cover_61 (by decide) ?_
      exact w_X4_cover_62 C hk21 ih hf hM (lv_sub hl [0, 1, 2, 3, 5] rfl)
    refine lv_aload_n hx hb dX4_cover_51 rfl (lv_at hl 0 rfl) ?_
    refine gf_X4_shows  hx hb hts hown hK hM tw_712 dX4_cover_52 ?_
    refine lv_iload hx hb dX4_cover_55 (lv_at hl 5 rfl) ?_
    obtain ⟨i7, hf⟩ := wt_chk_of hf
    refine wt_ild hx hb hK hM wt_a103 i7 dX4_cover_57 ?_
    refine lv_goto (tgt := 62) hx hb dX4_cover_58 (by decide) ?_
    exact w_X4_cover_62 C hk21 ih hf hM (lv_sub hl [0, 1, 2, 3, 5] rfl)
set_option maxHeartbeats 4000000 in
set_option maxRecDepth 100000 in
theorem w_X4_cover_21 (C : wt_C p s m args meth c RX4 cX4_cover 6 (some .int) D tI tII) {F : Nat} {x1 : Int32} {r : Int32} {σ' : Mem} : ∀ (N : Nat) (x2 : Int32) (x3 : Int32) (σ : Mem) (H : Heap) (locs : List Loc) (ls : Array Slot), lp_X4_cover_21 F x1 N x2 x3 σ = some (r, σ') → wt_St D tI tII B σ s H locs → lv_has ls 6 [(0, .ref (B + 101)), (1, .int x1), (2, .int x2), (3, .int x3)] → W p l e rm_X4_cover s m args below meth c H locs 0 0 (MQ below (wt_Qi D tI tII B r σ') args s 0 0 (fun q => B ≤ q)) (F0 m 21 ls []) := by
  obtain ⟨hx, hb, hts, hown, hml, hr, hlk, hK⟩ := id C
  intro N
  induction N with
  | zero => intro x2 x3 σ H locs ls hf; exact wt_none (show (none : Option (Int32 × Mem)) = some (r, σ') from hf)
  | succ N ih =>
    intro x2 x3 σ H locs ls hf hM hl
    replace hf := Eq.trans lp_X4_cover_21_s.symm hf
    refine lv_iload_n hx hb dX4_cover_21 rfl (lv_at hl 3 rfl) ?_
    refine wq_if_lt (tgt := 100) hx hb dX4_cover_22 (by decide) hf (fun hf => ?_) (fun hf => ?_)
    · refine lv_iload_n hx hb dX4_cover_100 rfl (lv_at hl 2 rfl) ?_
      exact wt_iret hx hb hr hlk hK hM hf dX4_cover_101
    refine lv_iconst (v := 0) hx hb dX4_cover_25 (by decide) ?_
    refine lv_istore (lv' := [(4, .int (0 : Int32)), (0, .ref (B + 101)), (1, .int x1), (2, .int x2), (3, .int x3)]) hx hb dX4_cover_26 hl (by decide) rfl (fun ls hl => ?_)
    refine lv_iconst (v := 0) hx hb dX4_cover_28 (by decide) ?_
    refine lv_istore (lv' := [(5, .int (0 : Int32)), (4, .int (0 : Int32)), (0, .ref (B + 101)), (1, .int x1), (2, .int x2), (3, .int x3)]) hx hb dX4_cover_29 hl (by decide) rfl (fun ls hl => ?_)
    exact w_X4_cover_31 C ih _ _ _ _ _ _ _ hf hM (lv_sub hl [2, 3, 4, 5, 1, 0] rfl)
set_option maxHeartbeats 4000000 in
set_option maxRecDepth 100000 in
theorem w_X4_cover_0 (C : wt_C p s m args meth c RX4 cX4_cover 6 (some .int) D tI tII) {F : Nat} {σ : Mem} {r : Int32} {σ' : Mem} {H : Heap} {locs : List Loc} {ls : Array Slot} (hf : f_X4_cover F σ = some (r, σ')) (hM : wt_St D tI tII B σ s H locs) (hl : lv_has ls 6 [(0, .ref (B + 101))]) : W p l e rm_X4_cover s m args below meth c H locs 0 0 (MQ below (wt_Qi D tI tII B r σ') args s 0 0 (fun q => B ≤ q)) (F0 m 0 ls []) := by
  obtain ⟨hx, hb, hts, hown, hml, hr, hlk, hK⟩ := id C
  replace hf := Eq.trans f_X4_cover_e.symm hf
  refine lv_aload_n hx hb dX4_cover_0 rfl (lv_at hl 0 rfl) ?_
  refine lv_iconst (v := 0) hx hb dX4_cover_1 (by decide) ?_
  refine pf_X4_thrown  hx hb hts hown hK hM tw_720 dX4_cover_2 hf (fun s8 H locs hf hM => ?_)
  refine lv_aload_n hx hb dX4_cover_5 rfl (lv_at hl 0 rfl) ?_
  refine wt_callVi (As := []) (rest := []) hx hb hml hts hown hK hM wt_rc_X4 cw_X4_96 hd_X4_allShown rfl ⟨qz_b rfl, qz_b rfl⟩ ⟨rfl, rfl⟩ hl.1 rfl (qz_b rfl) dX4_cover_6 hf (fun _ _ h9 => c_X4_allShown h9) (fun r9 s10 H locs hf hM => ?_)
  refine lv_istore_n (lv' := [(1, .int r9), (0, .ref (B + 101))]) hx hb dX4_cover_9 rfl hl (by decide) rfl (fun ls hl => ?_)
  refine lv_iconst (v := 1) hx hb dX4_cover_10 (by decide) ?_
  refine lv_aload_n hx hb dX4_cover_11 rfl (lv_at hl 1 rfl) ?_
  refine gf_X4_panes  hx hb hts hown hK hM tw_711 dX4_cover_12 ?_
  refine lv_ishl hx hb dX4_cover_15 ?_
  refine lv_iconst (v := 1) hx hb dX4_cover_16 (by decide) ?_
  refine lv_isub hx hb dX4_cover_17 ?_
  refine wt_leti hf (fun z11 hf => ?_)
  refine lv_istore_n (lv' := [(2, .int z11), (1, .int r9), (0, .ref (B + 101))]) hx hb dX4_cover_18 rfl hl (by decide) rfl (fun ls hl => ?_)
  refine lv_iload_n hx hb dX4_cover_19 rfl (lv_at hl 0 rfl) ?_
  refine lv_istore_n (lv' := [(3, .int z11), (2, .int z11), (1, .int r9), (0, .ref (B + 101))]) hx hb dX4_cover_20 rfl hl (by decide) rfl (fun ls hl => ?_)
  exact w_X4_cover_21 C _ _ _ _ _ _ _ hf hM (lv_sub hl [3, 2, 1, 0] rfl)
end
set_option maxHeartbeats 4000000 in
set_option maxRecDepth 100000 in
theorem c_X4_cover {l : Launch} {D : va_G} {tI tII : ClassId} {B F : Nat} {σ σ' : Mem} {r : Int32} (hf : f_X4_cover F σ = some (r, σ')) : wt_Mi l yX4_cover cX4_cover 6 (some .int) rm_X4_cover [.ref (B + 101)] D tI tII B σ r σ' := by
  refine Met.ofW (cc := cX4_cover) (maxL := 6) (ret := (some .int)) (by decide) rfl ?_
  intro p e s m args below meth c s₁ B9 hml hv
  obtain ⟨rfl, hP, hK⟩ := hv
  have hl := lv_entry ([.ref (B + 101)]) (n := 6) (qz_b rfl)
  rw [lg_entry_eq]
  generalize (lg_sl ([.ref (B + 101)]) ++ List.replicate (6 - (lg_sl ([.ref (B + 101)])).length) Slot.unset).toArray = ls at hl ⊢
  exact w_X4_cover_0 (wt_C_of B9 hml hK) hf ⟨hP, va_S.rf⟩ hl
section
variable {p : Program} {l : Launch} {e : Env} {s : State} {m : MethodId} {args : Array Value} {below : List Frame} {meth : Method} {c : Code} {D : va_G} {tI tII : ClassId} {B : Nat}
set_option maxHeartbeats 4000000 in
set_option maxRecDepth 100000 in
theorem w_X4_shown_49 (C : wt_C p s m args meth c RX4 cX4_shown 4 (some .int) D tI tII) {F : Nat} {k22 : Int32 → Int32 → Mem → Option (Int32 × Mem)} {x1 : Int32} {x3 : Int32} {t0 : Int32} {t1 : Int32} {σ : Mem} {r : Int32} {σ' : Mem} {H : Heap} {locs : List Loc} {ls : Array Slot} (hk22 : ∀ (x2 : Int32) (x3 : Int32) (σ : Mem) (H : Heap) (locs : List Loc) (ls : Array Slot), k22 x2 x3 σ = some (r, σ') → wt_St D tI tII B σ s H locs → lv_has ls 4 [(0, .ref (B + 101)), (1, .int x1), (2, .int x2), (3, .int x3)] → W p l e rm_X4_shown s m args below meth c H locs 0 0 (MQ below (wt_Qi D tI tII B r σ') args s 0 0 (fun q => B ≤ q)) (F0 m 22 ls [])) (hf : j_X4_shown_49 F k22 x1 x3 t0 t1 σ = some (r, σ')) (hM : wt_St D tI tII B σ s H locs) (hl : lv_has ls 4 [(0, .ref (B + 101)), (1, .int x1), (3, .int x3)]) : W p l e rm_X4_shown s m args below meth c H locs 0 0 (MQ below (wt_Qi D tI tII B r σ') args s 0 0 (fun q => B ≤ q)) (F0 m 49 ls [.int t1, .int t0]) := by
  obtain ⟨hx, hb, hts, hown, hml, hr, hlk, hK⟩ := id C
  replace hf := Eq.trans j_X4_shown_49_e.symm hf
  refine lv_iadd hx hb dX4_shown_49 ?_
  refine lv_istore_n (lv' := [(2, .int (t0 + t1)), (0, .ref (B + 101)), (1, .int x1), (3, .int x3)]) hx hb dX4_shown_50 rfl hl (by decide) rfl (fun ls hl => ?_)
  refine lv_iinc (v := (x3 + (1 : Int32))) (lv' := [(3, .int (x3 + (1 : Int32))), (2, .int (t0 + t1)), (0, .ref (B + 101)), (1, .int x1)]) hx hb dX4_shown_51 hl (k := 3) rfl rfl (by decide) rfl (fun ls hl => ?_)
  refine lv_goto (tgt := 22) hx hb dX4_shown_54 (by decide) ?_
  exact hk22 _ _ _ _ _ _ hf hM (lv_sub hl [2, 3, 1, 0] rfl)
set_option maxHeartbeats 4000000 in
set_option maxRecDepth 100000 in
theorem w_X4_shown_22 (C : wt_C p s m args meth c RX4 cX4_shown 4 (some .int) D tI tII) {F : Nat} {x1 : Int32} {r : Int32} {σ' : Mem} : ∀ (N : Nat) (x2 : Int32) (x3 : Int32) (σ : Mem) (H : Heap) (locs : List Loc) (ls : Array Slot), lp_X4_shown_22 F x1 N x2 x3 σ = some (r, σ') → wt_St D tI tII B σ s H locs → lv_has ls 4 [(0, .ref (B + 101)), (1, .int x1), (2, .int x2), (3, .int x3)] → W p l e rm_X4_shown s m args below meth c H locs 0 0 (MQ below (wt_Qi D tI tII B r σ') args s 0 0 (fun q => B ≤ q)) (F0 m 22 ls []) := by
  obtain ⟨hx, hb, hts, hown, hml, hr, hlk, hK⟩ := id C
  intro N
  induction N with
  | zero => intro x2 x3 σ H locs ls hf; exact wt_none (show (none : Option (Int32 × Mem)) = some (r, σ') from hf)
  | succ N ih =>
    intro x2 x3 σ H locs ls hf hM hl
    replace hf := Eq.trans lp_X4_shown_22_s.symm hf
    refine lv_iload_n hx hb dX4_shown_22 rfl (lv_at hl 3 rfl) ?_
    refine lv_aload_n hx hb dX4_shown_23 rfl (lv_at hl 0 rfl) ?_
    refine gf_X4_panes  hx hb hts hown hK hM tw_711 dX4_shown_24 ?_
    refine wq_icmp_ge (tgt := 57) hx hb dX4_shown_27 (by decide) hf (fun hf => ?_) (fun hf => ?_)
    · refine lv_iload_n hx hb dX4_shown_57 rfl (lv_at hl 2 rfl) ?_
      exact wt_iret hx hb hr hlk hK hM hf dX4_shown_58
    refine lv_iload_n hx hb dX4_shown_30 rfl (lv_at hl 2 rfl) ?_
    refine lv_aload_n hx hb dX4_shown_31 rfl (lv_at hl 0 rfl) ?_
    refine gf_X4_shows  hx hb hts hown hK hM tw_712 dX4_shown_32 ?_
    refine lv_iload_n hx hb dX4_shown_35 rfl (lv_at hl 3 rfl) ?_
    obtain ⟨i1, hf⟩ := wt_chk_of hf
    refine wt_ild hx hb hK hM wt_a103 i1 dX4_shown_36 ?_
    refine lv_iload_n hx hb dX4_shown_37 rfl (lv_at hl 1 rfl) ?_
    refine wt_callSi (As := [.int (σ 103 (Int32.toNatClampNeg x3)), .int x1]) (rest := [.int x2]) hx hb hml hts hown hK hM cw_X4_104 hd_X4_hasBit rfl ⟨qz_b rfl, qz_b rfl⟩ ⟨rfl, rfl⟩ hl.1 rfl (qz_b rfl) dX4_shown_38 hf (fun _ _ h9 => c_X4_hasBit h9) (fun r2 s3 H locs hf hM => ?_)
    refine wq_if_eq (tgt := 48) hx hb dX4_shown_41 (by decide) hf (fun hf => ?_) (fun hf => ?_)
    · refine lv_iconst (v := 0) hx hb dX4_shown_48 (by decide) ?_
      exact w_X4_shown_49 C ih hf hM (lv_sub hl [0, 1, 3] rfl)
    refine lv_iconst (v := 1) hx hb dX4_shown_44 (by decide) ?_
    refine lv_goto (tgt := 49) hx hb dX4_shown_45 (by decide) ?_
    exact w_X4_shown_49 C ih hf hM (lv_sub hl [0, 1, 3] rfl)
set_option maxHeartbeats 4000000 in
set_option maxRecDepth 100000 in
theorem w_X4_shown_0 (C : wt_C p s m args meth c RX4 cX4_shown 4 (some .int) D tI tII) {F : Nat} {x1 : Int32} {σ : Mem} {r : Int32} {σ' : Mem} {H : Heap} {locs : List Loc} {ls : Array Slot} (hf : f_X4_shown F x1 σ = some (r, σ')) (hM : wt_St D tI tII B σ s H locs) (hl : lv_has ls 4 [(0, .ref (B + 101)), (1, .int x1)]) : W p l e rm_X4_shown s m args below meth c H locs 0 0 (MQ below (wt_Qi D tI tII B r σ') args s 0 0 (fun q => B ≤ q)) (F0 m 0 ls []) := by
  obtain ⟨hx, hb, hts, hown, hml, hr, hlk, hK⟩ := id C
  replace hf := Eq.trans f_X4_shown_e.symm hf
  refine lv_aload_n hx hb dX4_shown_0 rfl (lv_at hl 0 rfl) ?_
  refine lv_iconst (v := 0) hx hb dX4_shown_1 (by decide) ?_
  refine pf_X4_thrown  hx hb hts hown hK hM tw_720 dX4_shown_2 hf (fun s4 H locs hf hM => ?_)
  refine lv_iload_n hx hb dX4_shown_5 rfl (lv_at hl 1 rfl) ?_
  refine wt_callSi (As := [.int x1]) (rest := []) hx hb hml hts hown hK hM cw_X4_243 hd_X4_isView rfl ⟨qz_b rfl, qz_b rfl⟩ ⟨rfl, rfl⟩ hl.1 rfl (qz_b rfl) dX4_shown_6 hf (fun _ _ h9 => c_X4_isView h9) (fun r5 s6 H locs hf hM => ?_)
  refine wq_if_ne (tgt := 18) hx hb dX4_shown_9 (by decide) hf (fun hf => ?_) (fun hf => ?_)
  · refine lv_iconst (v := 0) hx hb dX4_shown_18 (by decide) ?_
    refine lv_istore_n (lv' := [(2, .int (0 : Int32)), (0, .ref (B + 101)), (1, .int x1)]) hx hb dX4_shown_19 rfl hl (by decide) rfl (fun ls hl => ?_)
    refine lv_iconst (v := 0) hx hb dX4_shown_20 (by decide) ?_
    refine lv_istore_n (lv' := [(3, .int (0 : Int32)), (2, .int (0 : Int32)), (0, .ref (B + 101)), (1, .int x1)]) hx hb dX4_shown_21 rfl hl (by decide) rfl (fun ls hl => ?_)
    exact w_X4_shown_22 C _ _ _ _ _ _ _ hf hM (lv_sub hl [2, 3, 1, 0] rfl)
  refine lv_aload_n hx hb dX4_shown_12 rfl (lv_at hl 0 rfl) ?_
  refine lv_iconst (v := -1) hx hb dX4_shown_13 (by decide) ?_
  refine wt_callVi (As := [.int (-1 : Int32)]) (rest := []) hx hb hml hts hown hK hM wt_rc_X4 cw_X4_143 hd_X4_refuse rfl ⟨qz_b rfl, qz_b rfl⟩ ⟨rfl, rfl⟩ hl.1 rfl (qz_b rfl) dX4_shown_14 hf (fun _ _ h9 => c_X4_refuse h9) (fun r7 s8 H locs hf hM => ?_)
  exact wt_iret hx hb hr hlk hK hM hf dX4_shown_17
end
set_option maxHeartbeats 4000000 in
set_option maxRecDepth 100000 in
theorem c_X4_shown {l : Launch} {D : va_G} {tI tII : ClassId} {B F : Nat} {x1 : Int32} {σ σ' : Mem} {r : Int32} (hf : f_X4_shown F x1 σ = some (r, σ')) : wt_Mi l yX4_shown cX4_shown 4 (some .int) rm_X4_shown [.ref (B + 101), .int x1] D tI tII B σ r σ' := by
  refine Met.ofW (cc := cX4_shown) (maxL := 4) (ret := (some .int)) (by decide) rfl ?_
  intro p e s m args below meth c s₁ B9 hml hv
  obtain ⟨rfl, hP, hK⟩ := hv
  have hl := lv_entry ([.ref (B + 101), .int x1]) (n := 4) (qz_b rfl)
  rw [lg_entry_eq]
  generalize (lg_sl ([.ref (B + 101), .int x1]) ++ List.replicate (4 - (lg_sl ([.ref (B + 101), .int x1])).length) Slot.unset).toArray = ls at hl ⊢
  exact w_X4_shown_0 (wt_C_of B9 hml hK) hf ⟨hP, va_S.rf⟩ hl
section
variable {p : Program} {l : Launch} {e : Env} {s : State} {m : MethodId} {args : Array Value} {below : List Frame} {meth : Method} {c : Code} {D : va_G} {tI tII : ClassId} {B : Nat}
set_option maxHeartbeats 4000000 in
set_option maxRecDepth 100000 in
theorem w_X4_walls_173 (C : wt_C p s m args meth c RX4 cX4_walls 11 (some .int) D tI tII) {F : Nat} {k62 : Int32 → Int32 → Int32 → Mem → Option (Int32 × Mem)} {k74 : Int32 → Int32 → Int32 → Mem → Option (Int32 × Mem)} {x1 : Int32} {x2 : Int32} {x3 : Int32} {x5 : Int32} {x6 : Int32} {x7 : Int32} {x8 : Int32} {x9 : Int32} {σ : Mem} {r : Int32} {σ' : Mem} {H : Heap} {locs : List Loc} {ls : Array Slot} (hk62 : ∀ (x6 : Int32) (x7 : Int32) (x8 : Int32) (σ : Mem) (H : Heap) (locs : List Loc) (ls : Array Slot), k62 x6 x7 x8 σ = some (r, σ') → wt_St D tI tII B σ s H locs → lv_has ls 11 [(0, .ref (B + 101)), (1, .int x1), (2, .int x2), (3, .int x3), (5, .int x5), (6, .int x6), (7, .int x7), (8, .int x8)] → W p l e rm_X4_walls s m args below meth c H locs 0 0 (MQ below (wt_Qi D tI tII B r σ') args s 0 0 (fun q => B ≤ q)) (F0 m 62 ls [])) (hk74 : ∀ (x6 : Int32) (x7 : Int32) (x9 : Int32) (σ : Mem) (H : Heap) (locs : List Loc) (ls : Array Slot), k74 x6 x7 x9 σ = some (r, σ') → wt_St D tI tII B σ s H locs → lv_has ls 11 [(0, .ref (B + 101)), (1, .int x1), (2, .int x2), (3, .int x3), (5, .int x5), (6, .int x6), (7, .int x7), (8, .int x8), (9, .int x9)] → W p l e rm_X4_walls s m args below meth c H locs 0 0 (MQ below (wt_Qi D tI tII B r σ') args s 0 0 (fun q => B ≤ q)) (F0 m 74 ls [])) (hf : j_X4_walls_173 F k62 k74 x1 x2 x3 x5 x6 x7 x8 x9 σ = some (r, σ')) (hM : wt_St D tI tII B σ s H locs) (hl : lv_has ls 11 [(0, .ref (B + 101)), (1, .int x1), (2, .int x2), (3, .int x3), (5, .int x5), (6, .int x6), (7, .int x7), (8, .int x8), (9, .int x9)]) : W p l e rm_X4_walls s m args below meth c H locs 0 0 (MQ below (wt_Qi D tI tII B r σ') args s 0 0 (fun q => B ≤ q)) (F0 m 173 ls []) := by
  obtain ⟨hx, hb, hts, hown, hml, hr, hlk, hK⟩ := id C
  replace hf := Eq.trans j_X4_walls_173_e.symm hf
  refine lv_iinc (v := (x9 + (1 : Int32))) (lv' := [(9, .int (x9 + (1 : Int32))), (0, .ref (B + 101)), (1, .int x1), (2, .int x2), (3, .int x3), (5, .int x5), (6, .int x6), (7, .int x7), (8, .int x8)]) hx hb dX4_walls_173 hl (k := 8) rfl rfl (by decide) rfl (fun ls hl => ?_)
  refine lv_goto (tgt := 74) hx hb dX4_walls_176 (by decide) ?_
  exact hk74 _ _ _ _ _ _ _ hf hM (lv_sub hl [1, 2, 3, 4, 5, 6, 7, 8, 0] rfl)
set_option maxHeartbeats 4000000 in
set_option maxRecDepth 100000 in
theorem w_X4_walls_171 (C : wt_C p s m args meth c RX4 cX4_walls 11 (some .int) D tI tII) {F : Nat} {k62 : Int32 → Int32 → Int32 → Mem → Option (Int32 × Mem)} {k74 : Int32 → Int32 → Int32 → Mem → Option (Int32 × Mem)} {x1 : Int32} {x2 : Int32} {x3 : Int32} {x5 : Int32} {x6 : Int32} {x8 : Int32} {x9 : Int32} {t0 : Int32} {σ : Mem} {r : Int32} {σ' : Mem} {H : Heap} {locs : List Loc} {ls : Array Slot} (hk62 : ∀ (x6 : Int32) (x7 : Int32) (x8 : Int32) (σ : Mem) (H : Heap) (locs : List Loc) (ls : Array Slot), k62 x6 x7 x8 σ = some (r, σ') → wt_St D tI tII B σ s H locs → lv_has ls 11 [(0, .ref (B + 101)), (1, .int x1), (2, .int x2), (3, .int x3), (5, .int x5), (6, .int x6), (7, .int x7), (8, .int x8)] → W p l e rm_X4_walls s m args below meth c H locs 0 0 (MQ below (wt_Qi D tI tII B r σ') args s 0 0 (fun q => B ≤ q)) (F0 m 62 ls [])) (hk74 : ∀ (x6 : Int32) (x7 : Int32) (x9 : Int32) (σ : Mem) (H : Heap) (locs : List Loc) (ls : Array Slot), k74 x6 x7 x9 σ = some (r, σ') → wt_St D tI tII B σ s H locs → lv_has ls 11 [(0, .ref (B + 101)), (1, .int x1), (2, .int x2), (3, .int x3), (5, .int x5), (6, .int x6), (7, .int x7), (8, .int x8), (9, .int x9)] → W p l e rm_X4_walls s m args below meth c H locs 0 0 (MQ below (wt_Qi D tI tII B r σ') args s 0 0 (fun q => B ≤ q)) (F0 m 74 ls [])) (hf : j_X4_walls_171 F k62 k74 x1 x2 x3 x5 x6 x8 x9 t0 σ = some (r, σ')) (hM : wt_St D tI tII B σ s H locs) (hl : lv_has ls 11 [(0, .ref (B + 101)), (1, .int x1), (2, .int x2), (3, .int x3), (5, .int x5), (6, .int x6), (8, .int x8), (9, .int x9)]) : W p l e rm_X4_walls s m args below meth c H locs 0 0 (MQ below (wt_Qi D tI tII B r σ') args s 0 0 (fun q => B ≤ q)) (F0 m 171 ls [.int t0]) := by
  obtain ⟨hx, hb, hts, hown, hml, hr, hlk, hK⟩ := id C
  replace hf := Eq.trans j_X4_walls_171_e.symm hf
  refine lv_istore (lv' := [(7, .int t0), (0, .ref (B + 101)), (1, .int x1), (2, .int x2), (3, .int x3), (5, .int x5), (6, .int x6), (8, .int x8), (9, .int x9)]) hx hb dX4_walls_171 hl (by decide) rfl (fun ls hl => ?_)
  exact w_X4_walls_173 C hk62 hk74 hf hM (lv_sub hl [1, 2, 3, 4, 5, 6, 0, 7, 8] rfl)
set_option maxHeartbeats 4000000 in
set_option maxRecDepth 100000 in
theorem w_X4_walls_155 (C : wt_C p s m args meth c RX4 cX4_walls 11 (some .int) D tI tII) {F : Nat} {k62 : Int32 → Int32 → Int32 → Mem → Option (Int32 × Mem)} {k74 : Int32 → Int32 → Int32 → Mem → Option (Int32 × Mem)} {x1 : Int32} {x2 : Int32} {x3 : Int32} {x5 : Int32} {x7 : Int32} {x8 : Int32} {x9 : Int32} {x10 : Int32} {t0 : Int32} {σ : Mem} {r : Int32} {σ' : Mem} {H : Heap} {locs : List Loc} {ls : Array Slot} (hk62 : ∀ (x6 : Int32) (x7 : Int32) (x8 : Int32) (σ : Mem) (H : Heap) (locs : List Loc) (ls : Array Slot), k62 x6 x7 x8 σ = some (r, σ') → wt_St D tI tII B σ s H locs → lv_has ls 11 [(0, .ref (B + 101)), (1, .int x1), (2, .int x2), (3, .int x3), (5, .int x5), (6, .int x6), (7, .int x7), (8, .int x8)] → W p l e rm_X4_walls s m args below meth c H locs 0 0 (MQ below (wt_Qi D tI tII B r σ') args s 0 0 (fun q => B ≤ q)) (F0 m 62 ls [])) (hk74 : ∀ (x6 : Int32) (x7 : Int32) (x9 : Int32) (σ : Mem) (H : Heap) (locs : List Loc) (ls : Array Slot), k74 x6 x7 x9 σ = some (r, σ') → wt_St D tI tII B σ s H locs → lv_has ls 11 [(0, .ref (B + 101)), (1, .int x1), (2, .int x2), (3, .int x3), (5, .int x5), (6, .int x6), (7, .int x7), (8, .int x8), (9, .int x9)] → W p l e rm_X4_walls s m args below meth c H locs 0 0 (MQ below (wt_Qi D tI tII B r σ') args s 0 0 (fun q => B ≤ q)) (F0 m 74 ls [])) (hf : j_X4_walls_155 F k62 k74 x1 x2 x3 x5 x7 x8 x9 x10 t0 σ = some (r, σ')) (hM : wt_St D tI tII B σ s H locs) (hl : lv_has ls 11 [(0, .ref (B + 101)), (1, .int x1), (2, .int x2), (3, .int x3), (5, .int x5), (7, .int x7), (8, .int x8), (9, .int x9), (10, .int x10)]) : W p l e rm_X4_walls s m args below meth c H locs 0 0 (MQ below (wt_Qi D tI tII B r σ') args s 0 0 (fun q => B ≤ q)) (F0 m 155 ls [.int t0]) := by
  obtain ⟨hx, hb, hts, hown, hml, hr, hlk, hK⟩ := id C
  replace hf := Eq.trans j_X4_walls_155_e.symm hf
  refine lv_istore (lv' := [(6, .int t0), (0, .ref (B + 101)), (1, .int x1), (2, .int x2), (3, .int x3), (5, .int x5), (7, .int x7), (8, .int x8), (9, .int x9), (10, .int x10)]) hx hb dX4_walls_155 hl (by decide) rfl (fun ls hl => ?_)
  refine lv_iload hx hb dX4_walls_157 (lv_at hl 9 rfl) ?_
  refine lv_iload hx hb dX4_walls_159 (lv_at hl 6 rfl) ?_
  refine wq_icmp_le (tgt := 169) hx hb dX4_walls_161 (by decide) hf (fun hf => ?_) (fun hf => ?_)
  · refine lv_iload hx hb dX4_walls_169 (lv_at hl 6 rfl) ?_
    exact w_X4_walls_171 C hk62 hk74 hf hM (lv_sub hl [1, 2, 3, 4, 5, 0, 7, 8] rfl)
  refine lv_iload hx hb dX4_walls_164 (lv_at hl 9 rfl) ?_
  refine lv_goto (tgt := 171) hx hb dX4_walls_166 (by decide) ?_
  exact w_X4_walls_171 C hk62 hk74 hf hM (lv_sub hl [1, 2, 3, 4, 5, 0, 7, 8] rfl)
set_option maxHeartbeats 4000000 in
set_option maxRecDepth 100000 in
theorem w_X4_walls_74 (C : wt_C p s m args meth c RX4 cX4_walls 11 (some .int) D tI tII) {F : Nat} {k62 : Int32 → Int32 → Int32 → Mem → Option (Int32 × Mem)} {x1 : Int32} {x2 : Int32} {x3 : Int32} {x5 : Int32} {x8 : Int32} {r : Int32} {σ' : Mem} (hk62 : ∀ (x6 : Int32) (x7 : Int32) (x8 : Int32) (σ : Mem) (H : Heap) (locs : List Loc) (ls : Array Slot), k62 x6 x7 x8 σ = some (r, σ') → wt_St D tI tII B σ s H locs → lv_has ls 11 [(0, .ref (B + 101)), (1, .int x1), (2, .int x2), (3, .int x3), (5, .int x5), (6, .int x6), (7, .int x7), (8, .int x8)] → W p l e rm_X4_walls s m args below meth c H locs 0 0 (MQ below (wt_Qi D tI tII B r σ') args s 0 0 (fun q => B ≤ q)) (F0 m 62 ls [])) : ∀ (N : Nat) (x6 : Int32) (x7 : Int32) (x9 : Int32) (σ : Mem) (H : Heap) (locs : List Loc) (ls : Array Slot), lp_X4_walls_74 F k62 x1 x2 x3 x5 x8 N x6 x7 x9 σ = some (r, σ') → wt_St D tI tII B σ s H locs → lv_has ls 11 [(0, .ref (B + 101)), (1, .int x1), (2, .int x2), (3, .int x3), (5, .int x5), (6, .int x6), (7, .int x7), (8, .int x8), (9, .int x9)] → W p l e rm_X4_walls s m args below meth c H locs 0 0 (MQ below (wt_Qi D tI tII B r σ') args s 0 0 (fun q => B ≤ q)) (F0 m 74 ls []) := by
  obtain ⟨hx, hb, hts, hown, hml, hr, hlk, hK⟩ := id C
  intro N
  induction N with
  | zero => intro x6 x7 x9 σ H locs ls hf; exact wt_none (show (none : Option (Int32 × Mem)) = some (r, σ') from hf)
  | succ N ih =>
    intro x6 x7 x9 σ H locs ls hf hM hl
    replace hf := Eq.trans lp_X4_walls_74_s.symm hf
    refine lv_iload hx hb dX4_walls_74 (lv_at hl 8 rfl) ?_
    refine lv_bipush (v := 8) hx hb dX4_walls_76 (by decide) ?_
    refine wq_icmp_ge (tgt := 179) hx hb dX4_walls_78 (by decide) hf (fun hf => ?_) (fun hf => ?_)
    · refine lv_iinc (v := (x8 + (1 : Int32))) (lv' := [(8, .int (x8 + (1 : Int32))), (0, .ref (B + 101)), (1, .int x1), (2, .int x2), (3, .int x3), (5, .int x5), (6, .int x6), (7, .int x7), (9, .int x9)]) hx hb dX4_walls_179 hl (k := 7) rfl rfl (by decide) rfl (fun ls hl => ?_)
      refine lv_goto (tgt := 62) hx hb dX4_walls_182 (by decide) ?_
      exact hk62 _ _ _ _ _ _ _ hf hM (lv_sub hl [1, 2, 3, 4, 5, 6, 7, 0] rfl)
    refine lv_aload_n hx hb dX4_walls_81 rfl (lv_at hl 0 rfl) ?_
    refine gf_X4_shows  hx hb hts hown hK hM tw_712 dX4_walls_82 ?_
    refine lv_iload hx hb dX4_walls_85 (lv_at hl 7 rfl) ?_
    obtain ⟨i1, hf⟩ := wt_chk_of hf
    refine wt_ild hx hb hK hM wt_a103 i1 dX4_walls_87 ?_
    refine lv_iload hx hb dX4_walls_88 (lv_at hl 8 rfl) ?_
    refine wt_callSi (As := [.int (σ 103 (Int32.toNatClampNeg x8)), .int x9]) (rest := []) hx hb hml hts hown hK hM cw_X4_104 hd_X4_hasBit rfl ⟨qz_b rfl, qz_b rfl⟩ ⟨rfl, rfl⟩ hl.1 rfl (qz_b rfl) dX4_walls_90 hf (fun _ _ h9 => c_X4_hasBit h9) (fun r2 s3 H locs hf hM => ?_)
    refine wq_if_eq (tgt := 173) hx hb dX4_walls_93 (by decide) hf (fun hf => ?_) (fun hf => ?_)
    · exact w_X4_walls_173 C hk62 ih hf hM hl
    refine lv_aload_n hx hb dX4_walls_96 rfl (lv_at hl 0 rfl) ?_
    refine gf_X4_shows  hx hb hts hown hK hM tw_712 dX4_walls_97 ?_
    refine lv_iload hx hb dX4_walls_100 (lv_at hl 7 rfl) ?_
    refine lv_dup2_11 hx hb dX4_walls_102 rfl rfl ?_
    refine wt_ild hx hb hK hM wt_a103 i1 dX4_walls_103 ?_
    refine lv_iconst (v := 1) hx hb dX4_walls_104 (by decide) ?_
    refine lv_iload hx hb dX4_walls_105 (lv_at hl 8 rfl) ?_
    refine lv_ishl hx hb dX4_walls_107 ?_
    refine lv_ixor hx hb dX4_walls_108 ?_
    refine wt_ist hx hb hK hM wt_a103 i1 dX4_walls_109 hf (fun s4 H locs hf hM => ?_)
    refine lv_iload hx hb dX4_walls_110 (lv_at hl 4 rfl) ?_
    refine lv_aload_n hx hb dX4_walls_112 rfl (lv_at hl 0 rfl) ?_
    refine lv_iload_n hx hb dX4_walls_113 rfl (lv_at hl 1 rfl) ?_
    refine lv_iload_n hx hb dX4_walls_114 rfl (lv_at hl 2 rfl) ?_
    refine wt_callVi (As := [.int x1, .int x2]) (rest := [.int x5]) hx hb hml hts hown hK hM wt_rc_X4 cw_X4_260 hd_X4_worthAnew rfl ⟨qz_b rfl, qz_b rfl⟩ ⟨rfl, rfl⟩ hl.1 rfl (qz_b rfl) dX4_walls_115 hf (fun _ _ h9 => c_X4_worthAnew h9) (fun r5 s6 H locs hf hM => ?_)
    refine lv_isub hx hb dX4_walls_118 ?_
    refine lv_istore (lv' := [(10, .int (x5 - r5)), (0, .ref (B + 101)), (1, .int x1), (2, .int x2), (3, .int x3), (5, .int x5), (6, .int x6), (7, .int x7), (8, .int x8), (9, .int x9)]) hx hb dX4_walls_119 hl (by decide) rfl (fun ls hl => ?_)
    refine lv_aload_n hx hb dX4_walls_121 rfl (lv_at hl 1 rfl) ?_
    refine gf_X4_shows  hx hb hts hown hK hM tw_712 dX4_walls_122 ?_
    refine lv_iload hx hb dX4_walls_125 (lv_at hl 8 rfl) ?_
    refine lv_dup2_11 hx hb dX4_walls_127 rfl rfl ?_
    refine wt_ild hx hb hK hM wt_a103 i1 dX4_walls_128 ?_
    refine lv_iconst (v := 1) hx hb dX4_walls_129 (by decide) ?_
    refine lv_iload hx hb dX4_walls_130 (lv_at hl 9 rfl) ?_
    refine lv_ishl hx hb dX4_walls_132 ?_
    refine lv_ixor hx hb dX4_walls_133 ?_
    refine wt_ist hx hb hK hM wt_a103 i1 dX4_walls_134 hf (fun s7 H locs hf hM => ?_)
    refine lv_iload hx hb dX4_walls_135 (lv_at hl 0 rfl) ?_
    refine lv_iload hx hb dX4_walls_137 (lv_at hl 7 rfl) ?_
    refine wq_icmp_le (tgt := 153) hx hb dX4_walls_139 (by decide) hf (fun hf => ?_) (fun hf => ?_)
    · refine lv_iload hx hb dX4_walls_153 (lv_at hl 6 rfl) ?_
      exact w_X4_walls_155 C hk62 ih hf hM (lv_sub hl [1, 2, 3, 4, 5, 7, 8, 9, 0] rfl)
    refine lv_bipush (v := 10) hx hb dX4_walls_142 (by decide) ?_
    refine lv_iload hx hb dX4_walls_144 (lv_at hl 8 rfl) ?_
    refine lv_imul hx hb dX4_walls_146 ?_
    refine lv_iload hx hb dX4_walls_147 (lv_at hl 9 rfl) ?_
    refine lv_iadd hx hb dX4_walls_149 ?_
    refine lv_goto (tgt := 155) hx hb dX4_walls_150 (by decide) ?_
    exact w_X4_walls_155 C hk62 ih hf hM (lv_sub hl [1, 2, 3, 4, 5, 7, 8, 9, 0] rfl)
set_option maxHeartbeats 4000000 in
set_option maxRecDepth 100000 in
theorem w_X4_walls_194 (C : wt_C p s m args meth c RX4 cX4_walls 11 (some .int) D tI tII) {F : Nat} {x6 : Int32} {σ : Mem} {r : Int32} {σ' : Mem} {H : Heap} {locs : List Loc} {ls : Array Slot} (hf : j_X4_walls_194 F x6 σ = some (r, σ')) (hM : wt_St D tI tII B σ s H locs) (hl : lv_has ls 11 [(6, .int x6)]) : W p l e rm_X4_walls s m args below meth c H locs 0 0 (MQ below (wt_Qi D tI tII B r σ') args s 0 0 (fun q => B ≤ q)) (F0 m 194 ls []) := by
  obtain ⟨hx, hb, hts, hown, hml, hr, hlk, hK⟩ := id C
  replace hf := Eq.trans j_X4_walls_194_e.symm hf
  refine lv_iload hx hb dX4_walls_194 (lv_at hl 0 rfl) ?_
  refine lv_goto (tgt := 201) hx hb dX4_walls_196 (by decide) ?_
  exact wt_iret hx hb hr hlk hK hM hf dX4_walls_201
set_option maxHeartbeats 4000000 in
set_option maxRecDepth 100000 in
theorem w_X4_walls_62 (C : wt_C p s m args meth c RX4 cX4_walls 11 (some .int) D tI tII) {F : Nat} {x1 : Int32} {x2 : Int32} {x3 : Int32} {x5 : Int32} {r : Int32} {σ' : Mem} : ∀ (N : Nat) (x6 : Int32) (x7 : Int32) (x8 : Int32) (σ : Mem) (H : Heap) (locs : List Loc) (ls : Array Slot), lp_X4_walls_62 F x1 x2 x3 x5 N x6 x7 x8 σ = some (r, σ') → wt_St D tI tII B σ s H locs → lv_has ls 11 [(0, .ref (B + 101)), (1, .int x1), (2, .int x2), (3, .int x3), (5, .int x5), (6, .int x6), (7, .int x7), (8, .int x8)] → W p l e rm_X4_walls s m args below meth c H locs 0 0 (MQ below (wt_Qi D tI tII B r σ') args s 0 0 (fun q => B ≤ q)) (F0 m 62 ls []) := by
  obtain ⟨hx, hb, hts, hown, hml, hr, hlk, hK⟩ := id C
  intro N
  induction N with
  | zero => intro x6 x7 x8 σ H locs ls hf; exact wt_none (show (none : Option (Int32 × Mem)) = some (r, σ') from hf)
  | succ N ih =>
    intro x6 x7 x8 σ H locs ls hf hM hl
    replace hf := Eq.trans lp_X4_walls_62_s.symm hf
    refine lv_iload hx hb dX4_walls_62 (lv_at hl 7 rfl) ?_
    refine lv_aload_n hx hb dX4_walls_64 rfl (lv_at hl 0 rfl) ?_
    refine gf_X4_panes  hx hb hts hown hK hM tw_711 dX4_walls_65 ?_
    refine wq_icmp_ge (tgt := 185) hx hb dX4_walls_68 (by decide) hf (fun hf => ?_) (fun hf => ?_)
    · refine lv_iload_n hx hb dX4_walls_185 rfl (lv_at hl 3 rfl) ?_
      refine wq_if_eq (tgt := 194) hx hb dX4_walls_186 (by decide) hf (fun hf => ?_) (fun hf => ?_)
      · exact w_X4_walls_194 C hf hM (lv_sub hl [5] rfl)
      refine lv_iload hx hb dX4_walls_189 (lv_at hl 5 rfl) ?_
      refine wq_if_ge (tgt := 199) hx hb dX4_walls_191 (by decide) hf (fun hf => ?_) (fun hf => ?_)
      · refine lv_iload hx hb dX4_walls_199 (lv_at hl 6 rfl) ?_
        exact wt_iret hx hb hr hlk hK hM hf dX4_walls_201
      exact w_X4_walls_194 C hf hM (lv_sub hl [5] rfl)
    refine lv_iconst (v := 0) hx hb dX4_walls_71 (by decide) ?_
    refine lv_istore (lv' := [(9, .int (0 : Int32)), (0, .ref (B + 101)), (1, .int x1), (2, .int x2), (3, .int x3), (5, .int x5), (6, .int x6), (7, .int x7), (8, .int x8)]) hx hb dX4_walls_72 hl (by decide) rfl (fun ls hl => ?_)
    exact w_X4_walls_74 C ih _ _ _ _ _ _ _ _ hf hM (lv_sub hl [1, 2, 3, 4, 5, 6, 7, 8, 0] rfl)
set_option maxHeartbeats 4000000 in
set_option maxRecDepth 100000 in
theorem w_X4_walls_25 (C : wt_C p s m args meth c RX4 cX4_walls 11 (some .int) D tI tII) {F : Nat} {x1 : Int32} {x2 : Int32} {x3 : Int32} {t0 : Int32} {σ : Mem} {r : Int32} {σ' : Mem} {H : Heap} {locs : List Loc} {ls : Array Slot} (hf : j_X4_walls_25 F x1 x2 x3 t0 σ = some (r, σ')) (hM : wt_St D tI tII B σ s H locs) (hl : lv_has ls 11 [(0, .ref (B + 101)), (1, .int x1), (2, .int x2), (3, .int x3)]) : W p l e rm_X4_walls s m args below meth c H locs 0 0 (MQ below (wt_Qi D tI tII B r σ') args s 0 0 (fun q => B ≤ q)) (F0 m 25 ls [.int t0]) := by
  obtain ⟨hx, hb, hts, hown, hml, hr, hlk, hK⟩ := id C
  replace hf := Eq.trans j_X4_walls_25_e.symm hf
  refine lv_iload_n hx hb dX4_walls_25 rfl (lv_at hl 3 rfl) ?_
  refine lv_iconst (v := 1) hx hb dX4_walls_26 (by decide) ?_
  refine wt_callSi (As := [.int t0, .int x3, .int (1 : Int32)]) (rest := []) hx hb hml hts hown hK hM cw_X4_251 hd_X4_wrongBit rfl ⟨qz_b rfl, qz_b rfl⟩ ⟨rfl, rfl⟩ hl.1 rfl (qz_b rfl) dX4_walls_27 hf (fun _ _ h9 => c_X4_wrongBit h9) (fun r8 s9 H locs hf hM => ?_)
  refine lv_istore (lv' := [(4, .int r8), (0, .ref (B + 101)), (1, .int x1), (2, .int x2), (3, .int x3)]) hx hb dX4_walls_30 hl (by decide) rfl (fun ls hl => ?_)
  refine lv_iload hx hb dX4_walls_32 (lv_at hl 0 rfl) ?_
  refine wq_if_ge (tgt := 44) hx hb dX4_walls_34 (by decide) hf (fun hf => ?_) (fun hf => ?_)
  · refine lv_aload_n hx hb dX4_walls_44 rfl (lv_at hl 1 rfl) ?_
    refine lv_iload_n hx hb dX4_walls_45 rfl (lv_at hl 2 rfl) ?_
    refine lv_iload_n hx hb dX4_walls_46 rfl (lv_at hl 3 rfl) ?_
    refine wt_callVi (As := [.int x1, .int x2]) (rest := []) hx hb hml hts hown hK hM wt_rc_X4 cw_X4_260 hd_X4_worthAnew rfl ⟨qz_b rfl, qz_b rfl⟩ ⟨rfl, rfl⟩ hl.1 rfl (qz_b rfl) dX4_walls_47 hf (fun _ _ h9 => c_X4_worthAnew h9) (fun r10 s11 H locs hf hM => ?_)
    refine lv_istore (lv' := [(5, .int r10), (4, .int r8), (0, .ref (B + 101)), (1, .int x1), (2, .int x2), (3, .int x3)]) hx hb dX4_walls_50 hl (by decide) rfl (fun ls hl => ?_)
    refine lv_bipush (v := -9) hx hb dX4_walls_52 (by decide) ?_
    refine lv_istore (lv' := [(6, .int (-9 : Int32)), (5, .int r10), (4, .int r8), (0, .ref (B + 101)), (1, .int x1), (2, .int x2), (3, .int x3)]) hx hb dX4_walls_54 hl (by decide) rfl (fun ls hl => ?_)
    refine lv_iconst (v := 0) hx hb dX4_walls_56 (by decide) ?_
    refine lv_istore (lv' := [(7, .int (0 : Int32)), (6, .int (-9 : Int32)), (5, .int r10), (4, .int r8), (0, .ref (B + 101)), (1, .int x1), (2, .int x2), (3, .int x3)]) hx hb dX4_walls_57 hl (by decide) rfl (fun ls hl => ?_)
    refine lv_iconst (v := 0) hx hb dX4_walls_59 (by decide) ?_
    refine lv_istore (lv' := [(8, .int (0 : Int32)), (7, .int (0 : Int32)), (6, .int (-9 : Int32)), (5, .int r10), (4, .int r8), (0, .ref (B + 101)), (1, .int x1), (2, .int x2), (3, .int x3)]) hx hb dX4_walls_60 hl (by decide) rfl (fun ls hl => ?_)
    exact w_X4_walls_62 C _ _ _ _ _ _ _ _ hf hM (lv_sub hl [5, 6, 7, 8, 3, 2, 1, 0] rfl)
  refine lv_aload_n hx hb dX4_walls_37 rfl (lv_at hl 1 rfl) ?_
  refine lv_iload hx hb dX4_walls_38 (lv_at hl 0 rfl) ?_
  refine wt_callVi (As := [.int r8]) (rest := []) hx hb hml hts hown hK hM wt_rc_X4 cw_X4_143 hd_X4_refuse rfl ⟨qz_b rfl, qz_b rfl⟩ ⟨rfl, rfl⟩ hl.1 rfl (qz_b rfl) dX4_walls_40 hf (fun _ _ h9 => c_X4_refuse h9) (fun r12 s13 H locs hf hM => ?_)
  exact wt_iret hx hb hr hlk hK hM hf dX4_walls_43
set_option maxHeartbeats 4000000 in
set_option maxRecDepth 100000 in
theorem w_X4_walls_0 (C : wt_C p s m args meth c RX4 cX4_walls 11 (some .int) D tI tII) {F : Nat} {x1 : Int32} {x2 : Int32} {x3 : Int32} {σ : Mem} {r : Int32} {σ' : Mem} {H : Heap} {locs : List Loc} {ls : Array Slot} (hf : f_X4_walls F x1 x2 x3 σ = some (r, σ')) (hM : wt_St D tI tII B σ s H locs) (hl : lv_has ls 11 [(0, .ref (B + 101)), (1, .int x1), (2, .int x2), (3, .int x3)]) : W p l e rm_X4_walls s m args below meth c H locs 0 0 (MQ below (wt_Qi D tI tII B r σ') args s 0 0 (fun q => B ≤ q)) (F0 m 0 ls []) := by
  obtain ⟨hx, hb, hts, hown, hml, hr, hlk, hK⟩ := id C
  replace hf := Eq.trans f_X4_walls_e.symm hf
  refine lv_aload_n hx hb dX4_walls_0 rfl (lv_at hl 0 rfl) ?_
  refine lv_iconst (v := 0) hx hb dX4_walls_1 (by decide) ?_
  refine pf_X4_thrown  hx hb hts hown hK hM tw_720 dX4_walls_2 hf (fun s14 H locs hf hM => ?_)
  refine lv_aload_n hx hb dX4_walls_5 rfl (lv_at hl 0 rfl) ?_
  refine lv_iload_n hx hb dX4_walls_6 rfl (lv_at hl 1 rfl) ?_
  refine wt_callVi (As := [.int x1]) (rest := []) hx hb hml hts hown hK hM wt_rc_X4 cw_X4_88 hd_X4_isLooker rfl ⟨qz_b rfl, qz_b rfl⟩ ⟨rfl, rfl⟩ hl.1 rfl (qz_b rfl) dX4_walls_7 hf (fun _ _ h9 => c_X4_isLooker h9) (fun r15 s16 H locs hf hM => ?_)
  refine wq_if_eq (tgt := 24) hx hb dX4_walls_10 (by decide) hf (fun hf => ?_) (fun hf => ?_)
  · refine lv_iconst (v := -1) hx hb dX4_walls_24 (by decide) ?_
    exact w_X4_walls_25 C hf hM hl
  refine lv_iload_n hx hb dX4_walls_13 rfl (lv_at hl 2 rfl) ?_
  refine lv_iconst (v := 0) hx hb dX4_walls_14 (by decide) ?_
  refine lv_sipush (v := 999) hx hb dX4_walls_15 (by decide) ?_
  refine wt_callSi (As := [.int x2, .int (0 : Int32), .int (999 : Int32)]) (rest := []) hx hb hml hts hown hK hM cw_X4_231 hd_X4_wrongNumber rfl ⟨qz_b rfl, qz_b rfl⟩ ⟨rfl, rfl⟩ hl.1 rfl (qz_b rfl) dX4_walls_18 hf (fun _ _ h9 => c_X4_wrongNumber h9) (fun r17 s18 H locs hf hM => ?_)
  refine lv_goto (tgt := 25) hx hb dX4_walls_21 (by decide) ?_
  exact w_X4_walls_25 C hf hM hl
end
set_option maxHeartbeats 4000000 in
set_option maxRecDepth 100000 in
theorem c_X4_walls {l : Launch} {D : va_G} {tI tII : ClassId} {B F : Nat} {x1 : Int32} {x2 : Int32} {x3 : Int32} {σ σ' : Mem} {r : Int32} (hf : f_X4_walls F x1 x2 x3 σ = some (r, σ')) : wt_Mi l yX4_walls cX4_walls 11 (some .int) rm_X4_walls [.ref (B + 101), .int x1, .int x2, .int x3] D tI tII B σ r σ' := by
  refine Met.ofW (cc := cX4_walls) (maxL := 11) (ret := (some .int)) (by decide) rfl ?_
  intro p e s m args below meth c s₁ B9 hml hv
  obtain ⟨rfl, hP, hK⟩ := hv
  have hl := lv_entry ([.ref (B + 101), .int x1, .int x2, .int x3]) (n := 11) (qz_b rfl)
  rw [lg_entry_eq]
  generalize (lg_sl ([.ref (B + 101), .int x1, .int x2, .int x3]) ++ List.replicate (11 - (lg_sl ([.ref (B + 101), .int x1, .int x2, .int x3])).length) Slot.unset).toArray = ls at hl ⊢
  exact w_X4_walls_0 (wt_C_of B9 hml hK) hf ⟨hP, va_S.rf⟩ hl
section
variable {p : Program} {l : Launch} {e : Env} {s : State} {m : MethodId} {args : Array Value} {below : List Frame} {meth : Method} {c : Code} {D : va_G} {tI tII : ClassId} {B : Nat}
set_option maxHeartbeats 4000000 in
set_option maxRecDepth 100000 in
theorem w_X4_divisor_6 (C : wt_C p s m args meth c RX4 cX4_divisor 10 (some .long) D tI tII) {F : Nat} {r : Int64} {σ' : Mem} : ∀ (N : Nat) (y4 : Int64) (y6 : Int64) (σ : Mem) (H : Heap) (locs : List Loc) (ls : Array Slot), lp_X4_divisor_6 F N y4 y6 σ = some (r, σ') → wt_St D tI tII B σ s H locs → lv_has ls 10 [(4, .long y4), (6, .long y6)] → W p l e rm_X4_divisor s m args below meth c H locs 0 0 (MQ below (wt_Ql D tI tII B r σ') args s 0 0 (fun q => B ≤ q)) (F0 m 6 ls []) := by
  obtain ⟨hx, hb, hts, hown, hml, hr, hlk, hK⟩ := id C
  intro N
  induction N with
  | zero => intro y4 y6 σ H locs ls hf; exact wt_none (show (none : Option (Int64 × Mem)) = some (r, σ') from hf)
  | succ N ih =>
    intro y4 y6 σ H locs ls hf hM hl
    replace hf := Eq.trans lp_X4_divisor_6_s.symm hf
    refine lv_lload hx hb dX4_divisor_6 (lv_at hl 1 rfl) ?_
    refine lv_lconst (v := 0) hx hb dX4_divisor_8 (by decide) ?_
    refine W.lcmp hx hb dX4_divisor_9 ?_
    refine wq_if_eq (tgt := 31) hx hb dX4_divisor_10 (by decide) hf (fun hf => ?_) (fun hf => ?_)
    · refine lv_lload hx hb dX4_divisor_31 (lv_at hl 0 rfl) ?_
      exact wt_lret hx hb hr hlk hK hM hf dX4_divisor_33
    refine lv_lload hx hb dX4_divisor_13 (lv_at hl 0 rfl) ?_
    refine lv_lload hx hb dX4_divisor_15 (lv_at hl 1 rfl) ?_
    obtain ⟨nz17, hf⟩ := wt_nzl_of hf
    refine lv_lrem hx hb dX4_divisor_17 nz17 ?_
    refine lv_lstore (lv' := [(8, .long (y4 - y4 / y6 * y6)), (4, .long y4), (6, .long y6)]) hx hb dX4_divisor_18 hl (by decide) rfl (fun ls hl => ?_)
    refine lv_lload hx hb dX4_divisor_20 (lv_at hl 2 rfl) ?_
    refine lv_lstore (lv' := [(4, .long y6), (8, .long (y4 - y4 / y6 * y6)), (6, .long y6)]) hx hb dX4_divisor_22 hl (by decide) rfl (fun ls hl => ?_)
    refine lv_lload hx hb dX4_divisor_24 (lv_at hl 1 rfl) ?_
    refine lv_lstore (lv' := [(6, .long (y4 - y4 / y6 * y6)), (4, .long y6), (8, .long (y4 - y4 / y6 * y6))]) hx hb dX4_divisor_26 hl (by decide) rfl (fun ls hl => ?_)
    refine lv_goto (tgt := 6) hx hb dX4_divisor_28 (by decide) ?_
    exact ih _ _ _ _ _ _ hf hM (lv_sub hl [1, 0] rfl)
set_option maxHeartbeats 4000000 in
set_option maxRecDepth 100000 in
theorem w_X4_divisor_0 (C : wt_C p s m args meth c RX4 cX4_divisor 10 (some .long) D tI tII) {F : Nat} {y0 : Int64} {y2 : Int64} {σ : Mem} {r : Int64} {σ' : Mem} {H : Heap} {locs : List Loc} {ls : Array Slot} (hf : f_X4_divisor F y0 y2 σ = some (r, σ')) (hM : wt_St D tI tII B σ s H locs) (hl : lv_has ls 10 [(0, .long y0), (2, .long y2)]) : W p l e rm_X4_divisor s m args below meth c H locs 0 0 (MQ below (wt_Ql D tI tII B r σ') args s 0 0 (fun q => B ≤ q)) (F0 m 0 ls []) := by
  obtain ⟨hx, hb, hts, hown, hml, hr, hlk, hK⟩ := id C
  replace hf := Eq.trans f_X4_divisor_e.symm hf
  refine lv_lload_n hx hb dX4_divisor_0 rfl (lv_at hl 0 rfl) ?_
  refine lv_lstore (lv' := [(4, .long y0), (0, .long y0), (2, .long y2)]) hx hb dX4_divisor_1 hl (by decide) rfl (fun ls hl => ?_)
  refine lv_lload_n hx hb dX4_divisor_3 rfl (lv_at hl 2 rfl) ?_
  refine lv_lstore (lv' := [(6, .long y2), (4, .long y0), (0, .long y0), (2, .long y2)]) hx hb dX4_divisor_4 hl (by decide) rfl (fun ls hl => ?_)
  exact w_X4_divisor_6 C _ _ _ _ _ _ _ hf hM (lv_sub hl [1, 0] rfl)
end
set_option maxHeartbeats 4000000 in
set_option maxRecDepth 100000 in
theorem c_X4_divisor {l : Launch} {D : va_G} {tI tII : ClassId} {B F : Nat} {y0 : Int64} {y2 : Int64} {σ σ' : Mem} {r : Int64} (hf : f_X4_divisor F y0 y2 σ = some (r, σ')) : wt_Ml l yX4_divisor cX4_divisor 10 (some .long) rm_X4_divisor [.long y0, .long y2] D tI tII B σ r σ' := by
  refine Met.ofW (cc := cX4_divisor) (maxL := 10) (ret := (some .long)) (by decide) rfl ?_
  intro p e s m args below meth c s₁ B9 hml hv
  obtain ⟨rfl, hP, hK⟩ := hv
  have hl := lv_entry ([.long y0, .long y2]) (n := 10) (qz_b rfl)
  rw [lg_entry_eq]
  generalize (lg_sl ([.long y0, .long y2]) ++ List.replicate (10 - (lg_sl ([.long y0, .long y2])).length) Slot.unset).toArray = ls at hl ⊢
  exact w_X4_divisor_0 (wt_C_of B9 hml hK) hf ⟨hP, va_S.rf⟩ hl
section
variable {p : Program} {l : Launch} {e : Env} {s : State} {m : MethodId} {args : Array Value} {below : List Frame} {meth : Method} {c : Code} {D : va_G} {tI tII : ClassId} {B : Nat}
set_option maxHeartbeats 4000000 in
set_option maxRecDepth 100000 in
theorem w_X4_partOf_0 (C : wt_C p s m args meth c RX4 cX4_partOf 7 (some .long) D tI tII) {F : Nat} {y0 : Int64} {y2 : Int64} {x4 : Int32} {σ : Mem} {r : Int64} {σ' : Mem} {H : Heap} {locs : List Loc} {ls : Array Slot} (hf : f_X4_partOf F y0 y2 x4 σ = some (r, σ')) (hM : wt_St D tI tII B σ s H locs) (hl : lv_has ls 7 [(0, .long y0), (2, .long y2), (4, .int x4)]) : W p l e rm_X4_partOf s m args below meth c H locs 0 0 (MQ below (wt_Ql D tI tII B r σ') args s 0 0 (fun q => B ≤ q)) (F0 m 0 ls []) := by
  obtain ⟨hx, hb, hts, hown, hml, hr, hlk, hK⟩ := id C
  replace hf := Eq.trans f_X4_partOf_e.symm hf
  refine lv_lload_n hx hb dX4_partOf_0 rfl (lv_at hl 0 rfl) ?_
  refine lv_lconst (v := 0) hx hb dX4_partOf_1 (by decide) ?_
  refine W.lcmp hx hb dX4_partOf_2 ?_
  refine wq_if_ne (tgt := 10) hx hb dX4_partOf_3 (by decide) hf (fun hf => ?_) (fun hf => ?_)
  · refine lv_lload_n hx hb dX4_partOf_10 rfl (lv_at hl 0 rfl) ?_
    refine lv_lload_n hx hb dX4_partOf_11 rfl (lv_at hl 1 rfl) ?_
    refine wt_callSl (As := [.long y0, .long y2]) (rest := []) hx hb hml hts hown hK hM cw_X4_266 hd_X4_divisor rfl ⟨qz_b rfl, qz_b rfl⟩ ⟨rfl, rfl⟩ hl.1 rfl (qz_b rfl) dX4_partOf_12 hf (fun _ _ h9 => c_X4_divisor h9) (fun r1 s2 H locs hf hM => ?_)
    refine lv_lstore (lv' := [(5, .long r1), (0, .long y0), (2, .long y2), (4, .int x4)]) hx hb dX4_partOf_15 hl (by decide) rfl (fun ls hl => ?_)
    refine lv_iload hx hb dX4_partOf_17 (lv_at hl 3 rfl) ?_
    refine wq_if_ne (tgt := 29) hx hb dX4_partOf_19 (by decide) hf (fun hf => ?_) (fun hf => ?_)
    · refine lv_lload_n hx hb dX4_partOf_29 rfl (lv_at hl 2 rfl) ?_
      refine lv_lload hx hb dX4_partOf_30 (lv_at hl 0 rfl) ?_
      obtain ⟨nz32, hf⟩ := wt_nzl_of hf
      refine lv_ldiv hx hb dX4_partOf_32 nz32 ?_
      exact wt_lret hx hb hr hlk hK hM hf dX4_partOf_33
    refine lv_lload_n hx hb dX4_partOf_22 rfl (lv_at hl 1 rfl) ?_
    refine lv_lload hx hb dX4_partOf_23 (lv_at hl 0 rfl) ?_
    obtain ⟨nz25, hf⟩ := wt_nzl_of hf
    refine lv_ldiv hx hb dX4_partOf_25 nz25 ?_
    refine lv_goto (tgt := 33) hx hb dX4_partOf_26 (by decide) ?_
    exact wt_lret hx hb hr hlk hK hM hf dX4_partOf_33
  refine lv_iload hx hb dX4_partOf_6 (lv_at hl 2 rfl) ?_
  refine lv_i2l (v := (Int32.toInt64 x4)) hx hb dX4_partOf_8 rfl ?_
  exact wt_lret hx hb hr hlk hK hM hf dX4_partOf_9
end
set_option maxHeartbeats 4000000 in
set_option maxRecDepth 100000 in
theorem c_X4_partOf {l : Launch} {D : va_G} {tI tII : ClassId} {B F : Nat} {y0 : Int64} {y2 : Int64} {x4 : Int32} {σ σ' : Mem} {r : Int64} (hf : f_X4_partOf F y0 y2 x4 σ = some (r, σ')) : wt_Ml l yX4_partOf cX4_partOf 7 (some .long) rm_X4_partOf [.long y0, .long y2, .int x4] D tI tII B σ r σ' := by
  refine Met.ofW (cc := cX4_partOf) (maxL := 7) (ret := (some .long)) (by decide) rfl ?_
  intro p e s m args below meth c s₁ B9 hml hv
  obtain ⟨rfl, hP, hK⟩ := hv
  have hl := lv_entry ([.long y0, .long y2, .int x4]) (n := 7) (qz_b rfl)
  rw [lg_entry_eq]
  generalize (lg_sl ([.long y0, .long y2, .int x4]) ++ List.replicate (7 - (lg_sl ([.long y0, .long y2, .int x4])).length) Slot.unset).toArray = ls at hl ⊢
  exact w_X4_partOf_0 (wt_C_of B9 hml hK) hf ⟨hP, va_S.rf⟩ hl
section
variable {p : Program} {l : Launch} {e : Env} {s : State} {m : MethodId} {args : Array Value} {below : List Frame} {meth : Method} {c : Code} {D : va_G} {tI tII : ClassId} {B : Nat}
set_option maxHeartbeats 4000000 in
set_option maxRecDepth 100000 in
theorem w_X4_share_55 (C : wt_C p s m args meth c RX4 cX4_share 8 (some .long) D tI tII) {F : Nat} {x1 : Int32} {x2 : Int32} {x3 : Int32} {r : Int64} {σ' : Mem} : ∀ (N : Nat) (y5 : Int64) (x7 : Int32) (σ : Mem) (H : Heap) (locs : List Loc) (ls : Array Slot), lp_X4_share_55 F x1 x2 x3 N y5 x7 σ = some (r, σ') → wt_St D tI tII B σ s H locs → lv_has ls 8 [(0, .ref (B + 101)), (1, .int x1), (2, .int x2), (3, .int x3), (5, .long y5), (7, .int x7)] → W p l e rm_X4_share s m args below meth c H locs 0 0 (MQ below (wt_Ql D tI tII B r σ') args s 0 0 (fun q => B ≤ q)) (F0 m 55 ls []) := by
  obtain ⟨hx, hb, hts, hown, hml, hr, hlk, hK⟩ := id C
  intro N
  induction N with
  | zero => intro y5 x7 σ H locs ls hf; exact wt_none (show (none : Option (Int64 × Mem)) = some (r, σ') from hf)
  | succ N ih =>
    intro y5 x7 σ H locs ls hf hM hl
    replace hf := Eq.trans lp_X4_share_55_s.symm hf
    refine lv_iload hx hb dX4_share_55 (lv_at hl 5 rfl) ?_
    refine lv_aload_n hx hb dX4_share_57 rfl (lv_at hl 0 rfl) ?_
    refine gf_X4_lookers  hx hb hts hown hK hM tw_713 dX4_share_58 ?_
    refine wq_icmp_ge (tgt := 88) hx hb dX4_share_61 (by decide) hf (fun hf => ?_) (fun hf => ?_)
    · refine lv_aload_n hx hb dX4_share_88 rfl (lv_at hl 0 rfl) ?_
      refine gf_X4_counted  hx hb hts hown hK hM tw_717 dX4_share_89 ?_
      refine lv_bipush (v := 8) hx hb dX4_share_92 (by decide) ?_
      refine lv_iload_n hx hb dX4_share_94 rfl (lv_at hl 1 rfl) ?_
      refine lv_imul hx hb dX4_share_95 ?_
      refine lv_iload_n hx hb dX4_share_96 rfl (lv_at hl 2 rfl) ?_
      refine lv_iadd hx hb dX4_share_97 ?_
      obtain ⟨i1, hf⟩ := wt_chk_of hf
      refine wt_ild hx hb hK hM wt_a107 i1 dX4_share_98 ?_
      refine lv_i2l (v := (Int32.toInt64 (σ 107 (Int32.toNatClampNeg (((8 : Int32) * x1) + x2))))) hx hb dX4_share_99 rfl ?_
      refine lv_lload hx hb dX4_share_100 (lv_at hl 4 rfl) ?_
      refine lv_iload_n hx hb dX4_share_102 rfl (lv_at hl 3 rfl) ?_
      refine wt_callSl (As := [.long (Int32.toInt64 (σ 107 (Int32.toNatClampNeg (((8 : Int32) * x1) + x2)))), .long y5, .int x3]) (rest := []) hx hb hml hts hown hK hM cw_X4_272 hd_X4_partOf rfl ⟨qz_b rfl, qz_b rfl⟩ ⟨rfl, rfl⟩ hl.1 rfl (qz_b rfl) dX4_share_103 hf (fun _ _ h9 => c_X4_partOf h9) (fun r2 s3 H locs hf hM => ?_)
      exact wt_lret hx hb hr hlk hK hM hf dX4_share_106
    refine lv_lload hx hb dX4_share_64 (lv_at hl 4 rfl) ?_
    refine lv_aload_n hx hb dX4_share_66 rfl (lv_at hl 0 rfl) ?_
    refine gf_X4_counted  hx hb hts hown hK hM tw_717 dX4_share_67 ?_
    refine lv_bipush (v := 8) hx hb dX4_share_70 (by decide) ?_
    refine lv_iload hx hb dX4_share_72 (lv_at hl 5 rfl) ?_
    refine lv_imul hx hb dX4_share_74 ?_
    refine lv_iload_n hx hb dX4_share_75 rfl (lv_at hl 2 rfl) ?_
    refine lv_iadd hx hb dX4_share_76 ?_
    obtain ⟨i4, hf⟩ := wt_chk_of hf
    refine wt_ild hx hb hK hM wt_a107 i4 dX4_share_77 ?_
    refine lv_i2l (v := (Int32.toInt64 (σ 107 (Int32.toNatClampNeg (((8 : Int32) * x7) + x2))))) hx hb dX4_share_78 rfl ?_
    refine lv_ladd hx hb dX4_share_79 ?_
    refine wt_letl hf (fun z5 hf => ?_)
    refine lv_lstore (lv' := [(5, .long z5), (0, .ref (B + 101)), (1, .int x1), (2, .int x2), (3, .int x3), (7, .int x7)]) hx hb dX4_share_80 hl (by decide) rfl (fun ls hl => ?_)
    refine lv_iinc (v := (x7 + (1 : Int32))) (lv' := [(7, .int (x7 + (1 : Int32))), (5, .long z5), (0, .ref (B + 101)), (1, .int x1), (2, .int x2), (3, .int x3)]) hx hb dX4_share_82 hl (k := 5) rfl rfl (by decide) rfl (fun ls hl => ?_)
    refine lv_goto (tgt := 55) hx hb dX4_share_85 (by decide) ?_
    exact ih _ _ _ _ _ _ hf hM (lv_sub hl [2, 3, 4, 5, 1, 0] rfl)
set_option maxHeartbeats 4000000 in
set_option maxRecDepth 100000 in
theorem w_X4_share_30 (C : wt_C p s m args meth c RX4 cX4_share 8 (some .long) D tI tII) {F : Nat} {x1 : Int32} {x2 : Int32} {x3 : Int32} {t0 : Int32} {σ : Mem} {r : Int64} {σ' : Mem} {H : Heap} {locs : List Loc} {ls : Array Slot} (hf : j_X4_share_30 F x1 x2 x3 t0 σ = some (r, σ')) (hM : wt_St D tI tII B σ s H locs) (hl : lv_has ls 8 [(0, .ref (B + 101)), (1, .int x1), (2, .int x2), (3, .int x3)]) : W p l e rm_X4_share s m args below meth c H locs 0 0 (MQ below (wt_Ql D tI tII B r σ') args s 0 0 (fun q => B ≤ q)) (F0 m 30 ls [.int t0]) := by
  obtain ⟨hx, hb, hts, hown, hml, hr, hlk, hK⟩ := id C
  replace hf := Eq.trans j_X4_share_30_e.symm hf
  refine lv_istore (lv' := [(4, .int t0), (0, .ref (B + 101)), (1, .int x1), (2, .int x2), (3, .int x3)]) hx hb dX4_share_30 hl (by decide) rfl (fun ls hl => ?_)
  refine lv_iload hx hb dX4_share_32 (lv_at hl 0 rfl) ?_
  refine wq_if_ge (tgt := 49) hx hb dX4_share_34 (by decide) hf (fun hf => ?_) (fun hf => ?_)
  · refine lv_lconst (v := 0) hx hb dX4_share_49 (by decide) ?_
    refine lv_lstore (lv' := [(5, .long (0 : Int64)), (4, .int t0), (0, .ref (B + 101)), (1, .int x1), (2, .int x2), (3, .int x3)]) hx hb dX4_share_50 hl (by decide) rfl (fun ls hl => ?_)
    refine lv_iconst (v := 0) hx hb dX4_share_52 (by decide) ?_
    refine lv_istore (lv' := [(7, .int (0 : Int32)), (5, .long (0 : Int64)), (4, .int t0), (0, .ref (B + 101)), (1, .int x1), (2, .int x2), (3, .int x3)]) hx hb dX4_share_53 hl (by decide) rfl (fun ls hl => ?_)
    exact w_X4_share_55 C _ _ _ _ _ _ _ hf hM (lv_sub hl [3, 4, 5, 6, 1, 0] rfl)
  refine lv_ldc2 (v := 4000000000000000000) hx hb hown (hts _ tw_1101) dX4_share_37 ?_
  refine lv_aload_n hx hb dX4_share_40 rfl (lv_at hl 1 rfl) ?_
  refine lv_iload hx hb dX4_share_41 (lv_at hl 0 rfl) ?_
  refine wt_callVi (As := [.int t0]) (rest := [.long (4000000000000000000 : Int64)]) hx hb hml hts hown hK hM wt_rc_X4 cw_X4_143 hd_X4_refuse rfl ⟨qz_b rfl, qz_b rfl⟩ ⟨rfl, rfl⟩ hl.1 rfl (qz_b rfl) dX4_share_43 hf (fun _ _ h9 => c_X4_refuse h9) (fun r6 s7 H locs hf hM => ?_)
  refine lv_i2l (v := (Int32.toInt64 r6)) hx hb dX4_share_46 rfl ?_
  refine lv_lsub hx hb dX4_share_47 ?_
  exact wt_lret hx hb hr hlk hK hM hf dX4_share_48
set_option maxHeartbeats 4000000 in
set_option maxRecDepth 100000 in
theorem w_X4_share_29 (C : wt_C p s m args meth c RX4 cX4_share 8 (some .long) D tI tII) {F : Nat} {x1 : Int32} {x2 : Int32} {x3 : Int32} {σ : Mem} {r : Int64} {σ' : Mem} {H : Heap} {locs : List Loc} {ls : Array Slot} (hf : j_X4_share_29 F x1 x2 x3 σ = some (r, σ')) (hM : wt_St D tI tII B σ s H locs) (hl : lv_has ls 8 [(0, .ref (B + 101)), (1, .int x1), (2, .int x2), (3, .int x3)]) : W p l e rm_X4_share s m args below meth c H locs 0 0 (MQ below (wt_Ql D tI tII B r σ') args s 0 0 (fun q => B ≤ q)) (F0 m 29 ls []) := by
  obtain ⟨hx, hb, hts, hown, hml, hr, hlk, hK⟩ := id C
  replace hf := Eq.trans j_X4_share_29_e.symm hf
  refine lv_iconst (v := -1) hx hb dX4_share_29 (by decide) ?_
  exact w_X4_share_30 C hf hM hl
set_option maxHeartbeats 4000000 in
set_option maxRecDepth 100000 in
theorem w_X4_share_0 (C : wt_C p s m args meth c RX4 cX4_share 8 (some .long) D tI tII) {F : Nat} {x1 : Int32} {x2 : Int32} {x3 : Int32} {σ : Mem} {r : Int64} {σ' : Mem} {H : Heap} {locs : List Loc} {ls : Array Slot} (hf : f_X4_share F x1 x2 x3 σ = some (r, σ')) (hM : wt_St D tI tII B σ s H locs) (hl : lv_has ls 8 [(0, .ref (B + 101)), (1, .int x1), (2, .int x2), (3, .int x3)]) : W p l e rm_X4_share s m args below meth c H locs 0 0 (MQ below (wt_Ql D tI tII B r σ') args s 0 0 (fun q => B ≤ q)) (F0 m 0 ls []) := by
  obtain ⟨hx, hb, hts, hown, hml, hr, hlk, hK⟩ := id C
  replace hf := Eq.trans f_X4_share_e.symm hf
  refine lv_aload_n hx hb dX4_share_0 rfl (lv_at hl 0 rfl) ?_
  refine lv_iconst (v := 0) hx hb dX4_share_1 (by decide) ?_
  refine pf_X4_thrown  hx hb hts hown hK hM tw_720 dX4_share_2 hf (fun s8 H locs hf hM => ?_)
  refine lv_aload_n hx hb dX4_share_5 rfl (lv_at hl 0 rfl) ?_
  refine lv_iload_n hx hb dX4_share_6 rfl (lv_at hl 1 rfl) ?_
  refine wt_callVi (As := [.int x1]) (rest := []) hx hb hml hts hown hK hM wt_rc_X4 cw_X4_88 hd_X4_isLooker rfl ⟨qz_b rfl, qz_b rfl⟩ ⟨rfl, rfl⟩ hl.1 rfl (qz_b rfl) dX4_share_7 hf (fun _ _ h9 => c_X4_isLooker h9) (fun r9 s10 H locs hf hM => ?_)
  refine wq_if_eq (tgt := 29) hx hb dX4_share_10 (by decide) hf (fun hf => ?_) (fun hf => ?_)
  · exact w_X4_share_29 C hf hM hl
  refine lv_iload_n hx hb dX4_share_13 rfl (lv_at hl 2 rfl) ?_
  refine wt_callSi (As := [.int x2]) (rest := []) hx hb hml hts hown hK hM cw_X4_243 hd_X4_isView rfl ⟨qz_b rfl, qz_b rfl⟩ ⟨rfl, rfl⟩ hl.1 rfl (qz_b rfl) dX4_share_14 hf (fun _ _ h9 => c_X4_isView h9) (fun r11 s12 H locs hf hM => ?_)
  refine wq_if_eq (tgt := 29) hx hb dX4_share_17 (by decide) hf (fun hf => ?_) (fun hf => ?_)
  · exact w_X4_share_29 C hf hM hl
  refine lv_iconst (v := 0) hx hb dX4_share_20 (by decide) ?_
  refine lv_iload_n hx hb dX4_share_21 rfl (lv_at hl 3 rfl) ?_
  refine lv_iconst (v := 1) hx hb dX4_share_22 (by decide) ?_
  refine wt_callSi (As := [.int (0 : Int32), .int x3, .int (1 : Int32)]) (rest := []) hx hb hml hts hown hK hM cw_X4_251 hd_X4_wrongBit rfl ⟨qz_b rfl, qz_b rfl⟩ ⟨rfl, rfl⟩ hl.1 rfl (qz_b rfl) dX4_share_23 hf (fun _ _ h9 => c_X4_wrongBit h9) (fun r13 s14 H locs hf hM => ?_)
  refine lv_goto (tgt := 30) hx hb dX4_share_26 (by decide) ?_
  exact w_X4_share_30 C hf hM hl
end
set_option maxHeartbeats 4000000 in
set_option maxRecDepth 100000 in
theorem c_X4_share {l : Launch} {D : va_G} {tI tII : ClassId} {B F : Nat} {x1 : Int32} {x2 : Int32} {x3 : Int32} {σ σ' : Mem} {r : Int64} (hf : f_X4_share F x1 x2 x3 σ = some (r, σ')) : wt_Ml l yX4_share cX4_share 8 (some .long) rm_X4_share [.ref (B + 101), .int x1, .int x2, .int x3] D tI tII B σ r σ' := by
  refine Met.ofW (cc := cX4_share) (maxL := 8) (ret := (some .long)) (by decide) rfl ?_
  intro p e s m args below meth c s₁ B9 hml hv
  obtain ⟨rfl, hP, hK⟩ := hv
  have hl := lv_entry ([.ref (B + 101), .int x1, .int x2, .int x3]) (n := 8) (qz_b rfl)
  rw [lg_entry_eq]
  generalize (lg_sl ([.ref (B + 101), .int x1, .int x2, .int x3]) ++ List.replicate (8 - (lg_sl ([.ref (B + 101), .int x1, .int x2, .int x3])).length) Slot.unset).toArray = ls at hl ⊢
  exact w_X4_share_0 (wt_C_of B9 hml hK) hf ⟨hP, va_S.rf⟩ hl
section
variable {p : Program} {l : Launch} {e : Env} {s : State} {m : MethodId} {args : Array Value} {below : List Frame} {meth : Method} {c : Code} {D : va_G} {tI tII : ClassId} {B : Nat}
set_option maxHeartbeats 4000000 in
set_option maxRecDepth 100000 in
theorem w_X4_areResting_97 (C : wt_C p s m args meth c RX4 cX4_areResting 6 (some .boolean) D tI tII) {F : Nat} {k36 : Int32 → Int32 → Mem → Option (Int32 × Mem)} {x1 : Int32} {x2 : Int32} {x3 : Int32} {x5 : Int32} {t0 : Int32} {σ : Mem} {r : Int32} {σ' : Mem} {H : Heap} {locs : List Loc} {ls : Array Slot} (hk36 : ∀ (x4 : Int32) (x5 : Int32) (σ : Mem) (H : Heap) (locs : List Loc) (ls : Array Slot), k36 x4 x5 σ = some (r, σ') → wt_St D tI tII B σ s H locs → lv_has ls 6 [(0, .ref (B + 101)), (1, .int x1), (2, .int x2), (3, .int x3), (4, .int x4), (5, .int x5)] → W p l e rm_X4_areResting s m args below meth c H locs 0 0 (MQ below (wt_Qi D tI tII B r σ') args s 0 0 (fun q => B ≤ q)) (F0 m 36 ls [])) (hf : j_X4_areResting_97 F k36 x1 x2 x3 x5 t0 σ = some (r, σ')) (hM : wt_St D tI tII B σ s H locs) (hl : lv_has ls 6 [(0, .ref (B + 101)), (1, .int x1), (2, .int x2), (3, .int x3), (5, .int x5)]) : W p l e rm_X4_areResting s m args below meth c H locs 0 0 (MQ below (wt_Qi D tI tII B r σ') args s 0 0 (fun q => B ≤ q)) (F0 m 97 ls [.int t0]) := by
  obtain ⟨hx, hb, hts, hown, hml, hr, hlk, hK⟩ := id C
  replace hf := Eq.trans j_X4_areResting_97_e.symm hf
  refine lv_istore (lv' := [(4, .int t0), (0, .ref (B + 101)), (1, .int x1), (2, .int x2), (3, .int x3), (5, .int x5)]) hx hb dX4_areResting_97 hl (by decide) rfl (fun ls hl => ?_)
  refine lv_iinc (v := (x5 + (1 : Int32))) (lv' := [(5, .int (x5 + (1 : Int32))), (4, .int t0), (0, .ref (B + 101)), (1, .int x1), (2, .int x2), (3, .int x3)]) hx hb dX4_areResting_99 hl (k := 5) rfl rfl (by decide) rfl (fun ls hl => ?_)
  refine lv_goto (tgt := 36) hx hb dX4_areResting_102 (by decide) ?_
  exact hk36 _ _ _ _ _ _ hf hM (lv_sub hl [2, 3, 4, 5, 1, 0] rfl)
set_option maxHeartbeats 4000000 in
set_option maxRecDepth 100000 in
theorem w_X4_areResting_96 (C : wt_C p s m args meth c RX4 cX4_areResting 6 (some .boolean) D tI tII) {F : Nat} {k36 : Int32 → Int32 → Mem → Option (Int32 × Mem)} {x1 : Int32} {x2 : Int32} {x3 : Int32} {x5 : Int32} {σ : Mem} {r : Int32} {σ' : Mem} {H : Heap} {locs : List Loc} {ls : Array Slot} (hk36 : ∀ (x4 : Int32) (x5 : Int32) (σ : Mem) (H : Heap) (locs : List Loc) (ls : Array Slot), k36 x4 x5 σ = some (r, σ') → wt_St D tI tII B σ s H locs → lv_has ls 6 [(0, .ref (B + 101)), (1, .int x1), (2, .int x2), (3, .int x3), (4, .int x4), (5, .int x5)] → W p l e rm_X4_areResting s m args below meth c H locs 0 0 (MQ below (wt_Qi D tI tII B r σ') args s 0 0 (fun q => B ≤ q)) (F0 m 36 ls [])) (hf : j_X4_areResting_96 F k36 x1 x2 x3 x5 σ = some (r, σ')) (hM : wt_St D tI tII B σ s H locs) (hl : lv_has ls 6 [(0, .ref (B + 101)), (1, .int x1), (2, .int x2), (3, .int x3), (5, .int x5)]) : W p l e rm_X4_areResting s m args below meth c H locs 0 0 (MQ below (wt_Qi D tI tII B r σ') args s 0 0 (fun q => B ≤ q)) (F0 m 96 ls []) := by
  obtain ⟨hx, hb, hts, hown, hml, hr, hlk, hK⟩ := id C
  replace hf := Eq.trans j_X4_areResting_96_e.symm hf
  refine lv_iconst (v := 0) hx hb dX4_areResting_96 (by decide) ?_
  exact w_X4_areResting_97 C hk36 hf hM hl
set_option maxHeartbeats 4000000 in
set_option maxRecDepth 100000 in
theorem w_X4_areResting_105 (C : wt_C p s m args meth c RX4 cX4_areResting 6 (some .boolean) D tI tII) {F : Nat} {x4 : Int32} {σ : Mem} {r : Int32} {σ' : Mem} {H : Heap} {locs : List Loc} {ls : Array Slot} (hf : j_X4_areResting_105 F x4 σ = some (r, σ')) (hM : wt_St D tI tII B σ s H locs) (hl : lv_has ls 6 [(4, .int x4)]) : W p l e rm_X4_areResting s m args below meth c H locs 0 0 (MQ below (wt_Qi D tI tII B r σ') args s 0 0 (fun q => B ≤ q)) (F0 m 105 ls []) := by
  obtain ⟨hx, hb, hts, hown, hml, hr, hlk, hK⟩ := id C
  replace hf := Eq.trans j_X4_areResting_105_e.symm hf
  refine lv_iload hx hb dX4_areResting_105 (lv_at hl 0 rfl) ?_
  obtain ⟨hz9, hf⟩ := wt_bz_of hf
  exact wt_zret hx hb hr hlk hK hM hz9 hf dX4_areResting_107
set_option maxHeartbeats 4000000 in
set_option maxRecDepth 100000 in
theorem w_X4_areResting_36 (C : wt_C p s m args meth c RX4 cX4_areResting 6 (some .boolean) D tI tII) {F : Nat} {x1 : Int32} {x2 : Int32} {x3 : Int32} {r : Int32} {σ' : Mem} : ∀ (N : Nat) (x4 : Int32) (x5 : Int32) (σ : Mem) (H : Heap) (locs : List Loc) (ls : Array Slot), lp_X4_areResting_36 F x1 x2 x3 N x4 x5 σ = some (r, σ') → wt_St D tI tII B σ s H locs → lv_has ls 6 [(0, .ref (B + 101)), (1, .int x1), (2, .int x2), (3, .int x3), (4, .int x4), (5, .int x5)] → W p l e rm_X4_areResting s m args below meth c H locs 0 0 (MQ below (wt_Qi D tI tII B r σ') args s 0 0 (fun q => B ≤ q)) (F0 m 36 ls []) := by
  obtain ⟨hx, hb, hts, hown, hml, hr, hlk, hK⟩ := id C
  intro N
  induction N with
  | zero => intro x4 x5 σ H locs ls hf; exact wt_none (show (none : Option (Int32 × Mem)) = some (r, σ') from hf)
  | succ N ih =>
    intro x4 x5 σ H locs ls hf hM hl
    replace hf := Eq.trans lp_X4_areResting_36_s.symm hf
    refine lv_iload hx hb dX4_areResting_36 (lv_at hl 5 rfl) ?_
    refine lv_aload_n hx hb dX4_areResting_38 rfl (lv_at hl 0 rfl) ?_
    refine gf_X4_panes  hx hb hts hown hK hM tw_711 dX4_areResting_39 ?_
    refine wq_icmp_ge (tgt := 105) hx hb dX4_areResting_42 (by decide) hf (fun hf => ?_) (fun hf => ?_)
    · exact w_X4_areResting_105 C hf hM (lv_sub hl [4] rfl)
    refine lv_iload hx hb dX4_areResting_45 (lv_at hl 4 rfl) ?_
    refine wq_if_eq (tgt := 105) hx hb dX4_areResting_47 (by decide) hf (fun hf => ?_) (fun hf => ?_)
    · exact w_X4_areResting_105 C hf hM (lv_sub hl [4] rfl)
    refine lv_aload_n hx hb dX4_areResting_50 rfl (lv_at hl 0 rfl) ?_
    refine gf_X4_oneHas  hx hb hts hown hK hM tw_741 dX4_areResting_51 ?_
    refine lv_bipush (v := 6) hx hb dX4_areResting_54 (by decide) ?_
    refine lv_iload hx hb dX4_areResting_56 (lv_at hl 5 rfl) ?_
    refine lv_imul hx hb dX4_areResting_58 ?_
    refine lv_iload_n hx hb dX4_areResting_59 rfl (lv_at hl 3 rfl) ?_
    refine lv_iadd hx hb dX4_areResting_60 ?_
    obtain ⟨i1, hf⟩ := wt_chk_of hf
    refine wt_ild hx hb hK hM wt_a119 i1 dX4_areResting_61 ?_
    refine lv_aload_n hx hb dX4_areResting_62 rfl (lv_at hl 0 rfl) ?_
    refine gf_X4_oneHas  hx hb hts hown hK hM tw_741 dX4_areResting_63 ?_
    refine lv_iload_n hx hb dX4_areResting_66 rfl (lv_at hl 1 rfl) ?_
    obtain ⟨i2, hf⟩ := wt_chk_of hf
    refine wt_ild hx hb hK hM wt_a119 i2 dX4_areResting_67 ?_
    refine wq_icmp_gt (tgt := 96) hx hb dX4_areResting_68 (by decide) hf (fun hf => ?_) (fun hf => ?_)
    · exact w_X4_areResting_96 C ih hf hM (lv_sub hl [0, 1, 2, 3, 5] rfl)
    refine lv_aload_n hx hb dX4_areResting_71 rfl (lv_at hl 0 rfl) ?_
    refine gf_X4_otherHas  hx hb hts hown hK hM tw_742 dX4_areResting_72 ?_
    refine lv_bipush (v := 6) hx hb dX4_areResting_75 (by decide) ?_
    refine lv_iload_n hx hb dX4_areResting_77 rfl (lv_at hl 2 rfl) ?_
    refine lv_imul hx hb dX4_areResting_78 ?_
    refine lv_iload hx hb dX4_areResting_79 (lv_at hl 5 rfl) ?_
    refine lv_iadd hx hb dX4_areResting_81 ?_
    obtain ⟨i3, hf⟩ := wt_chk_of hf
    refine wt_ild hx hb hK hM wt_a120 i3 dX4_areResting_82 ?_
    refine lv_aload_n hx hb dX4_areResting_83 rfl (lv_at hl 0 rfl) ?_
    refine gf_X4_otherHas  hx hb hts hown hK hM tw_742 dX4_areResting_84 ?_
    refine lv_iload_n hx hb dX4_areResting_87 rfl (lv_at hl 1 rfl) ?_
    refine wt_ild hx hb hK hM wt_a120 i2 dX4_areResting_88 ?_
    refine wq_icmp_gt (tgt := 96) hx hb dX4_areResting_89 (by decide) hf (fun hf => ?_) (fun hf => ?_)
    · exact w_X4_areResting_96 C ih hf hM (lv_sub hl [0, 1, 2, 3, 5] rfl)
    refine lv_iconst (v := 1) hx hb dX4_areResting_92 (by decide) ?_
    refine lv_goto (tgt := 97) hx hb dX4_areResting_93 (by decide) ?_
    exact w_X4_areResting_97 C ih hf hM (lv_sub hl [0, 1, 2, 3, 5] rfl)
set_option maxHeartbeats 4000000 in
set_option maxRecDepth 100000 in
theorem w_X4_areResting_31 (C : wt_C p s m args meth c RX4 cX4_areResting 6 (some .boolean) D tI tII) {F : Nat} {x1 : Int32} {x2 : Int32} {x3 : Int32} {t0 : Int32} {σ : Mem} {r : Int32} {σ' : Mem} {H : Heap} {locs : List Loc} {ls : Array Slot} (hf : j_X4_areResting_31 F x1 x2 x3 t0 σ = some (r, σ')) (hM : wt_St D tI tII B σ s H locs) (hl : lv_has ls 6 [(0, .ref (B + 101)), (1, .int x1), (2, .int x2), (3, .int x3)]) : W p l e rm_X4_areResting s m args below meth c H locs 0 0 (MQ below (wt_Qi D tI tII B r σ') args s 0 0 (fun q => B ≤ q)) (F0 m 31 ls [.int t0]) := by
  obtain ⟨hx, hb, hts, hown, hml, hr, hlk, hK⟩ := id C
  replace hf := Eq.trans j_X4_areResting_31_e.symm hf
  refine lv_istore (lv' := [(4, .int t0), (0, .ref (B + 101)), (1, .int x1), (2, .int x2), (3, .int x3)]) hx hb dX4_areResting_31 hl (by decide) rfl (fun ls hl => ?_)
  refine lv_iconst (v := 0) hx hb dX4_areResting_33 (by decide) ?_
  refine lv_istore (lv' := [(5, .int (0 : Int32)), (4, .int t0), (0, .ref (B + 101)), (1, .int x1), (2, .int x2), (3, .int x3)]) hx hb dX4_areResting_34 hl (by decide) rfl (fun ls hl => ?_)
  exact w_X4_areResting_36 C _ _ _ _ _ _ _ hf hM (lv_sub hl [2, 3, 4, 5, 1, 0] rfl)
set_option maxHeartbeats 4000000 in
set_option maxRecDepth 100000 in
theorem w_X4_areResting_30 (C : wt_C p s m args meth c RX4 cX4_areResting 6 (some .boolean) D tI tII) {F : Nat} {x1 : Int32} {x2 : Int32} {x3 : Int32} {σ : Mem} {r : Int32} {σ' : Mem} {H : Heap} {locs : List Loc} {ls : Array Slot} (hf : j_X4_areResting_30 F x1 x2 x3 σ = some (r, σ')) (hM : wt_St D tI tII B σ s H locs) (hl : lv_has ls 6 [(0, .ref (B + 101)), (1, .int x1), (2, .int x2), (3, .int x3)]) : W p l e rm_X4_areResting s m args below meth c H locs 0 0 (MQ below (wt_Qi D tI tII B r σ') args s 0 0 (fun q => B ≤ q)) (F0 m 30 ls []) := by
  obtain ⟨hx, hb, hts, hown, hml, hr, hlk, hK⟩ := id C
  replace hf := Eq.trans j_X4_areResting_30_e.symm hf
  refine lv_iconst (v := 0) hx hb dX4_areResting_30 (by decide) ?_
  exact w_X4_areResting_31 C hf hM hl
set_option maxHeartbeats 4000000 in
set_option maxRecDepth 100000 in
theorem w_X4_areResting_0 (C : wt_C p s m args meth c RX4 cX4_areResting 6 (some .boolean) D tI tII) {F : Nat} {x1 : Int32} {σ : Mem} {r : Int32} {σ' : Mem} {H : Heap} {locs : List Loc} {ls : Array Slot} (hf : f_X4_areResting F x1 σ = some (r, σ')) (hM : wt_St D tI tII B σ s H locs) (hl : lv_has ls 6 [(0, .ref (B + 101)), (1, .int x1)]) : W p l e rm_X4_areResting s m args below meth c H locs 0 0 (MQ below (wt_Qi D tI tII B r σ') args s 0 0 (fun q => B ≤ q)) (F0 m 0 ls []) := by
  obtain ⟨hx, hb, hts, hown, hml, hr, hlk, hK⟩ := id C
  replace hf := Eq.trans f_X4_areResting_e.symm hf
  refine lv_iload_n hx hb dX4_areResting_0 rfl (lv_at hl 1 rfl) ?_
  refine lv_bipush (v := 6) hx hb dX4_areResting_1 (by decide) ?_
  refine lv_idiv hx hb dX4_areResting_3 (by decide) ?_
  refine lv_istore_n (lv' := [(2, .int (x1 / (6 : Int32))), (0, .ref (B + 101)), (1, .int x1)]) hx hb dX4_areResting_4 rfl hl (by decide) rfl (fun ls hl => ?_)
  refine lv_iload_n hx hb dX4_areResting_5 rfl (lv_at hl 2 rfl) ?_
  refine lv_bipush (v := 6) hx hb dX4_areResting_6 (by decide) ?_
  refine lv_irem hx hb dX4_areResting_8 (by decide) ?_
  refine wt_leti hf (fun z4 hf => ?_)
  refine lv_istore_n (lv' := [(3, .int z4), (2, .int (x1 / (6 : Int32))), (0, .ref (B + 101)), (1, .int x1)]) hx hb dX4_areResting_9 rfl hl (by decide) rfl (fun ls hl => ?_)
  refine lv_iload_n hx hb dX4_areResting_10 rfl (lv_at hl 1 rfl) ?_
  refine lv_aload_n hx hb dX4_areResting_11 rfl (lv_at hl 2 rfl) ?_
  refine gf_X4_panes  hx hb hts hown hK hM tw_711 dX4_areResting_12 ?_
  refine wq_icmp_ge (tgt := 30) hx hb dX4_areResting_15 (by decide) hf (fun hf => ?_) (fun hf => ?_)
  · exact w_X4_areResting_30 C hf hM (lv_sub hl [2, 3, 1, 0] rfl)
  refine lv_iload_n hx hb dX4_areResting_18 rfl (lv_at hl 0 rfl) ?_
  refine lv_aload_n hx hb dX4_areResting_19 rfl (lv_at hl 2 rfl) ?_
  refine gf_X4_panes  hx hb hts hown hK hM tw_711 dX4_areResting_20 ?_
  refine wq_icmp_ge (tgt := 30) hx hb dX4_areResting_23 (by decide) hf (fun hf => ?_) (fun hf => ?_)
  · exact w_X4_areResting_30 C hf hM (lv_sub hl [2, 3, 1, 0] rfl)
  refine lv_iconst (v := 1) hx hb dX4_areResting_26 (by decide) ?_
  refine lv_goto (tgt := 31) hx hb dX4_areResting_27 (by decide) ?_
  exact w_X4_areResting_31 C hf hM (lv_sub hl [2, 3, 1, 0] rfl)
end
set_option maxHeartbeats 4000000 in
set_option maxRecDepth 100000 in
theorem c_X4_areResting {l : Launch} {D : va_G} {tI tII : ClassId} {B F : Nat} {x1 : Int32} {σ σ' : Mem} {r : Int32} (hf : f_X4_areResting F x1 σ = some (r, σ')) : wt_Mi l yX4_areResting cX4_areResting 6 (some .boolean) rm_X4_areResting [.ref (B + 101), .int x1] D tI tII B σ r σ' := by
  refine Met.ofW (cc := cX4_areResting) (maxL := 6) (ret := (some .boolean)) (by decide) rfl ?_
  intro p e s m args below meth c s₁ B9 hml hv
  obtain ⟨rfl, hP, hK⟩ := hv
  have hl := lv_entry ([.ref (B + 101), .int x1]) (n := 6) (qz_b rfl)
  rw [lg_entry_eq]
  generalize (lg_sl ([.ref (B + 101), .int x1]) ++ List.replicate (6 - (lg_sl ([.ref (B + 101), .int x1])).length) Slot.unset).toArray = ls at hl ⊢
  exact w_X4_areResting_0 (wt_C_of B9 hml hK) hf ⟨hP, va_S.rf⟩ hl
section
variable {p : Program} {l : Launch} {e : Env} {s : State} {m : MethodId} {args : Array Value} {below : List Frame} {meth : Method} {c : Code} {D : va_G} {tI tII : ClassId} {B : Nat}
set_option maxHeartbeats 4000000 in
set_option maxRecDepth 100000 in
theorem w_X4_two_89 (C : wt_C p s m args meth c RX4 cX4_two 10 (some .int) D tI tII) {F : Nat} {k77 : Int32 → Mem → Option (Int32 × Mem)} {x1 : Int32} {x2 : Int32} {x3 : Int32} {x4 : Int32} {x6 : Int32} {x7 : Int32} {x8 : Int32} {r : Int32} {σ' : Mem} (hk77 : ∀ (x8 : Int32) (σ : Mem) (H : Heap) (locs : List Loc) (ls : Array Slot), k77 x8 σ = some (r, σ') → wt_St D tI tII B σ s H locs → lv_has ls 10 [(0, .ref (B + 101)), (1, .int x1), (2, .int x2), (3, .int x3), (4, .int x4), (6, .int x6), (7, .int x7), (8, .int x8)] → W p l e rm_X4_two s m args below meth c H locs 0 0 (MQ below (wt_Qi D tI tII B r σ') args s 0 0 (fun q => B ≤ q)) (F0 m 77 ls [])) : ∀ (N : Nat) (x9 : Int32) (σ : Mem) (H : Heap) (locs : List Loc) (ls : Array Slot), lp_X4_two_89 F k77 x1 x2 x3 x4 x6 x7 x8 N x9 σ = some (r, σ') → wt_St D tI tII B σ s H locs → lv_has ls 10 [(0, .ref (B + 101)), (1, .int x1), (2, .int x2), (3, .int x3), (4, .int x4), (6, .int x6), (7, .int x7), (8, .int x8), (9, .int x9)] → W p l e rm_X4_two s m args below meth c H locs 0 0 (MQ below (wt_Qi D tI tII B r σ') args s 0 0 (fun q => B ≤ q)) (F0 m 89 ls []) := by
  obtain ⟨hx, hb, hts, hown, hml, hr, hlk, hK⟩ := id C
  intro N
  induction N with
  | zero => intro x9 σ H locs ls hf; exact wt_none (show (none : Option (Int32 × Mem)) = some (r, σ') from hf)
  | succ N ih =>
    intro x9 σ H locs ls hf hM hl
    replace hf := Eq.trans lp_X4_two_89_s.symm hf
    refine lv_iload hx hb dX4_two_89 (lv_at hl 8 rfl) ?_
    refine lv_aload_n hx hb dX4_two_91 rfl (lv_at hl 0 rfl) ?_
    refine gf_X4_panes  hx hb hts hown hK hM tw_711 dX4_two_92 ?_
    refine wq_icmp_ge (tgt := 170) hx hb dX4_two_95 (by decide) hf (fun hf => ?_) (fun hf => ?_)
    · refine lv_iinc (v := (x8 + (1 : Int32))) (lv' := [(8, .int (x8 + (1 : Int32))), (0, .ref (B + 101)), (1, .int x1), (2, .int x2), (3, .int x3), (4, .int x4), (6, .int x6), (7, .int x7), (9, .int x9)]) hx hb dX4_two_170 hl (k := 7) rfl rfl (by decide) rfl (fun ls hl => ?_)
      refine lv_goto (tgt := 77) hx hb dX4_two_173 (by decide) ?_
      exact hk77 _ _ _ _ _ hf hM (lv_sub hl [1, 2, 3, 4, 5, 6, 7, 0] rfl)
    refine lv_aload_n hx hb dX4_two_98 rfl (lv_at hl 0 rfl) ?_
    refine gf_X4_rosters  hx hb hts hown hK hM tw_716 dX4_two_99 ?_
    refine lv_bipush (v := 24) hx hb dX4_two_102 (by decide) ?_
    refine lv_iload_n hx hb dX4_two_104 rfl (lv_at hl 1 rfl) ?_
    refine lv_imul hx hb dX4_two_105 ?_
    refine lv_iload_n hx hb dX4_two_106 rfl (lv_at hl 3 rfl) ?_
    refine lv_iadd hx hb dX4_two_107 ?_
    refine lv_iload hx hb dX4_two_108 (lv_at hl 7 rfl) ?_
    obtain ⟨i1, hf⟩ := wt_chk_of hf
    refine wt_ist hx hb hK hM wt_a106 i1 dX4_two_110 hf (fun s2 H locs hf hM => ?_)
    refine lv_aload_n hx hb dX4_two_111 rfl (lv_at hl 0 rfl) ?_
    refine gf_X4_rosters  hx hb hts hown hK hM tw_716 dX4_two_112 ?_
    refine lv_bipush (v := 24) hx hb dX4_two_115 (by decide) ?_
    refine lv_iload_n hx hb dX4_two_117 rfl (lv_at hl 2 rfl) ?_
    refine lv_imul hx hb dX4_two_118 ?_
    refine lv_iload_n hx hb dX4_two_119 rfl (lv_at hl 3 rfl) ?_
    refine lv_iadd hx hb dX4_two_120 ?_
    refine lv_iload hx hb dX4_two_121 (lv_at hl 8 rfl) ?_
    obtain ⟨i3, hf⟩ := wt_chk_of hf
    refine wt_ist hx hb hK hM wt_a106 i3 dX4_two_123 hf (fun s4 H locs hf hM => ?_)
    refine lv_aload_n hx hb dX4_two_124 rfl (lv_at hl 0 rfl) ?_
    refine gf_X4_oneHas  hx hb hts hown hK hM tw_741 dX4_two_125 ?_
    refine lv_bipush (v := 6) hx hb dX4_two_128 (by decide) ?_
    refine lv_iload hx hb dX4_two_130 (lv_at hl 7 rfl) ?_
    refine lv_imul hx hb dX4_two_132 ?_
    refine lv_iload hx hb dX4_two_133 (lv_at hl 8 rfl) ?_
    refine lv_iadd hx hb dX4_two_135 ?_
    refine lv_aload_n hx hb dX4_two_136 rfl (lv_at hl 0 rfl) ?_
    refine lv_iload_n hx hb dX4_two_137 rfl (lv_at hl 1 rfl) ?_
    refine lv_iload hx hb dX4_two_138 (lv_at hl 4 rfl) ?_
    refine wt_callVi (As := [.int x1, .int x4]) (rest := [.int (((6 : Int32) * x8) + x9), .ref (B + 119)]) hx hb hml hts hown hK hM wt_rc_X4 cw_X4_260 hd_X4_worthAnew rfl ⟨qz_b rfl, qz_b rfl⟩ ⟨rfl, rfl⟩ hl.1 rfl (qz_b rfl) dX4_two_140 hf (fun _ _ h9 => c_X4_worthAnew h9) (fun r5 s6 H locs hf hM => ?_)
    obtain ⟨i7, hf⟩ := wt_chk_of hf
    refine wt_ist hx hb hK hM wt_a119 i7 dX4_two_143 hf (fun s8 H locs hf hM => ?_)
    refine lv_aload_n hx hb dX4_two_144 rfl (lv_at hl 0 rfl) ?_
    refine gf_X4_otherHas  hx hb hts hown hK hM tw_742 dX4_two_145 ?_
    refine lv_bipush (v := 6) hx hb dX4_two_148 (by decide) ?_
    refine lv_iload hx hb dX4_two_150 (lv_at hl 7 rfl) ?_
    refine lv_imul hx hb dX4_two_152 ?_
    refine lv_iload hx hb dX4_two_153 (lv_at hl 8 rfl) ?_
    refine lv_iadd hx hb dX4_two_155 ?_
    refine lv_aload_n hx hb dX4_two_156 rfl (lv_at hl 0 rfl) ?_
    refine lv_iload_n hx hb dX4_two_157 rfl (lv_at hl 2 rfl) ?_
    refine lv_iload hx hb dX4_two_158 (lv_at hl 4 rfl) ?_
    refine wt_callVi (As := [.int x2, .int x4]) (rest := [.int (((6 : Int32) * x8) + x9), .ref (B + 120)]) hx hb hml hts hown hK hM wt_rc_X4 cw_X4_137 hd_X4_worthIn rfl ⟨qz_b rfl, qz_b rfl⟩ ⟨rfl, rfl⟩ hl.1 rfl (qz_b rfl) dX4_two_160 hf (fun _ _ h9 => c_X4_worthIn h9) (fun r9 s10 H locs hf hM => ?_)
    refine wt_ist hx hb hK hM wt_a120 i7 dX4_two_163 hf (fun s11 H locs hf hM => ?_)
    refine lv_iinc (v := (x9 + (1 : Int32))) (lv' := [(9, .int (x9 + (1 : Int32))), (0, .ref (B + 101)), (1, .int x1), (2, .int x2), (3, .int x3), (4, .int x4), (6, .int x6), (7, .int x7), (8, .int x8)]) hx hb dX4_two_164 hl (k := 8) rfl rfl (by decide) rfl (fun ls hl => ?_)
    refine lv_goto (tgt := 89) hx hb dX4_two_167 (by decide) ?_
    exact ih _ _ _ _ _ hf hM (lv_sub hl [1, 2, 3, 4, 5, 6, 7, 8, 0] rfl)
set_option maxHeartbeats 4000000 in
set_option maxRecDepth 100000 in
theorem w_X4_two_205 (C : wt_C p s m args meth c RX4 cX4_two 10 (some .int) D tI tII) {F : Nat} {r : Int32} {σ' : Mem} : ∀ (N : Nat) (x8 : Int32) (σ : Mem) (H : Heap) (locs : List Loc) (ls : Array Slot), lp_X4_two_205 F N x8 σ = some (r, σ') → wt_St D tI tII B σ s H locs → lv_has ls 10 [(0, .ref (B + 101)), (8, .int x8)] → W p l e rm_X4_two s m args below meth c H locs 0 0 (MQ below (wt_Qi D tI tII B r σ') args s 0 0 (fun q => B ≤ q)) (F0 m 205 ls []) := by
  obtain ⟨hx, hb, hts, hown, hml, hr, hlk, hK⟩ := id C
  intro N
  induction N with
  | zero => intro x8 σ H locs ls hf; exact wt_none (show (none : Option (Int32 × Mem)) = some (r, σ') from hf)
  | succ N ih =>
    intro x8 σ H locs ls hf hM hl
    replace hf := Eq.trans lp_X4_two_205_s.symm hf
    refine lv_iload hx hb dX4_two_205 (lv_at hl 1 rfl) ?_
    refine lv_bipush (v := 36) hx hb dX4_two_207 (by decide) ?_
    refine wq_icmp_ge (tgt := 242) hx hb dX4_two_209 (by decide) hf (fun hf => ?_) (fun hf => ?_)
    · refine lv_bipush (v := -9) hx hb dX4_two_242 (by decide) ?_
      exact wt_iret hx hb hr hlk hK hM hf dX4_two_244
    refine lv_aload_n hx hb dX4_two_212 rfl (lv_at hl 0 rfl) ?_
    refine lv_iload hx hb dX4_two_213 (lv_at hl 1 rfl) ?_
    refine wt_callVi (As := [.int x8]) (rest := []) hx hb hml hts hown hK hM wt_rc_X4 cw_X4_276 hd_X4_areResting rfl ⟨qz_b rfl, qz_b rfl⟩ ⟨rfl, rfl⟩ hl.1 rfl (qz_b rfl) dX4_two_215 hf (fun _ _ h9 => c_X4_areResting h9) (fun r12 s13 H locs hf hM => ?_)
    refine wq_if_eq (tgt := 236) hx hb dX4_two_218 (by decide) hf (fun hf => ?_) (fun hf => ?_)
    · refine lv_iinc (v := (x8 + (1 : Int32))) (lv' := [(8, .int (x8 + (1 : Int32))), (0, .ref (B + 101))]) hx hb dX4_two_236 hl (k := 1) rfl rfl (by decide) rfl (fun ls hl => ?_)
      refine lv_goto (tgt := 205) hx hb dX4_two_239 (by decide) ?_
      exact ih _ _ _ _ _ hf hM (lv_sub hl [1, 0] rfl)
    refine lv_bipush (v := 10) hx hb dX4_two_221 (by decide) ?_
    refine lv_iload hx hb dX4_two_223 (lv_at hl 1 rfl) ?_
    refine lv_bipush (v := 6) hx hb dX4_two_225 (by decide) ?_
    refine lv_idiv hx hb dX4_two_227 (by decide) ?_
    refine lv_imul hx hb dX4_two_228 ?_
    refine lv_iload hx hb dX4_two_229 (lv_at hl 1 rfl) ?_
    refine lv_bipush (v := 6) hx hb dX4_two_231 (by decide) ?_
    refine lv_irem hx hb dX4_two_233 (by decide) ?_
    refine lv_iadd hx hb dX4_two_234 ?_
    exact wt_iret hx hb hr hlk hK hM hf dX4_two_235
set_option maxHeartbeats 4000000 in
set_option maxRecDepth 100000 in
theorem w_X4_two_77 (C : wt_C p s m args meth c RX4 cX4_two 10 (some .int) D tI tII) {F : Nat} {x1 : Int32} {x2 : Int32} {x3 : Int32} {x4 : Int32} {x6 : Int32} {x7 : Int32} {r : Int32} {σ' : Mem} : ∀ (N : Nat) (x8 : Int32) (σ : Mem) (H : Heap) (locs : List Loc) (ls : Array Slot), lp_X4_two_77 F x1 x2 x3 x4 x6 x7 N x8 σ = some (r, σ') → wt_St D tI tII B σ s H locs → lv_has ls 10 [(0, .ref (B + 101)), (1, .int x1), (2, .int x2), (3, .int x3), (4, .int x4), (6, .int x6), (7, .int x7), (8, .int x8)] → W p l e rm_X4_two s m args below meth c H locs 0 0 (MQ below (wt_Qi D tI tII B r σ') args s 0 0 (fun q => B ≤ q)) (F0 m 77 ls []) := by
  obtain ⟨hx, hb, hts, hown, hml, hr, hlk, hK⟩ := id C
  intro N
  induction N with
  | zero => intro x8 σ H locs ls hf; exact wt_none (show (none : Option (Int32 × Mem)) = some (r, σ') from hf)
  | succ N ih =>
    intro x8 σ H locs ls hf hM hl
    replace hf := Eq.trans lp_X4_two_77_s.symm hf
    refine lv_iload hx hb dX4_two_77 (lv_at hl 7 rfl) ?_
    refine lv_aload_n hx hb dX4_two_79 rfl (lv_at hl 0 rfl) ?_
    refine gf_X4_panes  hx hb hts hown hK hM tw_711 dX4_two_80 ?_
    refine wq_icmp_ge (tgt := 176) hx hb dX4_two_83 (by decide) hf (fun hf => ?_) (fun hf => ?_)
    · refine lv_aload_n hx hb dX4_two_176 rfl (lv_at hl 0 rfl) ?_
      refine gf_X4_rosters  hx hb hts hown hK hM tw_716 dX4_two_177 ?_
      refine lv_bipush (v := 24) hx hb dX4_two_180 (by decide) ?_
      refine lv_iload_n hx hb dX4_two_182 rfl (lv_at hl 1 rfl) ?_
      refine lv_imul hx hb dX4_two_183 ?_
      refine lv_iload_n hx hb dX4_two_184 rfl (lv_at hl 3 rfl) ?_
      refine lv_iadd hx hb dX4_two_185 ?_
      refine lv_iload hx hb dX4_two_186 (lv_at hl 5 rfl) ?_
      obtain ⟨i14, hf⟩ := wt_chk_of hf
      refine wt_ist hx hb hK hM wt_a106 i14 dX4_two_188 hf (fun s15 H locs hf hM => ?_)
      refine lv_aload_n hx hb dX4_two_189 rfl (lv_at hl 0 rfl) ?_
      refine gf_X4_rosters  hx hb hts hown hK hM tw_716 dX4_two_190 ?_
      refine lv_bipush (v := 24) hx hb dX4_two_193 (by decide) ?_
      refine lv_iload_n hx hb dX4_two_195 rfl (lv_at hl 2 rfl) ?_
      refine lv_imul hx hb dX4_two_196 ?_
      refine lv_iload_n hx hb dX4_two_197 rfl (lv_at hl 3 rfl) ?_
      refine lv_iadd hx hb dX4_two_198 ?_
      refine lv_iload hx hb dX4_two_199 (lv_at hl 6 rfl) ?_
      obtain ⟨i16, hf⟩ := wt_chk_of hf
      refine wt_ist hx hb hK hM wt_a106 i16 dX4_two_201 hf (fun s17 H locs hf hM => ?_)
      refine lv_iconst (v := 0) hx hb dX4_two_202 (by decide) ?_
      refine lv_istore (lv' := [(8, .int (0 : Int32)), (0, .ref (B + 101)), (1, .int x1), (2, .int x2), (3, .int x3), (4, .int x4), (6, .int x6), (7, .int x7)]) hx hb dX4_two_203 hl (by decide) rfl (fun ls hl => ?_)
      exact w_X4_two_205 C _ _ _ _ _ _ hf hM (lv_sub hl [1, 0] rfl)
    refine lv_iconst (v := 0) hx hb dX4_two_86 (by decide) ?_
    refine lv_istore (lv' := [(9, .int (0 : Int32)), (0, .ref (B + 101)), (1, .int x1), (2, .int x2), (3, .int x3), (4, .int x4), (6, .int x6), (7, .int x7), (8, .int x8)]) hx hb dX4_two_87 hl (by decide) rfl (fun ls hl => ?_)
    exact w_X4_two_89 C ih _ _ _ _ _ _ hf hM (lv_sub hl [1, 2, 3, 4, 5, 6, 7, 8, 0] rfl)
set_option maxHeartbeats 4000000 in
set_option maxRecDepth 100000 in
theorem w_X4_two_34 (C : wt_C p s m args meth c RX4 cX4_two 10 (some .int) D tI tII) {F : Nat} {x1 : Int32} {x2 : Int32} {x3 : Int32} {x4 : Int32} {t0 : Int32} {σ : Mem} {r : Int32} {σ' : Mem} {H : Heap} {locs : List Loc} {ls : Array Slot} (hf : j_X4_two_34 F x1 x2 x3 x4 t0 σ = some (r, σ')) (hM : wt_St D tI tII B σ s H locs) (hl : lv_has ls 10 [(0, .ref (B + 101)), (1, .int x1), (2, .int x2), (3, .int x3), (4, .int x4)]) : W p l e rm_X4_two s m args below meth c H locs 0 0 (MQ below (wt_Qi D tI tII B r σ') args s 0 0 (fun q => B ≤ q)) (F0 m 34 ls [.int t0]) := by
  obtain ⟨hx, hb, hts, hown, hml, hr, hlk, hK⟩ := id C
  replace hf := Eq.trans j_X4_two_34_e.symm hf
  refine lv_istore (lv' := [(5, .int t0), (0, .ref (B + 101)), (1, .int x1), (2, .int x2), (3, .int x3), (4, .int x4)]) hx hb dX4_two_34 hl (by decide) rfl (fun ls hl => ?_)
  refine lv_iload hx hb dX4_two_36 (lv_at hl 0 rfl) ?_
  refine wq_if_ge (tgt := 48) hx hb dX4_two_38 (by decide) hf (fun hf => ?_) (fun hf => ?_)
  · refine lv_aload_n hx hb dX4_two_48 rfl (lv_at hl 1 rfl) ?_
    refine gf_X4_rosters  hx hb hts hown hK hM tw_716 dX4_two_49 ?_
    refine lv_bipush (v := 24) hx hb dX4_two_52 (by decide) ?_
    refine lv_iload_n hx hb dX4_two_54 rfl (lv_at hl 2 rfl) ?_
    refine lv_imul hx hb dX4_two_55 ?_
    refine lv_iload_n hx hb dX4_two_56 rfl (lv_at hl 4 rfl) ?_
    refine lv_iadd hx hb dX4_two_57 ?_
    obtain ⟨i18, hf⟩ := wt_chk_of hf
    refine wt_ild hx hb hK hM wt_a106 i18 dX4_two_58 ?_
    refine wt_leti hf (fun z19 hf => ?_)
    refine lv_istore (lv' := [(6, .int z19), (5, .int t0), (0, .ref (B + 101)), (1, .int x1), (2, .int x2), (3, .int x3), (4, .int x4)]) hx hb dX4_two_59 hl (by decide) rfl (fun ls hl => ?_)
    refine lv_aload_n hx hb dX4_two_61 rfl (lv_at hl 2 rfl) ?_
    refine gf_X4_rosters  hx hb hts hown hK hM tw_716 dX4_two_62 ?_
    refine lv_bipush (v := 24) hx hb dX4_two_65 (by decide) ?_
    refine lv_iload_n hx hb dX4_two_67 rfl (lv_at hl 4 rfl) ?_
    refine lv_imul hx hb dX4_two_68 ?_
    refine lv_iload_n hx hb dX4_two_69 rfl (lv_at hl 5 rfl) ?_
    refine lv_iadd hx hb dX4_two_70 ?_
    obtain ⟨i20, hf⟩ := wt_chk_of hf
    refine wt_ild hx hb hK hM wt_a106 i20 dX4_two_71 ?_
    refine wt_leti hf (fun z21 hf => ?_)
    refine lv_istore (lv' := [(7, .int z21), (6, .int z19), (5, .int t0), (0, .ref (B + 101)), (1, .int x1), (2, .int x2), (3, .int x3), (4, .int x4)]) hx hb dX4_two_72 hl (by decide) rfl (fun ls hl => ?_)
    refine lv_iconst (v := 0) hx hb dX4_two_74 (by decide) ?_
    refine lv_istore (lv' := [(8, .int (0 : Int32)), (7, .int z21), (6, .int z19), (5, .int t0), (0, .ref (B + 101)), (1, .int x1), (2, .int x2), (3, .int x3), (4, .int x4)]) hx hb dX4_two_75 hl (by decide) rfl (fun ls hl => ?_)
    exact w_X4_two_77 C _ _ _ _ _ _ hf hM (lv_sub hl [4, 5, 6, 7, 8, 2, 1, 0] rfl)
  refine lv_aload_n hx hb dX4_two_41 rfl (lv_at hl 1 rfl) ?_
  refine lv_iload hx hb dX4_two_42 (lv_at hl 0 rfl) ?_
  refine wt_callVi (As := [.int t0]) (rest := []) hx hb hml hts hown hK hM wt_rc_X4 cw_X4_143 hd_X4_refuse rfl ⟨qz_b rfl, qz_b rfl⟩ ⟨rfl, rfl⟩ hl.1 rfl (qz_b rfl) dX4_two_44 hf (fun _ _ h9 => c_X4_refuse h9) (fun r22 s23 H locs hf hM => ?_)
  exact wt_iret hx hb hr hlk hK hM hf dX4_two_47
set_option maxHeartbeats 4000000 in
set_option maxRecDepth 100000 in
theorem w_X4_two_33 (C : wt_C p s m args meth c RX4 cX4_two 10 (some .int) D tI tII) {F : Nat} {x1 : Int32} {x2 : Int32} {x3 : Int32} {x4 : Int32} {σ : Mem} {r : Int32} {σ' : Mem} {H : Heap} {locs : List Loc} {ls : Array Slot} (hf : j_X4_two_33 F x1 x2 x3 x4 σ = some (r, σ')) (hM : wt_St D tI tII B σ s H locs) (hl : lv_has ls 10 [(0, .ref (B + 101)), (1, .int x1), (2, .int x2), (3, .int x3), (4, .int x4)]) : W p l e rm_X4_two s m args below meth c H locs 0 0 (MQ below (wt_Qi D tI tII B r σ') args s 0 0 (fun q => B ≤ q)) (F0 m 33 ls []) := by
  obtain ⟨hx, hb, hts, hown, hml, hr, hlk, hK⟩ := id C
  replace hf := Eq.trans j_X4_two_33_e.symm hf
  refine lv_iconst (v := -1) hx hb dX4_two_33 (by decide) ?_
  exact w_X4_two_34 C hf hM hl
set_option maxHeartbeats 4000000 in
set_option maxRecDepth 100000 in
theorem w_X4_two_0 (C : wt_C p s m args meth c RX4 cX4_two 10 (some .int) D tI tII) {F : Nat} {x1 : Int32} {x2 : Int32} {x3 : Int32} {x4 : Int32} {σ : Mem} {r : Int32} {σ' : Mem} {H : Heap} {locs : List Loc} {ls : Array Slot} (hf : f_X4_two F x1 x2 x3 x4 σ = some (r, σ')) (hM : wt_St D tI tII B σ s H locs) (hl : lv_has ls 10 [(0, .ref (B + 101)), (1, .int x1), (2, .int x2), (3, .int x3), (4, .int x4)]) : W p l e rm_X4_two s m args below meth c H locs 0 0 (MQ below (wt_Qi D tI tII B r σ') args s 0 0 (fun q => B ≤ q)) (F0 m 0 ls []) := by
  obtain ⟨hx, hb, hts, hown, hml, hr, hlk, hK⟩ := id C
  replace hf := Eq.trans f_X4_two_e.symm hf
  refine lv_aload_n hx hb dX4_two_0 rfl (lv_at hl 0 rfl) ?_
  refine lv_iconst (v := 0) hx hb dX4_two_1 (by decide) ?_
  refine pf_X4_thrown  hx hb hts hown hK hM tw_720 dX4_two_2 hf (fun s24 H locs hf hM => ?_)
  refine lv_aload_n hx hb dX4_two_5 rfl (lv_at hl 0 rfl) ?_
  refine lv_iload_n hx hb dX4_two_6 rfl (lv_at hl 1 rfl) ?_
  refine lv_iload_n hx hb dX4_two_7 rfl (lv_at hl 2 rfl) ?_
  refine wt_callVi (As := [.int x1, .int x2]) (rest := []) hx hb hml hts hown hK hM wt_rc_X4 cw_X4_257 hd_X4_areTwo rfl ⟨qz_b rfl, qz_b rfl⟩ ⟨rfl, rfl⟩ hl.1 rfl (qz_b rfl) dX4_two_8 hf (fun _ _ h9 => c_X4_areTwo h9) (fun r25 s26 H locs hf hM => ?_)
  refine wq_if_eq (tgt := 33) hx hb dX4_two_11 (by decide) hf (fun hf => ?_) (fun hf => ?_)
  · exact w_X4_two_33 C hf hM hl
  refine lv_iload_n hx hb dX4_two_14 rfl (lv_at hl 3 rfl) ?_
  refine wt_callSi (As := [.int x3]) (rest := []) hx hb hml hts hown hK hM cw_X4_237 hd_X4_isHour rfl ⟨qz_b rfl, qz_b rfl⟩ ⟨rfl, rfl⟩ hl.1 rfl (qz_b rfl) dX4_two_15 hf (fun _ _ h9 => c_X4_isHour h9) (fun r27 s28 H locs hf hM => ?_)
  refine wq_if_eq (tgt := 33) hx hb dX4_two_18 (by decide) hf (fun hf => ?_) (fun hf => ?_)
  · exact w_X4_two_33 C hf hM hl
  refine lv_iload hx hb dX4_two_21 (lv_at hl 4 rfl) ?_
  refine lv_iconst (v := 0) hx hb dX4_two_23 (by decide) ?_
  refine lv_sipush (v := 999) hx hb dX4_two_24 (by decide) ?_
  refine wt_callSi (As := [.int x4, .int (0 : Int32), .int (999 : Int32)]) (rest := []) hx hb hml hts hown hK hM cw_X4_231 hd_X4_wrongNumber rfl ⟨qz_b rfl, qz_b rfl⟩ ⟨rfl, rfl⟩ hl.1 rfl (qz_b rfl) dX4_two_27 hf (fun _ _ h9 => c_X4_wrongNumber h9) (fun r29 s30 H locs hf hM => ?_)
  refine lv_goto (tgt := 34) hx hb dX4_two_30 (by decide) ?_
  exact w_X4_two_34 C hf hM hl
end
set_option maxHeartbeats 4000000 in
set_option maxRecDepth 100000 in
theorem c_X4_two {l : Launch} {D : va_G} {tI tII : ClassId} {B F : Nat} {x1 : Int32} {x2 : Int32} {x3 : Int32} {x4 : Int32} {σ σ' : Mem} {r : Int32} (hf : f_X4_two F x1 x2 x3 x4 σ = some (r, σ')) : wt_Mi l yX4_two cX4_two 10 (some .int) rm_X4_two [.ref (B + 101), .int x1, .int x2, .int x3, .int x4] D tI tII B σ r σ' := by
  refine Met.ofW (cc := cX4_two) (maxL := 10) (ret := (some .int)) (by decide) rfl ?_
  intro p e s m args below meth c s₁ B9 hml hv
  obtain ⟨rfl, hP, hK⟩ := hv
  have hl := lv_entry ([.ref (B + 101), .int x1, .int x2, .int x3, .int x4]) (n := 10) (qz_b rfl)
  rw [lg_entry_eq]
  generalize (lg_sl ([.ref (B + 101), .int x1, .int x2, .int x3, .int x4]) ++ List.replicate (10 - (lg_sl ([.ref (B + 101), .int x1, .int x2, .int x3, .int x4])).length) Slot.unset).toArray = ls at hl ⊢
  exact w_X4_two_0 (wt_C_of B9 hml hK) hf ⟨hP, va_S.rf⟩ hl
