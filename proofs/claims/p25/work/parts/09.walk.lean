theorem dX3_walls_0 : decode cX3_walls 0 = .ok (.aload_n 0, 1) := qd_p qo_42 (by decide +kernel)
theorem dX3_walls_1 : decode cX3_walls 1 = .ok (.iload_n 1, 1) := qd_p qo_27 (by decide +kernel)
theorem dX3_walls_2 : decode cX3_walls 2 = .ok (.iload_n 2, 1) := qd_p qo_28 (by decide +kernel)
theorem dX3_walls_3 : decode cX3_walls 3 = .ok (.invokevirtual 226, 3) := qz_2 .invokevirtual 0 226 qo_182 (by decide +kernel) rfl
theorem dX3_walls_6 : decode cX3_walls 6 = .ok (.iload_n 3, 1) := qd_p qo_29 (by decide +kernel)
theorem dX3_walls_7 : decode cX3_walls 7 = .ok (.iconst 2, 1) := qd_p qo_5 (by decide +kernel)
theorem dX3_walls_8 : decode cX3_walls 8 = .ok (.invokestatic 123, 3) := qz_2 .invokestatic 0 123 qo_184 (by decide +kernel) rfl
theorem dX3_walls_11 : decode cX3_walls 11 = .ok (.invokestatic 85, 3) := qz_2 .invokestatic 0 85 qo_184 (by decide +kernel) rfl
theorem dX3_walls_14 : decode cX3_walls 14 = .ok (.istore 4, 2) := qz_1 .istore 4 qo_54 (by decide +kernel)
theorem dX3_walls_16 : decode cX3_walls 16 = .ok (.iload 4, 2) := qz_1 .iload 4 qo_21 (by decide +kernel)
theorem dX3_walls_18 : decode cX3_walls 18 = .ok (.ifCond .eq 10, 3) := qz_s2 (.ifCond .eq) 0 10 qo_153 (by decide +kernel) rfl
theorem dX3_walls_21 : decode cX3_walls 21 = .ok (.aload_n 0, 1) := qd_p qo_42 (by decide +kernel)
theorem dX3_walls_22 : decode cX3_walls 22 = .ok (.iload 4, 2) := qz_1 .iload 4 qo_21 (by decide +kernel)
theorem dX3_walls_24 : decode cX3_walls 24 = .ok (.invokevirtual 61, 3) := qz_2 .invokevirtual 0 61 qo_182 (by decide +kernel) rfl
theorem dX3_walls_27 : decode cX3_walls 27 = .ok (.ireturn, 1) := qd_p qo_172 (by decide +kernel)
theorem dX3_walls_28 : decode cX3_walls 28 = .ok (.aload_n 0, 1) := qd_p qo_42 (by decide +kernel)
theorem dX3_walls_29 : decode cX3_walls 29 = .ok (.getfield 10, 3) := qz_2 .getfield 0 10 qo_180 (by decide +kernel) rfl
theorem dX3_walls_32 : decode cX3_walls 32 = .ok (.invokevirtual 141, 3) := qz_2 .invokevirtual 0 141 qo_182 (by decide +kernel) rfl
theorem dX3_walls_35 : decode cX3_walls 35 = .ok (.aload_n 0, 1) := qd_p qo_42 (by decide +kernel)
theorem dX3_walls_36 : decode cX3_walls 36 = .ok (.getfield 16, 3) := qz_2 .getfield 0 16 qo_180 (by decide +kernel) rfl
theorem dX3_walls_39 : decode cX3_walls 39 = .ok (.aload_n 0, 1) := qd_p qo_42 (by decide +kernel)
theorem dX3_walls_40 : decode cX3_walls 40 = .ok (.getfield 10, 3) := qz_2 .getfield 0 10 qo_180 (by decide +kernel) rfl
theorem dX3_walls_43 : decode cX3_walls 43 = .ok (.invokevirtual 106, 3) := qz_2 .invokevirtual 0 106 qo_182 (by decide +kernel) rfl
theorem dX3_walls_46 : decode cX3_walls 46 = .ok (.aload_n 0, 1) := qd_p qo_42 (by decide +kernel)
theorem dX3_walls_47 : decode cX3_walls 47 = .ok (.getfield 10, 3) := qz_2 .getfield 0 10 qo_180 (by decide +kernel) rfl
theorem dX3_walls_50 : decode cX3_walls 50 = .ok (.iload_n 1, 1) := qd_p qo_27 (by decide +kernel)
theorem dX3_walls_51 : decode cX3_walls 51 = .ok (.iload_n 2, 1) := qd_p qo_28 (by decide +kernel)
theorem dX3_walls_52 : decode cX3_walls 52 = .ok (.invokevirtual 229, 3) := qz_2 .invokevirtual 0 229 qo_182 (by decide +kernel) rfl
theorem dX3_walls_55 : decode cX3_walls 55 = .ok (.istore 5, 2) := qz_1 .istore 5 qo_54 (by decide +kernel)
theorem dX3_walls_57 : decode cX3_walls 57 = .ok (.bipush (-9), 2) := qz_s1 .bipush 247 qo_16 (by decide +kernel) rfl
theorem dX3_walls_59 : decode cX3_walls 59 = .ok (.istore 6, 2) := qz_1 .istore 6 qo_54 (by decide +kernel)
theorem dX3_walls_61 : decode cX3_walls 61 = .ok (.iconst 0, 1) := qd_p qo_3 (by decide +kernel)
theorem dX3_walls_62 : decode cX3_walls 62 = .ok (.istore 7, 2) := qz_1 .istore 7 qo_54 (by decide +kernel)
theorem dX3_walls_64 : decode cX3_walls 64 = .ok (.iconst 0, 1) := qd_p qo_3 (by decide +kernel)
theorem dX3_walls_65 : decode cX3_walls 65 = .ok (.istore 8, 2) := qz_1 .istore 8 qo_54 (by decide +kernel)
theorem dX3_walls_67 : decode cX3_walls 67 = .ok (.iload 8, 2) := qz_1 .iload 8 qo_21 (by decide +kernel)
theorem dX3_walls_69 : decode cX3_walls 69 = .ok (.aload_n 0, 1) := qd_p qo_42 (by decide +kernel)
theorem dX3_walls_70 : decode cX3_walls 70 = .ok (.getfield 10, 3) := qz_2 .getfield 0 10 qo_180 (by decide +kernel) rfl
theorem dX3_walls_73 : decode cX3_walls 73 = .ok (.getfield 147, 3) := qz_2 .getfield 0 147 qo_180 (by decide +kernel) rfl
theorem dX3_walls_76 : decode cX3_walls 76 = .ok (.if_icmp .ge 79, 3) := qz_s2 (.if_icmp .ge) 0 79 qo_162 (by decide +kernel) rfl
theorem dX3_walls_79 : decode cX3_walls 79 = .ok (.iconst 0, 1) := qd_p qo_3 (by decide +kernel)
theorem dX3_walls_80 : decode cX3_walls 80 = .ok (.istore 9, 2) := qz_1 .istore 9 qo_54 (by decide +kernel)
theorem dX3_walls_82 : decode cX3_walls 82 = .ok (.iload 9, 2) := qz_1 .iload 9 qo_21 (by decide +kernel)
theorem dX3_walls_84 : decode cX3_walls 84 = .ok (.bipush 8, 2) := qz_s1 .bipush 8 qo_16 (by decide +kernel) rfl
theorem dX3_walls_86 : decode cX3_walls 86 = .ok (.if_icmp .ge 63, 3) := qz_s2 (.if_icmp .ge) 0 63 qo_162 (by decide +kernel) rfl
theorem dX3_walls_89 : decode cX3_walls 89 = .ok (.aload_n 0, 1) := qd_p qo_42 (by decide +kernel)
theorem dX3_walls_90 : decode cX3_walls 90 = .ok (.getfield 10, 3) := qz_2 .getfield 0 10 qo_180 (by decide +kernel) rfl
theorem dX3_walls_93 : decode cX3_walls 93 = .ok (.iload 8, 2) := qz_1 .iload 8 qo_21 (by decide +kernel)
theorem dX3_walls_95 : decode cX3_walls 95 = .ok (.iload 9, 2) := qz_1 .iload 9 qo_21 (by decide +kernel)
theorem dX3_walls_97 : decode cX3_walls 97 = .ok (.invokevirtual 184, 3) := qz_2 .invokevirtual 0 184 qo_182 (by decide +kernel) rfl
theorem dX3_walls_100 : decode cX3_walls 100 = .ok (.ifCond .eq 19, 3) := qz_s2 (.ifCond .eq) 0 19 qo_153 (by decide +kernel) rfl
theorem dX3_walls_103 : decode cX3_walls 103 = .ok (.iload 5, 2) := qz_1 .iload 5 qo_21 (by decide +kernel)
theorem dX3_walls_105 : decode cX3_walls 105 = .ok (.aload_n 0, 1) := qd_p qo_42 (by decide +kernel)
theorem dX3_walls_106 : decode cX3_walls 106 = .ok (.iload_n 1, 1) := qd_p qo_27 (by decide +kernel)
theorem dX3_walls_107 : decode cX3_walls 107 = .ok (.iload 8, 2) := qz_1 .iload 8 qo_21 (by decide +kernel)
theorem dX3_walls_109 : decode cX3_walls 109 = .ok (.iload 9, 2) := qz_1 .iload 9 qo_21 (by decide +kernel)
theorem dX3_walls_111 : decode cX3_walls 111 = .ok (.iload_n 2, 1) := qd_p qo_28 (by decide +kernel)
theorem dX3_walls_112 : decode cX3_walls 112 = .ok (.invokevirtual 257, 3) := qz_2 .invokevirtual 1 1 qo_182 (by decide +kernel) rfl
theorem dX3_walls_115 : decode cX3_walls 115 = .ok (.isub, 1) := qd_p qo_100 (by decide +kernel)
theorem dX3_walls_116 : decode cX3_walls 116 = .ok (.goto 4, 3) := qz_s2 .goto 0 4 qo_167 (by decide +kernel) rfl
theorem dX3_walls_119 : decode cX3_walls 119 = .ok (.iconst 0, 1) := qd_p qo_3 (by decide +kernel)
theorem dX3_walls_120 : decode cX3_walls 120 = .ok (.istore 10, 2) := qz_1 .istore 10 qo_54 (by decide +kernel)
theorem dX3_walls_122 : decode cX3_walls 122 = .ok (.iload 10, 2) := qz_1 .iload 10 qo_21 (by decide +kernel)
theorem dX3_walls_124 : decode cX3_walls 124 = .ok (.iload 7, 2) := qz_1 .iload 7 qo_21 (by decide +kernel)
theorem dX3_walls_126 : decode cX3_walls 126 = .ok (.if_icmp .le 17, 3) := qz_s2 (.if_icmp .le) 0 17 qo_164 (by decide +kernel) rfl
theorem dX3_walls_129 : decode cX3_walls 129 = .ok (.iload 10, 2) := qz_1 .iload 10 qo_21 (by decide +kernel)
theorem dX3_walls_131 : decode cX3_walls 131 = .ok (.istore 7, 2) := qz_1 .istore 7 qo_54 (by decide +kernel)
theorem dX3_walls_133 : decode cX3_walls 133 = .ok (.bipush 10, 2) := qz_s1 .bipush 10 qo_16 (by decide +kernel) rfl
theorem dX3_walls_135 : decode cX3_walls 135 = .ok (.iload 8, 2) := qz_1 .iload 8 qo_21 (by decide +kernel)
theorem dX3_walls_137 : decode cX3_walls 137 = .ok (.imul, 1) := qd_p qo_104 (by decide +kernel)
theorem dX3_walls_138 : decode cX3_walls 138 = .ok (.iload 9, 2) := qz_1 .iload 9 qo_21 (by decide +kernel)
theorem dX3_walls_140 : decode cX3_walls 140 = .ok (.iadd, 1) := qd_p qo_96 (by decide +kernel)
theorem dX3_walls_141 : decode cX3_walls 141 = .ok (.istore 6, 2) := qz_1 .istore 6 qo_54 (by decide +kernel)
theorem dX3_walls_143 : decode cX3_walls 143 = .ok (.iinc 9 1, 3) := qd_i (x := 9) (y := 1) qo_132 (by decide +kernel) rfl
theorem dX3_walls_146 : decode cX3_walls 146 = .ok (.goto (-64), 3) := qz_s2 .goto 255 192 qo_167 (by decide +kernel) rfl
theorem dX3_walls_149 : decode cX3_walls 149 = .ok (.iinc 8 1, 3) := qd_i (x := 8) (y := 1) qo_132 (by decide +kernel) rfl
theorem dX3_walls_152 : decode cX3_walls 152 = .ok (.goto (-85), 3) := qz_s2 .goto 255 171 qo_167 (by decide +kernel) rfl
theorem dX3_walls_155 : decode cX3_walls 155 = .ok (.iload_n 3, 1) := qd_p qo_29 (by decide +kernel)
theorem dX3_walls_156 : decode cX3_walls 156 = .ok (.ifCond .eq 10, 3) := qz_s2 (.ifCond .eq) 0 10 qo_153 (by decide +kernel) rfl
theorem dX3_walls_159 : decode cX3_walls 159 = .ok (.iload 6, 2) := qz_1 .iload 6 qo_21 (by decide +kernel)
theorem dX3_walls_161 : decode cX3_walls 161 = .ok (.bipush (-9), 2) := qz_s1 .bipush 247 qo_16 (by decide +kernel) rfl
theorem dX3_walls_163 : decode cX3_walls 163 = .ok (.if_icmp .ne 8, 3) := qz_s2 (.if_icmp .ne) 0 8 qo_160 (by decide +kernel) rfl
theorem dX3_walls_166 : decode cX3_walls 166 = .ok (.iload 6, 2) := qz_1 .iload 6 qo_21 (by decide +kernel)
theorem dX3_walls_168 : decode cX3_walls 168 = .ok (.goto 5, 3) := qz_s2 .goto 0 5 qo_167 (by decide +kernel) rfl
theorem dX3_walls_171 : decode cX3_walls 171 = .ok (.iload 7, 2) := qz_1 .iload 7 qo_21 (by decide +kernel)
theorem dX3_walls_173 : decode cX3_walls 173 = .ok (.ireturn, 1) := qd_p qo_172 (by decide +kernel)
theorem dX3_commonDivisor_0 : decode cX3_commonDivisor 0 = .ok (.lload_n 0, 1) := qd_p qo_30 (by decide +kernel)
theorem dX3_commonDivisor_1 : decode cX3_commonDivisor 1 = .ok (.lstore 4, 2) := qz_1 .lstore 4 qo_55 (by decide +kernel)
theorem dX3_commonDivisor_3 : decode cX3_commonDivisor 3 = .ok (.lload_n 2, 1) := qd_p qo_32 (by decide +kernel)
theorem dX3_commonDivisor_4 : decode cX3_commonDivisor 4 = .ok (.lstore 6, 2) := qz_1 .lstore 6 qo_55 (by decide +kernel)
theorem dX3_commonDivisor_6 : decode cX3_commonDivisor 6 = .ok (.iconst 0, 1) := qd_p qo_3 (by decide +kernel)
theorem dX3_commonDivisor_7 : decode cX3_commonDivisor 7 = .ok (.istore 8, 2) := qz_1 .istore 8 qo_54 (by decide +kernel)
theorem dX3_commonDivisor_9 : decode cX3_commonDivisor 9 = .ok (.iload 8, 2) := qz_1 .iload 8 qo_21 (by decide +kernel)
theorem dX3_commonDivisor_11 : decode cX3_commonDivisor 11 = .ok (.sipush 200, 3) := qz_s2 .sipush 0 200 qo_17 (by decide +kernel) rfl
theorem dX3_commonDivisor_14 : decode cX3_commonDivisor 14 = .ok (.if_icmp .ge 31, 3) := qz_s2 (.if_icmp .ge) 0 31 qo_162 (by decide +kernel) rfl
theorem dX3_commonDivisor_17 : decode cX3_commonDivisor 17 = .ok (.lload 6, 2) := qz_1 .lload 6 qo_22 (by decide +kernel)
theorem dX3_commonDivisor_19 : decode cX3_commonDivisor 19 = .ok (.lconst 0, 1) := qd_p qo_9 (by decide +kernel)
theorem dX3_commonDivisor_20 : decode cX3_commonDivisor 20 = .ok (.lcmp, 1) := qd_p qo_148 (by decide +kernel)
theorem dX3_commonDivisor_21 : decode cX3_commonDivisor 21 = .ok (.ifCond .eq 24, 3) := qz_s2 (.ifCond .eq) 0 24 qo_153 (by decide +kernel) rfl
theorem dX3_commonDivisor_24 : decode cX3_commonDivisor 24 = .ok (.lload 4, 2) := qz_1 .lload 4 qo_22 (by decide +kernel)
theorem dX3_commonDivisor_26 : decode cX3_commonDivisor 26 = .ok (.lload 6, 2) := qz_1 .lload 6 qo_22 (by decide +kernel)
theorem dX3_commonDivisor_28 : decode cX3_commonDivisor 28 = .ok (.lrem, 1) := qd_p qo_113 (by decide +kernel)
theorem dX3_commonDivisor_29 : decode cX3_commonDivisor 29 = .ok (.lstore 9, 2) := qz_1 .lstore 9 qo_55 (by decide +kernel)
theorem dX3_commonDivisor_31 : decode cX3_commonDivisor 31 = .ok (.lload 6, 2) := qz_1 .lload 6 qo_22 (by decide +kernel)
theorem dX3_commonDivisor_33 : decode cX3_commonDivisor 33 = .ok (.lstore 4, 2) := qz_1 .lstore 4 qo_55 (by decide +kernel)
theorem dX3_commonDivisor_35 : decode cX3_commonDivisor 35 = .ok (.lload 9, 2) := qz_1 .lload 9 qo_22 (by decide +kernel)
theorem dX3_commonDivisor_37 : decode cX3_commonDivisor 37 = .ok (.lstore 6, 2) := qz_1 .lstore 6 qo_55 (by decide +kernel)
theorem dX3_commonDivisor_39 : decode cX3_commonDivisor 39 = .ok (.iinc 8 1, 3) := qd_i (x := 8) (y := 1) qo_132 (by decide +kernel) rfl
theorem dX3_commonDivisor_42 : decode cX3_commonDivisor 42 = .ok (.goto (-33), 3) := qz_s2 .goto 255 223 qo_167 (by decide +kernel) rfl
theorem dX3_commonDivisor_45 : decode cX3_commonDivisor 45 = .ok (.lload 4, 2) := qz_1 .lload 4 qo_22 (by decide +kernel)
theorem dX3_commonDivisor_47 : decode cX3_commonDivisor 47 = .ok (.lreturn, 1) := qd_p qo_173 (by decide +kernel)
theorem dX3_fraction_0 : decode cX3_fraction 0 = .ok (.lload_n 0, 1) := qd_p qo_30 (by decide +kernel)
theorem dX3_fraction_1 : decode cX3_fraction 1 = .ok (.lconst 0, 1) := qd_p qo_9 (by decide +kernel)
theorem dX3_fraction_2 : decode cX3_fraction 2 = .ok (.lcmp, 1) := qd_p qo_148 (by decide +kernel)
theorem dX3_fraction_3 : decode cX3_fraction 3 = .ok (.ifCond .le 9, 3) := qz_s2 (.ifCond .le) 0 9 qo_158 (by decide +kernel) rfl
theorem dX3_fraction_6 : decode cX3_fraction 6 = .ok (.lload_n 2, 1) := qd_p qo_32 (by decide +kernel)
theorem dX3_fraction_7 : decode cX3_fraction 7 = .ok (.lconst 0, 1) := qd_p qo_9 (by decide +kernel)
theorem dX3_fraction_8 : decode cX3_fraction 8 = .ok (.lcmp, 1) := qd_p qo_148 (by decide +kernel)
theorem dX3_fraction_9 : decode cX3_fraction 9 = .ok (.ifCond .gt 14, 3) := qz_s2 (.ifCond .gt) 0 14 qo_157 (by decide +kernel) rfl
theorem dX3_fraction_12 : decode cX3_fraction 12 = .ok (.iload 4, 2) := qz_1 .iload 4 qo_21 (by decide +kernel)
theorem dX3_fraction_14 : decode cX3_fraction 14 = .ok (.ifCond .ne 7, 3) := qz_s2 (.ifCond .ne) 0 7 qo_154 (by decide +kernel) rfl
theorem dX3_fraction_17 : decode cX3_fraction 17 = .ok (.lconst 0, 1) := qd_p qo_9 (by decide +kernel)
theorem dX3_fraction_18 : decode cX3_fraction 18 = .ok (.goto 4, 3) := qz_s2 .goto 0 4 qo_167 (by decide +kernel) rfl
theorem dX3_fraction_21 : decode cX3_fraction 21 = .ok (.lconst 1, 1) := qd_p qo_10 (by decide +kernel)
theorem dX3_fraction_22 : decode cX3_fraction 22 = .ok (.lreturn, 1) := qd_p qo_173 (by decide +kernel)
theorem dX3_fraction_23 : decode cX3_fraction 23 = .ok (.lload_n 0, 1) := qd_p qo_30 (by decide +kernel)
theorem dX3_fraction_24 : decode cX3_fraction 24 = .ok (.lload_n 2, 1) := qd_p qo_32 (by decide +kernel)
theorem dX3_fraction_25 : decode cX3_fraction 25 = .ok (.invokestatic 289, 3) := qz_2 .invokestatic 1 33 qo_184 (by decide +kernel) rfl
theorem dX3_fraction_28 : decode cX3_fraction 28 = .ok (.lstore 5, 2) := qz_1 .lstore 5 qo_55 (by decide +kernel)
theorem dX3_fraction_30 : decode cX3_fraction 30 = .ok (.lload 5, 2) := qz_1 .lload 5 qo_22 (by decide +kernel)
theorem dX3_fraction_32 : decode cX3_fraction 32 = .ok (.lconst 0, 1) := qd_p qo_9 (by decide +kernel)
theorem dX3_fraction_33 : decode cX3_fraction 33 = .ok (.lcmp, 1) := qd_p qo_148 (by decide +kernel)
theorem dX3_fraction_34 : decode cX3_fraction 34 = .ok (.ifCond .gt 14, 3) := qz_s2 (.ifCond .gt) 0 14 qo_157 (by decide +kernel) rfl
theorem dX3_fraction_37 : decode cX3_fraction 37 = .ok (.iload 4, 2) := qz_1 .iload 4 qo_21 (by decide +kernel)
theorem dX3_fraction_39 : decode cX3_fraction 39 = .ok (.ifCond .ne 7, 3) := qz_s2 (.ifCond .ne) 0 7 qo_154 (by decide +kernel) rfl
theorem dX3_fraction_42 : decode cX3_fraction 42 = .ok (.lload_n 0, 1) := qd_p qo_30 (by decide +kernel)
theorem dX3_fraction_43 : decode cX3_fraction 43 = .ok (.goto 4, 3) := qz_s2 .goto 0 4 qo_167 (by decide +kernel) rfl
theorem dX3_fraction_46 : decode cX3_fraction 46 = .ok (.lload_n 2, 1) := qd_p qo_32 (by decide +kernel)
theorem dX3_fraction_47 : decode cX3_fraction 47 = .ok (.lreturn, 1) := qd_p qo_173 (by decide +kernel)
theorem dX3_fraction_48 : decode cX3_fraction 48 = .ok (.iload 4, 2) := qz_1 .iload 4 qo_21 (by decide +kernel)
theorem dX3_fraction_50 : decode cX3_fraction 50 = .ok (.ifCond .ne 10, 3) := qz_s2 (.ifCond .ne) 0 10 qo_154 (by decide +kernel) rfl
theorem dX3_fraction_53 : decode cX3_fraction 53 = .ok (.lload_n 0, 1) := qd_p qo_30 (by decide +kernel)
theorem dX3_fraction_54 : decode cX3_fraction 54 = .ok (.lload 5, 2) := qz_1 .lload 5 qo_22 (by decide +kernel)
theorem dX3_fraction_56 : decode cX3_fraction 56 = .ok (.ldiv, 1) := qd_p qo_109 (by decide +kernel)
theorem dX3_fraction_57 : decode cX3_fraction 57 = .ok (.goto 7, 3) := qz_s2 .goto 0 7 qo_167 (by decide +kernel) rfl
theorem dX3_fraction_60 : decode cX3_fraction 60 = .ok (.lload_n 2, 1) := qd_p qo_32 (by decide +kernel)
theorem dX3_fraction_61 : decode cX3_fraction 61 = .ok (.lload 5, 2) := qz_1 .lload 5 qo_22 (by decide +kernel)
theorem dX3_fraction_63 : decode cX3_fraction 63 = .ok (.ldiv, 1) := qd_p qo_109 (by decide +kernel)
theorem dX3_fraction_64 : decode cX3_fraction 64 = .ok (.lreturn, 1) := qd_p qo_173 (by decide +kernel)
theorem dX3_share_0 : decode cX3_share 0 = .ok (.aload_n 0, 1) := qd_p qo_42 (by decide +kernel)
theorem dX3_share_1 : decode cX3_share 1 = .ok (.iload_n 1, 1) := qd_p qo_27 (by decide +kernel)
theorem dX3_share_2 : decode cX3_share 2 = .ok (.invokevirtual 78, 3) := qz_2 .invokevirtual 0 78 qo_182 (by decide +kernel) rfl
theorem dX3_share_5 : decode cX3_share 5 = .ok (.iload_n 2, 1) := qd_p qo_28 (by decide +kernel)
theorem dX3_share_6 : decode cX3_share 6 = .ok (.invokestatic 174, 3) := qz_2 .invokestatic 0 174 qo_184 (by decide +kernel) rfl
theorem dX3_share_9 : decode cX3_share 9 = .ok (.invokestatic 85, 3) := qz_2 .invokestatic 0 85 qo_184 (by decide +kernel) rfl
theorem dX3_share_12 : decode cX3_share 12 = .ok (.iload_n 3, 1) := qd_p qo_29 (by decide +kernel)
theorem dX3_share_13 : decode cX3_share 13 = .ok (.iconst 2, 1) := qd_p qo_5 (by decide +kernel)
theorem dX3_share_14 : decode cX3_share 14 = .ok (.invokestatic 123, 3) := qz_2 .invokestatic 0 123 qo_184 (by decide +kernel) rfl
theorem dX3_share_17 : decode cX3_share 17 = .ok (.invokestatic 85, 3) := qz_2 .invokestatic 0 85 qo_184 (by decide +kernel) rfl
theorem dX3_share_20 : decode cX3_share 20 = .ok (.istore 4, 2) := qz_1 .istore 4 qo_54 (by decide +kernel)
theorem dX3_share_22 : decode cX3_share 22 = .ok (.iload 4, 2) := qz_1 .iload 4 qo_21 (by decide +kernel)
theorem dX3_share_24 : decode cX3_share 24 = .ok (.ifCond .eq 10, 3) := qz_s2 (.ifCond .eq) 0 10 qo_153 (by decide +kernel) rfl
theorem dX3_share_27 : decode cX3_share 27 = .ok (.aload_n 0, 1) := qd_p qo_42 (by decide +kernel)
theorem dX3_share_28 : decode cX3_share 28 = .ok (.iload 4, 2) := qz_1 .iload 4 qo_21 (by decide +kernel)
theorem dX3_share_30 : decode cX3_share 30 = .ok (.invokevirtual 260, 3) := qz_2 .invokevirtual 1 4 qo_182 (by decide +kernel) rfl
theorem dX3_share_33 : decode cX3_share 33 = .ok (.lreturn, 1) := qd_p qo_173 (by decide +kernel)
theorem dX3_share_34 : decode cX3_share 34 = .ok (.lconst 0, 1) := qd_p qo_9 (by decide +kernel)
theorem dX3_share_35 : decode cX3_share 35 = .ok (.lstore 5, 2) := qz_1 .lstore 5 qo_55 (by decide +kernel)
theorem dX3_share_37 : decode cX3_share 37 = .ok (.iconst 0, 1) := qd_p qo_3 (by decide +kernel)
theorem dX3_share_38 : decode cX3_share 38 = .ok (.istore 7, 2) := qz_1 .istore 7 qo_54 (by decide +kernel)
theorem dX3_share_40 : decode cX3_share 40 = .ok (.iload 7, 2) := qz_1 .iload 7 qo_21 (by decide +kernel)
theorem dX3_share_42 : decode cX3_share 42 = .ok (.aload_n 0, 1) := qd_p qo_42 (by decide +kernel)
theorem dX3_share_43 : decode cX3_share 43 = .ok (.getfield 10, 3) := qz_2 .getfield 0 10 qo_180 (by decide +kernel) rfl
theorem dX3_share_46 : decode cX3_share 46 = .ok (.getfield 153, 3) := qz_2 .getfield 0 153 qo_180 (by decide +kernel) rfl
theorem dX3_share_49 : decode cX3_share 49 = .ok (.if_icmp .ge 27, 3) := qz_s2 (.if_icmp .ge) 0 27 qo_162 (by decide +kernel) rfl
theorem dX3_share_52 : decode cX3_share 52 = .ok (.lload 5, 2) := qz_1 .lload 5 qo_22 (by decide +kernel)
theorem dX3_share_54 : decode cX3_share 54 = .ok (.aload_n 0, 1) := qd_p qo_42 (by decide +kernel)
theorem dX3_share_55 : decode cX3_share 55 = .ok (.getfield 10, 3) := qz_2 .getfield 0 10 qo_180 (by decide +kernel) rfl
theorem dX3_share_58 : decode cX3_share 58 = .ok (.getfield 217, 3) := qz_2 .getfield 0 217 qo_180 (by decide +kernel) rfl
theorem dX3_share_61 : decode cX3_share 61 = .ok (.iload 7, 2) := qz_1 .iload 7 qo_21 (by decide +kernel)
theorem dX3_share_63 : decode cX3_share 63 = .ok (.aaload, 1) := qd_p qo_50 (by decide +kernel)
theorem dX3_share_64 : decode cX3_share 64 = .ok (.iload_n 2, 1) := qd_p qo_28 (by decide +kernel)
theorem dX3_share_65 : decode cX3_share 65 = .ok (.iaload, 1) := qd_p qo_46 (by decide +kernel)
theorem dX3_share_66 : decode cX3_share 66 = .ok (.i2l, 1) := qd_p qo_133 (by decide +kernel)
theorem dX3_share_67 : decode cX3_share 67 = .ok (.ladd, 1) := qd_p qo_97 (by decide +kernel)
theorem dX3_share_68 : decode cX3_share 68 = .ok (.lstore 5, 2) := qz_1 .lstore 5 qo_55 (by decide +kernel)
theorem dX3_share_70 : decode cX3_share 70 = .ok (.iinc 7 1, 3) := qd_i (x := 7) (y := 1) qo_132 (by decide +kernel) rfl
theorem dX3_share_73 : decode cX3_share 73 = .ok (.goto (-33), 3) := qz_s2 .goto 255 223 qo_167 (by decide +kernel) rfl
theorem dX3_share_76 : decode cX3_share 76 = .ok (.aload_n 0, 1) := qd_p qo_42 (by decide +kernel)
theorem dX3_share_77 : decode cX3_share 77 = .ok (.getfield 10, 3) := qz_2 .getfield 0 10 qo_180 (by decide +kernel) rfl
theorem dX3_share_80 : decode cX3_share 80 = .ok (.getfield 217, 3) := qz_2 .getfield 0 217 qo_180 (by decide +kernel) rfl
theorem dX3_share_83 : decode cX3_share 83 = .ok (.iload_n 1, 1) := qd_p qo_27 (by decide +kernel)
theorem dX3_share_84 : decode cX3_share 84 = .ok (.aaload, 1) := qd_p qo_50 (by decide +kernel)
theorem dX3_share_85 : decode cX3_share 85 = .ok (.iload_n 2, 1) := qd_p qo_28 (by decide +kernel)
theorem dX3_share_86 : decode cX3_share 86 = .ok (.iaload, 1) := qd_p qo_46 (by decide +kernel)
theorem dX3_share_87 : decode cX3_share 87 = .ok (.i2l, 1) := qd_p qo_133 (by decide +kernel)
theorem dX3_share_88 : decode cX3_share 88 = .ok (.lload 5, 2) := qz_1 .lload 5 qo_22 (by decide +kernel)
theorem dX3_share_90 : decode cX3_share 90 = .ok (.iload_n 3, 1) := qd_p qo_29 (by decide +kernel)
theorem dX3_share_91 : decode cX3_share 91 = .ok (.invokestatic 264, 3) := qz_2 .invokestatic 1 8 qo_184 (by decide +kernel) rfl
theorem dX3_share_94 : decode cX3_share 94 = .ok (.lreturn, 1) := qd_p qo_173 (by decide +kernel)
theorem dX3_fillPays_0 : decode cX3_fillPays 0 = .ok (.aload_n 0, 1) := qd_p qo_42 (by decide +kernel)
theorem dX3_fillPays_1 : decode cX3_fillPays 1 = .ok (.getfield 16, 3) := qz_2 .getfield 0 16 qo_180 (by decide +kernel) rfl
theorem dX3_fillPays_4 : decode cX3_fillPays 4 = .ok (.aload_n 0, 1) := qd_p qo_42 (by decide +kernel)
theorem dX3_fillPays_5 : decode cX3_fillPays 5 = .ok (.getfield 10, 3) := qz_2 .getfield 0 10 qo_180 (by decide +kernel) rfl
theorem dX3_fillPays_8 : decode cX3_fillPays 8 = .ok (.invokevirtual 106, 3) := qz_2 .invokevirtual 0 106 qo_182 (by decide +kernel) rfl
theorem dX3_fillPays_11 : decode cX3_fillPays 11 = .ok (.iconst 0, 1) := qd_p qo_3 (by decide +kernel)
theorem dX3_fillPays_12 : decode cX3_fillPays 12 = .ok (.istore 5, 2) := qz_1 .istore 5 qo_54 (by decide +kernel)
theorem dX3_fillPays_14 : decode cX3_fillPays 14 = .ok (.iload 5, 2) := qz_1 .iload 5 qo_21 (by decide +kernel)
theorem dX3_fillPays_16 : decode cX3_fillPays 16 = .ok (.aload_n 0, 1) := qd_p qo_42 (by decide +kernel)
theorem dX3_fillPays_17 : decode cX3_fillPays 17 = .ok (.getfield 10, 3) := qz_2 .getfield 0 10 qo_180 (by decide +kernel) rfl
theorem dX3_fillPays_20 : decode cX3_fillPays 20 = .ok (.getfield 147, 3) := qz_2 .getfield 0 147 qo_180 (by decide +kernel) rfl
theorem dX3_fillPays_23 : decode cX3_fillPays 23 = .ok (.if_icmp .ge 103, 3) := qz_s2 (.if_icmp .ge) 0 103 qo_162 (by decide +kernel) rfl
theorem dX3_fillPays_26 : decode cX3_fillPays 26 = .ok (.aload_n 0, 1) := qd_p qo_42 (by decide +kernel)
theorem dX3_fillPays_27 : decode cX3_fillPays 27 = .ok (.getfield 16, 3) := qz_2 .getfield 0 16 qo_180 (by decide +kernel) rfl
theorem dX3_fillPays_30 : decode cX3_fillPays 30 = .ok (.iload_n 1, 1) := qd_p qo_27 (by decide +kernel)
theorem dX3_fillPays_31 : decode cX3_fillPays 31 = .ok (.iload_n 3, 1) := qd_p qo_29 (by decide +kernel)
theorem dX3_fillPays_32 : decode cX3_fillPays 32 = .ok (.iload_n 3, 1) := qd_p qo_29 (by decide +kernel)
theorem dX3_fillPays_33 : decode cX3_fillPays 33 = .ok (.iload 5, 2) := qz_1 .iload 5 qo_21 (by decide +kernel)
theorem dX3_fillPays_35 : decode cX3_fillPays 35 = .ok (.invokevirtual 170, 3) := qz_2 .invokevirtual 0 170 qo_182 (by decide +kernel) rfl
theorem dX3_fillPays_38 : decode cX3_fillPays 38 = .ok (.pop, 1) := qd_p qo_87 (by decide +kernel)
theorem dX3_fillPays_39 : decode cX3_fillPays 39 = .ok (.iconst 0, 1) := qd_p qo_3 (by decide +kernel)
theorem dX3_fillPays_40 : decode cX3_fillPays 40 = .ok (.istore 6, 2) := qz_1 .istore 6 qo_54 (by decide +kernel)
theorem dX3_fillPays_42 : decode cX3_fillPays 42 = .ok (.iload 6, 2) := qz_1 .iload 6 qo_21 (by decide +kernel)
theorem dX3_fillPays_44 : decode cX3_fillPays 44 = .ok (.aload_n 0, 1) := qd_p qo_42 (by decide +kernel)
theorem dX3_fillPays_45 : decode cX3_fillPays 45 = .ok (.getfield 10, 3) := qz_2 .getfield 0 10 qo_180 (by decide +kernel) rfl
theorem dX3_fillPays_48 : decode cX3_fillPays 48 = .ok (.getfield 147, 3) := qz_2 .getfield 0 147 qo_180 (by decide +kernel) rfl
theorem dX3_fillPays_51 : decode cX3_fillPays 51 = .ok (.if_icmp .ge 69, 3) := qz_s2 (.if_icmp .ge) 0 69 qo_162 (by decide +kernel) rfl
theorem dX3_fillPays_54 : decode cX3_fillPays 54 = .ok (.aload_n 0, 1) := qd_p qo_42 (by decide +kernel)
theorem dX3_fillPays_55 : decode cX3_fillPays 55 = .ok (.getfield 16, 3) := qz_2 .getfield 0 16 qo_180 (by decide +kernel) rfl
theorem dX3_fillPays_58 : decode cX3_fillPays 58 = .ok (.iload_n 2, 1) := qd_p qo_28 (by decide +kernel)
theorem dX3_fillPays_59 : decode cX3_fillPays 59 = .ok (.iload_n 3, 1) := qd_p qo_29 (by decide +kernel)
theorem dX3_fillPays_60 : decode cX3_fillPays 60 = .ok (.iload_n 3, 1) := qd_p qo_29 (by decide +kernel)
theorem dX3_fillPays_61 : decode cX3_fillPays 61 = .ok (.iload 6, 2) := qz_1 .iload 6 qo_21 (by decide +kernel)
theorem dX3_fillPays_63 : decode cX3_fillPays 63 = .ok (.invokevirtual 170, 3) := qz_2 .invokevirtual 0 170 qo_182 (by decide +kernel) rfl
theorem dX3_fillPays_66 : decode cX3_fillPays 66 = .ok (.pop, 1) := qd_p qo_87 (by decide +kernel)
theorem dX3_fillPays_67 : decode cX3_fillPays 67 = .ok (.aload_n 0, 1) := qd_p qo_42 (by decide +kernel)
theorem dX3_fillPays_68 : decode cX3_fillPays 68 = .ok (.getfield 16, 3) := qz_2 .getfield 0 16 qo_180 (by decide +kernel) rfl
theorem dX3_fillPays_71 : decode cX3_fillPays 71 = .ok (.invokevirtual 141, 3) := qz_2 .invokevirtual 0 141 qo_182 (by decide +kernel) rfl
theorem dX3_fillPays_74 : decode cX3_fillPays 74 = .ok (.aload_n 0, 1) := qd_p qo_42 (by decide +kernel)
theorem dX3_fillPays_75 : decode cX3_fillPays 75 = .ok (.getfield 53, 3) := qz_2 .getfield 0 53 qo_180 (by decide +kernel) rfl
theorem dX3_fillPays_78 : decode cX3_fillPays 78 = .ok (.iload 5, 2) := qz_1 .iload 5 qo_21 (by decide +kernel)
theorem dX3_fillPays_80 : decode cX3_fillPays 80 = .ok (.aaload, 1) := qd_p qo_50 (by decide +kernel)
theorem dX3_fillPays_81 : decode cX3_fillPays 81 = .ok (.iload 6, 2) := qz_1 .iload 6 qo_21 (by decide +kernel)
theorem dX3_fillPays_83 : decode cX3_fillPays 83 = .ok (.aload_n 0, 1) := qd_p qo_42 (by decide +kernel)
theorem dX3_fillPays_84 : decode cX3_fillPays 84 = .ok (.getfield 16, 3) := qz_2 .getfield 0 16 qo_180 (by decide +kernel) rfl
theorem dX3_fillPays_87 : decode cX3_fillPays 87 = .ok (.iload_n 1, 1) := qd_p qo_27 (by decide +kernel)
theorem dX3_fillPays_88 : decode cX3_fillPays 88 = .ok (.iload 4, 2) := qz_1 .iload 4 qo_21 (by decide +kernel)
theorem dX3_fillPays_90 : decode cX3_fillPays 90 = .ok (.invokevirtual 229, 3) := qz_2 .invokevirtual 0 229 qo_182 (by decide +kernel) rfl
theorem dX3_fillPays_93 : decode cX3_fillPays 93 = .ok (.iastore, 1) := qd_p qo_79 (by decide +kernel)
theorem dX3_fillPays_94 : decode cX3_fillPays 94 = .ok (.aload_n 0, 1) := qd_p qo_42 (by decide +kernel)
theorem dX3_fillPays_95 : decode cX3_fillPays 95 = .ok (.getfield 56, 3) := qz_2 .getfield 0 56 qo_180 (by decide +kernel) rfl
theorem dX3_fillPays_98 : decode cX3_fillPays 98 = .ok (.iload 5, 2) := qz_1 .iload 5 qo_21 (by decide +kernel)
theorem dX3_fillPays_100 : decode cX3_fillPays 100 = .ok (.aaload, 1) := qd_p qo_50 (by decide +kernel)
theorem dX3_fillPays_101 : decode cX3_fillPays 101 = .ok (.iload 6, 2) := qz_1 .iload 6 qo_21 (by decide +kernel)
theorem dX3_fillPays_103 : decode cX3_fillPays 103 = .ok (.aload_n 0, 1) := qd_p qo_42 (by decide +kernel)
theorem dX3_fillPays_104 : decode cX3_fillPays 104 = .ok (.getfield 16, 3) := qz_2 .getfield 0 16 qo_180 (by decide +kernel) rfl
theorem dX3_fillPays_107 : decode cX3_fillPays 107 = .ok (.iload_n 2, 1) := qd_p qo_28 (by decide +kernel)
theorem dX3_fillPays_108 : decode cX3_fillPays 108 = .ok (.iload 4, 2) := qz_1 .iload 4 qo_21 (by decide +kernel)
theorem dX3_fillPays_110 : decode cX3_fillPays 110 = .ok (.invokevirtual 229, 3) := qz_2 .invokevirtual 0 229 qo_182 (by decide +kernel) rfl
theorem dX3_fillPays_113 : decode cX3_fillPays 113 = .ok (.iastore, 1) := qd_p qo_79 (by decide +kernel)
theorem dX3_fillPays_114 : decode cX3_fillPays 114 = .ok (.iinc 6 1, 3) := qd_i (x := 6) (y := 1) qo_132 (by decide +kernel) rfl
theorem dX3_fillPays_117 : decode cX3_fillPays 117 = .ok (.goto (-75), 3) := qz_s2 .goto 255 181 qo_167 (by decide +kernel) rfl
theorem dX3_fillPays_120 : decode cX3_fillPays 120 = .ok (.iinc 5 1, 3) := qd_i (x := 5) (y := 1) qo_132 (by decide +kernel) rfl
theorem dX3_fillPays_123 : decode cX3_fillPays 123 = .ok (.goto (-109), 3) := qz_s2 .goto 255 147 qo_167 (by decide +kernel) rfl
theorem dX3_fillPays_126 : decode cX3_fillPays 126 = .ok (.return_, 1) := qd_p qo_177 (by decide +kernel)
theorem dX3_bothContent_0 : decode cX3_bothContent 0 = .ok (.iconst 0, 1) := qd_p qo_3 (by decide +kernel)
theorem dX3_bothContent_1 : decode cX3_bothContent 1 = .ok (.istore_n 3, 1) := qd_p qo_62 (by decide +kernel)
theorem dX3_bothContent_2 : decode cX3_bothContent 2 = .ok (.iload_n 3, 1) := qd_p qo_29 (by decide +kernel)
theorem dX3_bothContent_3 : decode cX3_bothContent 3 = .ok (.aload_n 0, 1) := qd_p qo_42 (by decide +kernel)
theorem dX3_bothContent_4 : decode cX3_bothContent 4 = .ok (.getfield 10, 3) := qz_2 .getfield 0 10 qo_180 (by decide +kernel) rfl
theorem dX3_bothContent_7 : decode cX3_bothContent 7 = .ok (.getfield 147, 3) := qz_2 .getfield 0 147 qo_180 (by decide +kernel) rfl
theorem dX3_bothContent_10 : decode cX3_bothContent 10 = .ok (.if_icmp .ge 49, 3) := qz_s2 (.if_icmp .ge) 0 49 qo_162 (by decide +kernel) rfl
theorem dX3_bothContent_13 : decode cX3_bothContent 13 = .ok (.aload_n 0, 1) := qd_p qo_42 (by decide +kernel)
theorem dX3_bothContent_14 : decode cX3_bothContent 14 = .ok (.getfield 53, 3) := qz_2 .getfield 0 53 qo_180 (by decide +kernel) rfl
theorem dX3_bothContent_17 : decode cX3_bothContent 17 = .ok (.iload_n 3, 1) := qd_p qo_29 (by decide +kernel)
theorem dX3_bothContent_18 : decode cX3_bothContent 18 = .ok (.aaload, 1) := qd_p qo_50 (by decide +kernel)
theorem dX3_bothContent_19 : decode cX3_bothContent 19 = .ok (.iload_n 2, 1) := qd_p qo_28 (by decide +kernel)
theorem dX3_bothContent_20 : decode cX3_bothContent 20 = .ok (.iaload, 1) := qd_p qo_46 (by decide +kernel)
theorem dX3_bothContent_21 : decode cX3_bothContent 21 = .ok (.aload_n 0, 1) := qd_p qo_42 (by decide +kernel)
theorem dX3_bothContent_22 : decode cX3_bothContent 22 = .ok (.getfield 53, 3) := qz_2 .getfield 0 53 qo_180 (by decide +kernel) rfl
theorem dX3_bothContent_25 : decode cX3_bothContent 25 = .ok (.iload_n 1, 1) := qd_p qo_27 (by decide +kernel)
theorem dX3_bothContent_26 : decode cX3_bothContent 26 = .ok (.aaload, 1) := qd_p qo_50 (by decide +kernel)
theorem dX3_bothContent_27 : decode cX3_bothContent 27 = .ok (.iload_n 2, 1) := qd_p qo_28 (by decide +kernel)
theorem dX3_bothContent_28 : decode cX3_bothContent 28 = .ok (.iaload, 1) := qd_p qo_46 (by decide +kernel)
theorem dX3_bothContent_29 : decode cX3_bothContent 29 = .ok (.if_icmp .gt 22, 3) := qz_s2 (.if_icmp .gt) 0 22 qo_163 (by decide +kernel) rfl
theorem dX3_bothContent_32 : decode cX3_bothContent 32 = .ok (.aload_n 0, 1) := qd_p qo_42 (by decide +kernel)
theorem dX3_bothContent_33 : decode cX3_bothContent 33 = .ok (.getfield 56, 3) := qz_2 .getfield 0 56 qo_180 (by decide +kernel) rfl
theorem dX3_bothContent_36 : decode cX3_bothContent 36 = .ok (.iload_n 1, 1) := qd_p qo_27 (by decide +kernel)
theorem dX3_bothContent_37 : decode cX3_bothContent 37 = .ok (.aaload, 1) := qd_p qo_50 (by decide +kernel)
theorem dX3_bothContent_38 : decode cX3_bothContent 38 = .ok (.iload_n 3, 1) := qd_p qo_29 (by decide +kernel)
theorem dX3_bothContent_39 : decode cX3_bothContent 39 = .ok (.iaload, 1) := qd_p qo_46 (by decide +kernel)
theorem dX3_bothContent_40 : decode cX3_bothContent 40 = .ok (.aload_n 0, 1) := qd_p qo_42 (by decide +kernel)
theorem dX3_bothContent_41 : decode cX3_bothContent 41 = .ok (.getfield 56, 3) := qz_2 .getfield 0 56 qo_180 (by decide +kernel) rfl
theorem dX3_bothContent_44 : decode cX3_bothContent 44 = .ok (.iload_n 1, 1) := qd_p qo_27 (by decide +kernel)
theorem dX3_bothContent_45 : decode cX3_bothContent 45 = .ok (.aaload, 1) := qd_p qo_50 (by decide +kernel)
theorem dX3_bothContent_46 : decode cX3_bothContent 46 = .ok (.iload_n 2, 1) := qd_p qo_28 (by decide +kernel)
theorem dX3_bothContent_47 : decode cX3_bothContent 47 = .ok (.iaload, 1) := qd_p qo_46 (by decide +kernel)
theorem dX3_bothContent_48 : decode cX3_bothContent 48 = .ok (.if_icmp .le 5, 3) := qz_s2 (.if_icmp .le) 0 5 qo_164 (by decide +kernel) rfl
theorem dX3_bothContent_51 : decode cX3_bothContent 51 = .ok (.iconst 0, 1) := qd_p qo_3 (by decide +kernel)
theorem dX3_bothContent_52 : decode cX3_bothContent 52 = .ok (.ireturn, 1) := qd_p qo_172 (by decide +kernel)
theorem dX3_bothContent_53 : decode cX3_bothContent 53 = .ok (.iinc 3 1, 3) := qd_i (x := 3) (y := 1) qo_132 (by decide +kernel) rfl
theorem dX3_bothContent_56 : decode cX3_bothContent 56 = .ok (.goto (-54), 3) := qz_s2 .goto 255 202 qo_167 (by decide +kernel) rfl
theorem dX3_bothContent_59 : decode cX3_bothContent 59 = .ok (.iconst 1, 1) := qd_p qo_4 (by decide +kernel)
theorem dX3_bothContent_60 : decode cX3_bothContent 60 = .ok (.ireturn, 1) := qd_p qo_172 (by decide +kernel)
theorem dX3_two_0 : decode cX3_two 0 = .ok (.aload_n 0, 1) := qd_p qo_42 (by decide +kernel)
theorem dX3_two_1 : decode cX3_two 1 = .ok (.iload_n 1, 1) := qd_p qo_27 (by decide +kernel)
theorem dX3_two_2 : decode cX3_two 2 = .ok (.iload_n 2, 1) := qd_p qo_28 (by decide +kernel)
theorem dX3_two_3 : decode cX3_two 3 = .ok (.invokevirtual 89, 3) := qz_2 .invokevirtual 0 89 qo_182 (by decide +kernel) rfl
theorem dX3_two_6 : decode cX3_two 6 = .ok (.iload_n 3, 1) := qd_p qo_29 (by decide +kernel)
theorem dX3_two_7 : decode cX3_two 7 = .ok (.invokestatic 160, 3) := qz_2 .invokestatic 0 160 qo_184 (by decide +kernel) rfl
theorem dX3_two_10 : decode cX3_two 10 = .ok (.invokestatic 85, 3) := qz_2 .invokestatic 0 85 qo_184 (by decide +kernel) rfl
theorem dX3_two_13 : decode cX3_two 13 = .ok (.iload 4, 2) := qz_1 .iload 4 qo_21 (by decide +kernel)
theorem dX3_two_15 : decode cX3_two 15 = .ok (.iconst 0, 1) := qd_p qo_3 (by decide +kernel)
theorem dX3_two_16 : decode cX3_two 16 = .ok (.sipush 999, 3) := qz_s2 .sipush 3 231 qo_17 (by decide +kernel) rfl
theorem dX3_two_19 : decode cX3_two 19 = .ok (.invokestatic 81, 3) := qz_2 .invokestatic 0 81 qo_184 (by decide +kernel) rfl
theorem dX3_two_22 : decode cX3_two 22 = .ok (.invokestatic 85, 3) := qz_2 .invokestatic 0 85 qo_184 (by decide +kernel) rfl
theorem dX3_two_25 : decode cX3_two 25 = .ok (.istore 5, 2) := qz_1 .istore 5 qo_54 (by decide +kernel)
theorem dX3_two_27 : decode cX3_two 27 = .ok (.iload 5, 2) := qz_1 .iload 5 qo_21 (by decide +kernel)
theorem dX3_two_29 : decode cX3_two 29 = .ok (.ifCond .eq 10, 3) := qz_s2 (.ifCond .eq) 0 10 qo_153 (by decide +kernel) rfl
theorem dX3_two_32 : decode cX3_two 32 = .ok (.aload_n 0, 1) := qd_p qo_42 (by decide +kernel)
theorem dX3_two_33 : decode cX3_two 33 = .ok (.iload 5, 2) := qz_1 .iload 5 qo_21 (by decide +kernel)
theorem dX3_two_35 : decode cX3_two 35 = .ok (.invokevirtual 61, 3) := qz_2 .invokevirtual 0 61 qo_182 (by decide +kernel) rfl
theorem dX3_two_38 : decode cX3_two 38 = .ok (.ireturn, 1) := qd_p qo_172 (by decide +kernel)
theorem dX3_two_39 : decode cX3_two 39 = .ok (.aload_n 0, 1) := qd_p qo_42 (by decide +kernel)
theorem dX3_two_40 : decode cX3_two 40 = .ok (.iload_n 1, 1) := qd_p qo_27 (by decide +kernel)
theorem dX3_two_41 : decode cX3_two 41 = .ok (.iload_n 2, 1) := qd_p qo_28 (by decide +kernel)
theorem dX3_two_42 : decode cX3_two 42 = .ok (.iload_n 3, 1) := qd_p qo_29 (by decide +kernel)
theorem dX3_two_43 : decode cX3_two 43 = .ok (.iload 4, 2) := qz_1 .iload 4 qo_21 (by decide +kernel)
theorem dX3_two_45 : decode cX3_two 45 = .ok (.invokevirtual 268, 3) := qz_2 .invokevirtual 1 12 qo_182 (by decide +kernel) rfl
theorem dX3_two_48 : decode cX3_two 48 = .ok (.iconst 0, 1) := qd_p qo_3 (by decide +kernel)
theorem dX3_two_49 : decode cX3_two 49 = .ok (.istore 6, 2) := qz_1 .istore 6 qo_54 (by decide +kernel)
theorem dX3_two_51 : decode cX3_two 51 = .ok (.iload 6, 2) := qz_1 .iload 6 qo_21 (by decide +kernel)
theorem dX3_two_53 : decode cX3_two 53 = .ok (.aload_n 0, 1) := qd_p qo_42 (by decide +kernel)
theorem dX3_two_54 : decode cX3_two 54 = .ok (.getfield 10, 3) := qz_2 .getfield 0 10 qo_180 (by decide +kernel) rfl
theorem dX3_two_57 : decode cX3_two 57 = .ok (.getfield 147, 3) := qz_2 .getfield 0 147 qo_180 (by decide +kernel) rfl
theorem dX3_two_60 : decode cX3_two 60 = .ok (.if_icmp .ge 50, 3) := qz_s2 (.if_icmp .ge) 0 50 qo_162 (by decide +kernel) rfl
theorem dX3_two_63 : decode cX3_two 63 = .ok (.iconst 0, 1) := qd_p qo_3 (by decide +kernel)
theorem dX3_two_64 : decode cX3_two 64 = .ok (.istore 7, 2) := qz_1 .istore 7 qo_54 (by decide +kernel)
theorem dX3_two_66 : decode cX3_two 66 = .ok (.iload 7, 2) := qz_1 .iload 7 qo_21 (by decide +kernel)
theorem dX3_two_68 : decode cX3_two 68 = .ok (.aload_n 0, 1) := qd_p qo_42 (by decide +kernel)
theorem dX3_two_69 : decode cX3_two 69 = .ok (.getfield 10, 3) := qz_2 .getfield 0 10 qo_180 (by decide +kernel) rfl
theorem dX3_two_72 : decode cX3_two 72 = .ok (.getfield 147, 3) := qz_2 .getfield 0 147 qo_180 (by decide +kernel) rfl
theorem dX3_two_75 : decode cX3_two 75 = .ok (.if_icmp .ge 29, 3) := qz_s2 (.if_icmp .ge) 0 29 qo_162 (by decide +kernel) rfl
theorem dX3_two_78 : decode cX3_two 78 = .ok (.aload_n 0, 1) := qd_p qo_42 (by decide +kernel)
theorem dX3_two_79 : decode cX3_two 79 = .ok (.iload 6, 2) := qz_1 .iload 6 qo_21 (by decide +kernel)
theorem dX3_two_81 : decode cX3_two 81 = .ok (.iload 7, 2) := qz_1 .iload 7 qo_21 (by decide +kernel)
theorem dX3_two_83 : decode cX3_two 83 = .ok (.invokevirtual 272, 3) := qz_2 .invokevirtual 1 16 qo_182 (by decide +kernel) rfl
theorem dX3_two_86 : decode cX3_two 86 = .ok (.ifCond .eq 12, 3) := qz_s2 (.ifCond .eq) 0 12 qo_153 (by decide +kernel) rfl
theorem dX3_two_89 : decode cX3_two 89 = .ok (.bipush 10, 2) := qz_s1 .bipush 10 qo_16 (by decide +kernel) rfl
theorem dX3_two_91 : decode cX3_two 91 = .ok (.iload 6, 2) := qz_1 .iload 6 qo_21 (by decide +kernel)
theorem dX3_two_93 : decode cX3_two 93 = .ok (.imul, 1) := qd_p qo_104 (by decide +kernel)
theorem dX3_two_94 : decode cX3_two 94 = .ok (.iload 7, 2) := qz_1 .iload 7 qo_21 (by decide +kernel)
theorem dX3_two_96 : decode cX3_two 96 = .ok (.iadd, 1) := qd_p qo_96 (by decide +kernel)
theorem dX3_two_97 : decode cX3_two 97 = .ok (.ireturn, 1) := qd_p qo_172 (by decide +kernel)
theorem dX3_two_98 : decode cX3_two 98 = .ok (.iinc 7 1, 3) := qd_i (x := 7) (y := 1) qo_132 (by decide +kernel) rfl
theorem dX3_two_101 : decode cX3_two 101 = .ok (.goto (-35), 3) := qz_s2 .goto 255 221 qo_167 (by decide +kernel) rfl
theorem dX3_two_104 : decode cX3_two 104 = .ok (.iinc 6 1, 3) := qd_i (x := 6) (y := 1) qo_132 (by decide +kernel) rfl
theorem dX3_two_107 : decode cX3_two 107 = .ok (.goto (-56), 3) := qz_s2 .goto 255 200 qo_167 (by decide +kernel) rfl
theorem dX3_two_110 : decode cX3_two 110 = .ok (.bipush (-9), 2) := qz_s1 .bipush 247 qo_16 (by decide +kernel) rfl
theorem dX3_two_112 : decode cX3_two 112 = .ok (.ireturn, 1) := qd_p qo_172 (by decide +kernel)
theorem dX3_inRow_0 : decode cX3_inRow 0 = .ok (.iload_n 0, 1) := qd_p qo_26 (by decide +kernel)
theorem dX3_inRow_1 : decode cX3_inRow 1 = .ok (.bipush (-9), 2) := qz_s1 .bipush 247 qo_16 (by decide +kernel) rfl
theorem dX3_inRow_3 : decode cX3_inRow 3 = .ok (.if_icmp .ne 8, 3) := qz_s2 (.if_icmp .ne) 0 8 qo_160 (by decide +kernel) rfl
theorem dX3_inRow_6 : decode cX3_inRow 6 = .ok (.bipush 99, 2) := qz_s1 .bipush 99 qo_16 (by decide +kernel) rfl
theorem dX3_inRow_8 : decode cX3_inRow 8 = .ok (.goto 4, 3) := qz_s2 .goto 0 4 qo_167 (by decide +kernel) rfl
theorem dX3_inRow_11 : decode cX3_inRow 11 = .ok (.iload_n 0, 1) := qd_p qo_26 (by decide +kernel)
theorem dX3_inRow_12 : decode cX3_inRow 12 = .ok (.ireturn, 1) := qd_p qo_172 (by decide +kernel)
theorem dX3_rowTells_0 : decode cX3_rowTells 0 = .ok (.iconst 0, 1) := qd_p qo_3 (by decide +kernel)
theorem dX3_rowTells_1 : decode cX3_rowTells 1 = .ok (.istore_n 2, 1) := qd_p qo_61 (by decide +kernel)
theorem dX3_rowTells_2 : decode cX3_rowTells 2 = .ok (.iload_n 2, 1) := qd_p qo_28 (by decide +kernel)
theorem dX3_rowTells_3 : decode cX3_rowTells 3 = .ok (.aload_n 0, 1) := qd_p qo_42 (by decide +kernel)
theorem dX3_rowTells_4 : decode cX3_rowTells 4 = .ok (.getfield 44, 3) := qz_2 .getfield 0 44 qo_180 (by decide +kernel) rfl
theorem dX3_rowTells_7 : decode cX3_rowTells 7 = .ok (.if_icmp .ge 38, 3) := qz_s2 (.if_icmp .ge) 0 38 qo_162 (by decide +kernel) rfl
theorem dX3_rowTells_10 : decode cX3_rowTells 10 = .ok (.iload_n 2, 1) := qd_p qo_28 (by decide +kernel)
theorem dX3_rowTells_11 : decode cX3_rowTells 11 = .ok (.bipush 8, 2) := qz_s1 .bipush 8 qo_16 (by decide +kernel) rfl
theorem dX3_rowTells_13 : decode cX3_rowTells 13 = .ok (.if_icmp .ge 32, 3) := qz_s2 (.if_icmp .ge) 0 32 qo_162 (by decide +kernel) rfl
theorem dX3_rowTells_16 : decode cX3_rowTells 16 = .ok (.aload_n 0, 1) := qd_p qo_42 (by decide +kernel)
theorem dX3_rowTells_17 : decode cX3_rowTells 17 = .ok (.getfield 40, 3) := qz_2 .getfield 0 40 qo_180 (by decide +kernel) rfl
theorem dX3_rowTells_20 : decode cX3_rowTells 20 = .ok (.iload_n 2, 1) := qd_p qo_28 (by decide +kernel)
theorem dX3_rowTells_21 : decode cX3_rowTells 21 = .ok (.iaload, 1) := qd_p qo_46 (by decide +kernel)
theorem dX3_rowTells_22 : decode cX3_rowTells 22 = .ok (.aload_n 0, 1) := qd_p qo_42 (by decide +kernel)
theorem dX3_rowTells_23 : decode cX3_rowTells 23 = .ok (.getfield 16, 3) := qz_2 .getfield 0 16 qo_180 (by decide +kernel) rfl
theorem dX3_rowTells_26 : decode cX3_rowTells 26 = .ok (.iload_n 2, 1) := qd_p qo_28 (by decide +kernel)
theorem dX3_rowTells_27 : decode cX3_rowTells 27 = .ok (.iload_n 1, 1) := qd_p qo_27 (by decide +kernel)
theorem dX3_rowTells_28 : decode cX3_rowTells 28 = .ok (.invokevirtual 223, 3) := qz_2 .invokevirtual 0 223 qo_182 (by decide +kernel) rfl
theorem dX3_rowTells_31 : decode cX3_rowTells 31 = .ok (.invokestatic 281, 3) := qz_2 .invokestatic 1 25 qo_184 (by decide +kernel) rfl
theorem dX3_rowTells_34 : decode cX3_rowTells 34 = .ok (.if_icmp .eq 5, 3) := qz_s2 (.if_icmp .eq) 0 5 qo_159 (by decide +kernel) rfl
theorem dX3_rowTells_37 : decode cX3_rowTells 37 = .ok (.iconst 0, 1) := qd_p qo_3 (by decide +kernel)
theorem dX3_rowTells_38 : decode cX3_rowTells 38 = .ok (.ireturn, 1) := qd_p qo_172 (by decide +kernel)
theorem dX3_rowTells_39 : decode cX3_rowTells 39 = .ok (.iinc 2 1, 3) := qd_i (x := 2) (y := 1) qo_132 (by decide +kernel) rfl
theorem dX3_rowTells_42 : decode cX3_rowTells 42 = .ok (.goto (-40), 3) := qz_s2 .goto 255 216 qo_167 (by decide +kernel) rfl
theorem dX3_rowTells_45 : decode cX3_rowTells 45 = .ok (.iconst 1, 1) := qd_p qo_4 (by decide +kernel)
theorem dX3_rowTells_46 : decode cX3_rowTells 46 = .ok (.ireturn, 1) := qd_p qo_172 (by decide +kernel)
theorem dX3_whichLaw_0 : decode cX3_whichLaw 0 = .ok (.aload_n 0, 1) := qd_p qo_42 (by decide +kernel)
theorem dX3_whichLaw_1 : decode cX3_whichLaw 1 = .ok (.invokevirtual 275, 3) := qz_2 .invokevirtual 1 19 qo_182 (by decide +kernel) rfl
theorem dX3_whichLaw_4 : decode cX3_whichLaw 4 = .ok (.istore_n 1, 1) := qd_p qo_60 (by decide +kernel)
theorem dX3_whichLaw_5 : decode cX3_whichLaw 5 = .ok (.iload_n 1, 1) := qd_p qo_27 (by decide +kernel)
theorem dX3_whichLaw_6 : decode cX3_whichLaw 6 = .ok (.ifCond .eq 9, 3) := qz_s2 (.ifCond .eq) 0 9 qo_153 (by decide +kernel) rfl
theorem dX3_whichLaw_9 : decode cX3_whichLaw 9 = .ok (.aload_n 0, 1) := qd_p qo_42 (by decide +kernel)
theorem dX3_whichLaw_10 : decode cX3_whichLaw 10 = .ok (.iload_n 1, 1) := qd_p qo_27 (by decide +kernel)
theorem dX3_whichLaw_11 : decode cX3_whichLaw 11 = .ok (.invokevirtual 61, 3) := qz_2 .invokevirtual 0 61 qo_182 (by decide +kernel) rfl
theorem dX3_whichLaw_14 : decode cX3_whichLaw 14 = .ok (.ireturn, 1) := qd_p qo_172 (by decide +kernel)
theorem dX3_whichLaw_15 : decode cX3_whichLaw 15 = .ok (.aload_n 0, 1) := qd_p qo_42 (by decide +kernel)
theorem dX3_whichLaw_16 : decode cX3_whichLaw 16 = .ok (.getfield 16, 3) := qz_2 .getfield 0 16 qo_180 (by decide +kernel) rfl
theorem dX3_whichLaw_19 : decode cX3_whichLaw 19 = .ok (.aload_n 0, 1) := qd_p qo_42 (by decide +kernel)
theorem dX3_whichLaw_20 : decode cX3_whichLaw 20 = .ok (.getfield 10, 3) := qz_2 .getfield 0 10 qo_180 (by decide +kernel) rfl
theorem dX3_whichLaw_23 : decode cX3_whichLaw 23 = .ok (.invokevirtual 106, 3) := qz_2 .invokevirtual 0 106 qo_182 (by decide +kernel) rfl
theorem dX3_whichLaw_26 : decode cX3_whichLaw 26 = .ok (.iconst 0, 1) := qd_p qo_3 (by decide +kernel)
theorem dX3_whichLaw_27 : decode cX3_whichLaw 27 = .ok (.istore_n 2, 1) := qd_p qo_61 (by decide +kernel)
theorem dX3_whichLaw_28 : decode cX3_whichLaw 28 = .ok (.iconst 0, 1) := qd_p qo_3 (by decide +kernel)
theorem dX3_whichLaw_29 : decode cX3_whichLaw 29 = .ok (.istore_n 3, 1) := qd_p qo_62 (by decide +kernel)
theorem dX3_whichLaw_30 : decode cX3_whichLaw 30 = .ok (.iload_n 3, 1) := qd_p qo_29 (by decide +kernel)
theorem dX3_whichLaw_31 : decode cX3_whichLaw 31 = .ok (.iconst 3, 1) := qd_p qo_6 (by decide +kernel)
theorem dX3_whichLaw_32 : decode cX3_whichLaw 32 = .ok (.if_icmp .ge 39, 3) := qz_s2 (.if_icmp .ge) 0 39 qo_162 (by decide +kernel) rfl
theorem dX3_whichLaw_35 : decode cX3_whichLaw 35 = .ok (.aload_n 0, 1) := qd_p qo_42 (by decide +kernel)
theorem dX3_whichLaw_36 : decode cX3_whichLaw 36 = .ok (.getfield 16, 3) := qz_2 .getfield 0 16 qo_180 (by decide +kernel) rfl
theorem dX3_whichLaw_39 : decode cX3_whichLaw 39 = .ok (.iload_n 3, 1) := qd_p qo_29 (by decide +kernel)
theorem dX3_whichLaw_40 : decode cX3_whichLaw 40 = .ok (.invokevirtual 196, 3) := qz_2 .invokevirtual 0 196 qo_182 (by decide +kernel) rfl
theorem dX3_whichLaw_43 : decode cX3_whichLaw 43 = .ok (.pop, 1) := qd_p qo_87 (by decide +kernel)
theorem dX3_whichLaw_44 : decode cX3_whichLaw 44 = .ok (.aload_n 0, 1) := qd_p qo_42 (by decide +kernel)
theorem dX3_whichLaw_45 : decode cX3_whichLaw 45 = .ok (.getfield 16, 3) := qz_2 .getfield 0 16 qo_180 (by decide +kernel) rfl
theorem dX3_whichLaw_48 : decode cX3_whichLaw 48 = .ok (.invokevirtual 141, 3) := qz_2 .invokevirtual 0 141 qo_182 (by decide +kernel) rfl
theorem dX3_whichLaw_51 : decode cX3_whichLaw 51 = .ok (.aload_n 0, 1) := qd_p qo_42 (by decide +kernel)
theorem dX3_whichLaw_52 : decode cX3_whichLaw 52 = .ok (.iconst 0, 1) := qd_p qo_3 (by decide +kernel)
theorem dX3_whichLaw_53 : decode cX3_whichLaw 53 = .ok (.invokevirtual 278, 3) := qz_2 .invokevirtual 1 22 qo_182 (by decide +kernel) rfl
theorem dX3_whichLaw_56 : decode cX3_whichLaw 56 = .ok (.ifCond .eq 9, 3) := qz_s2 (.ifCond .eq) 0 9 qo_153 (by decide +kernel) rfl
theorem dX3_whichLaw_59 : decode cX3_whichLaw 59 = .ok (.iload_n 2, 1) := qd_p qo_28 (by decide +kernel)
theorem dX3_whichLaw_60 : decode cX3_whichLaw 60 = .ok (.iconst 1, 1) := qd_p qo_4 (by decide +kernel)
theorem dX3_whichLaw_61 : decode cX3_whichLaw 61 = .ok (.iload_n 3, 1) := qd_p qo_29 (by decide +kernel)
theorem dX3_whichLaw_62 : decode cX3_whichLaw 62 = .ok (.ishl, 1) := qd_p qo_120 (by decide +kernel)
theorem dX3_whichLaw_63 : decode cX3_whichLaw 63 = .ok (.ior, 1) := qd_p qo_128 (by decide +kernel)
theorem dX3_whichLaw_64 : decode cX3_whichLaw 64 = .ok (.istore_n 2, 1) := qd_p qo_61 (by decide +kernel)
theorem dX3_whichLaw_65 : decode cX3_whichLaw 65 = .ok (.iinc 3 1, 3) := qd_i (x := 3) (y := 1) qo_132 (by decide +kernel) rfl
theorem dX3_whichLaw_68 : decode cX3_whichLaw 68 = .ok (.goto (-38), 3) := qz_s2 .goto 255 218 qo_167 (by decide +kernel) rfl
theorem dX3_whichLaw_71 : decode cX3_whichLaw 71 = .ok (.iload_n 2, 1) := qd_p qo_28 (by decide +kernel)
theorem dX3_whichLaw_72 : decode cX3_whichLaw 72 = .ok (.ireturn, 1) := qd_p qo_172 (by decide +kernel)
theorem dX3_whichKind_0 : decode cX3_whichKind 0 = .ok (.aload_n 0, 1) := qd_p qo_42 (by decide +kernel)
theorem dX3_whichKind_1 : decode cX3_whichKind 1 = .ok (.iload_n 1, 1) := qd_p qo_27 (by decide +kernel)
theorem dX3_whichKind_2 : decode cX3_whichKind 2 = .ok (.iload_n 2, 1) := qd_p qo_28 (by decide +kernel)
theorem dX3_whichKind_3 : decode cX3_whichKind 3 = .ok (.invokevirtual 226, 3) := qz_2 .invokevirtual 0 226 qo_182 (by decide +kernel) rfl
theorem dX3_whichKind_6 : decode cX3_whichKind 6 = .ok (.iload_n 3, 1) := qd_p qo_29 (by decide +kernel)
theorem dX3_whichKind_7 : decode cX3_whichKind 7 = .ok (.iconst 2, 1) := qd_p qo_5 (by decide +kernel)
theorem dX3_whichKind_8 : decode cX3_whichKind 8 = .ok (.invokestatic 123, 3) := qz_2 .invokestatic 0 123 qo_184 (by decide +kernel) rfl
theorem dX3_whichKind_11 : decode cX3_whichKind 11 = .ok (.aload_n 0, 1) := qd_p qo_42 (by decide +kernel)
theorem dX3_whichKind_12 : decode cX3_whichKind 12 = .ok (.invokevirtual 275, 3) := qz_2 .invokevirtual 1 19 qo_182 (by decide +kernel) rfl
theorem dX3_whichKind_15 : decode cX3_whichKind 15 = .ok (.invokestatic 85, 3) := qz_2 .invokestatic 0 85 qo_184 (by decide +kernel) rfl
theorem dX3_whichKind_18 : decode cX3_whichKind 18 = .ok (.invokestatic 85, 3) := qz_2 .invokestatic 0 85 qo_184 (by decide +kernel) rfl
theorem dX3_whichKind_21 : decode cX3_whichKind 21 = .ok (.istore 4, 2) := qz_1 .istore 4 qo_54 (by decide +kernel)
theorem dX3_whichKind_23 : decode cX3_whichKind 23 = .ok (.iload 4, 2) := qz_1 .iload 4 qo_21 (by decide +kernel)
theorem dX3_whichKind_25 : decode cX3_whichKind 25 = .ok (.ifCond .eq 10, 3) := qz_s2 (.ifCond .eq) 0 10 qo_153 (by decide +kernel) rfl
theorem dX3_whichKind_28 : decode cX3_whichKind 28 = .ok (.aload_n 0, 1) := qd_p qo_42 (by decide +kernel)
theorem dX3_whichKind_29 : decode cX3_whichKind 29 = .ok (.iload 4, 2) := qz_1 .iload 4 qo_21 (by decide +kernel)
theorem dX3_whichKind_31 : decode cX3_whichKind 31 = .ok (.invokevirtual 61, 3) := qz_2 .invokevirtual 0 61 qo_182 (by decide +kernel) rfl
theorem dX3_whichKind_34 : decode cX3_whichKind 34 = .ok (.ireturn, 1) := qd_p qo_172 (by decide +kernel)
theorem dX3_whichKind_35 : decode cX3_whichKind 35 = .ok (.aload_n 0, 1) := qd_p qo_42 (by decide +kernel)
theorem dX3_whichKind_36 : decode cX3_whichKind 36 = .ok (.getfield 16, 3) := qz_2 .getfield 0 16 qo_180 (by decide +kernel) rfl
theorem dX3_whichKind_39 : decode cX3_whichKind 39 = .ok (.aload_n 0, 1) := qd_p qo_42 (by decide +kernel)
theorem dX3_whichKind_40 : decode cX3_whichKind 40 = .ok (.getfield 10, 3) := qz_2 .getfield 0 10 qo_180 (by decide +kernel) rfl
theorem dX3_whichKind_43 : decode cX3_whichKind 43 = .ok (.invokevirtual 106, 3) := qz_2 .invokevirtual 0 106 qo_182 (by decide +kernel) rfl
theorem dX3_whichKind_46 : decode cX3_whichKind 46 = .ok (.iconst 0, 1) := qd_p qo_3 (by decide +kernel)
theorem dX3_whichKind_47 : decode cX3_whichKind 47 = .ok (.istore 5, 2) := qz_1 .istore 5 qo_54 (by decide +kernel)
theorem dX3_whichKind_49 : decode cX3_whichKind 49 = .ok (.iload_n 3, 1) := qd_p qo_29 (by decide +kernel)
theorem dX3_whichKind_50 : decode cX3_whichKind 50 = .ok (.ifCond .ne 7, 3) := qz_s2 (.ifCond .ne) 0 7 qo_154 (by decide +kernel) rfl
theorem dX3_whichKind_53 : decode cX3_whichKind 53 = .ok (.iconst 5, 1) := qd_p qo_8 (by decide +kernel)
theorem dX3_whichKind_54 : decode cX3_whichKind 54 = .ok (.goto 5, 3) := qz_s2 .goto 0 5 qo_167 (by decide +kernel) rfl
theorem dX3_whichKind_57 : decode cX3_whichKind 57 = .ok (.bipush 9, 2) := qz_s1 .bipush 9 qo_16 (by decide +kernel) rfl
theorem dX3_whichKind_59 : decode cX3_whichKind 59 = .ok (.istore 6, 2) := qz_1 .istore 6 qo_54 (by decide +kernel)
theorem dX3_whichKind_61 : decode cX3_whichKind 61 = .ok (.iconst 0, 1) := qd_p qo_3 (by decide +kernel)
theorem dX3_whichKind_62 : decode cX3_whichKind 62 = .ok (.istore 7, 2) := qz_1 .istore 7 qo_54 (by decide +kernel)
theorem dX3_whichKind_64 : decode cX3_whichKind 64 = .ok (.iload 7, 2) := qz_1 .iload 7 qo_21 (by decide +kernel)
theorem dX3_whichKind_66 : decode cX3_whichKind 66 = .ok (.iload 6, 2) := qz_1 .iload 6 qo_21 (by decide +kernel)
theorem dX3_whichKind_68 : decode cX3_whichKind 68 = .ok (.if_icmp .gt 62, 3) := qz_s2 (.if_icmp .gt) 0 62 qo_163 (by decide +kernel) rfl
theorem dX3_whichKind_71 : decode cX3_whichKind 71 = .ok (.iload_n 3, 1) := qd_p qo_29 (by decide +kernel)
theorem dX3_whichKind_72 : decode cX3_whichKind 72 = .ok (.ifCond .ne 17, 3) := qz_s2 (.ifCond .ne) 0 17 qo_154 (by decide +kernel) rfl
theorem dX3_whichKind_75 : decode cX3_whichKind 75 = .ok (.aload_n 0, 1) := qd_p qo_42 (by decide +kernel)
theorem dX3_whichKind_76 : decode cX3_whichKind 76 = .ok (.getfield 16, 3) := qz_2 .getfield 0 16 qo_180 (by decide +kernel) rfl
theorem dX3_whichKind_79 : decode cX3_whichKind 79 = .ok (.getfield 132, 3) := qz_2 .getfield 0 132 qo_180 (by decide +kernel) rfl
theorem dX3_whichKind_82 : decode cX3_whichKind 82 = .ok (.iload_n 1, 1) := qd_p qo_27 (by decide +kernel)
theorem dX3_whichKind_83 : decode cX3_whichKind 83 = .ok (.iload 7, 2) := qz_1 .iload 7 qo_21 (by decide +kernel)
theorem dX3_whichKind_85 : decode cX3_whichKind 85 = .ok (.iastore, 1) := qd_p qo_79 (by decide +kernel)
theorem dX3_whichKind_86 : decode cX3_whichKind 86 = .ok (.goto 14, 3) := qz_s2 .goto 0 14 qo_167 (by decide +kernel) rfl
theorem dX3_whichKind_89 : decode cX3_whichKind 89 = .ok (.aload_n 0, 1) := qd_p qo_42 (by decide +kernel)
theorem dX3_whichKind_90 : decode cX3_whichKind 90 = .ok (.getfield 16, 3) := qz_2 .getfield 0 16 qo_180 (by decide +kernel) rfl
theorem dX3_whichKind_93 : decode cX3_whichKind 93 = .ok (.getfield 135, 3) := qz_2 .getfield 0 135 qo_180 (by decide +kernel) rfl
theorem dX3_whichKind_96 : decode cX3_whichKind 96 = .ok (.iload_n 1, 1) := qd_p qo_27 (by decide +kernel)
theorem dX3_whichKind_97 : decode cX3_whichKind 97 = .ok (.iload 7, 2) := qz_1 .iload 7 qo_21 (by decide +kernel)
theorem dX3_whichKind_99 : decode cX3_whichKind 99 = .ok (.iastore, 1) := qd_p qo_79 (by decide +kernel)
theorem dX3_whichKind_100 : decode cX3_whichKind 100 = .ok (.aload_n 0, 1) := qd_p qo_42 (by decide +kernel)
theorem dX3_whichKind_101 : decode cX3_whichKind 101 = .ok (.getfield 16, 3) := qz_2 .getfield 0 16 qo_180 (by decide +kernel) rfl
theorem dX3_whichKind_104 : decode cX3_whichKind 104 = .ok (.invokevirtual 141, 3) := qz_2 .invokevirtual 0 141 qo_182 (by decide +kernel) rfl
theorem dX3_whichKind_107 : decode cX3_whichKind 107 = .ok (.aload_n 0, 1) := qd_p qo_42 (by decide +kernel)
theorem dX3_whichKind_108 : decode cX3_whichKind 108 = .ok (.iload_n 2, 1) := qd_p qo_28 (by decide +kernel)
theorem dX3_whichKind_109 : decode cX3_whichKind 109 = .ok (.invokevirtual 278, 3) := qz_2 .invokevirtual 1 22 qo_182 (by decide +kernel) rfl
theorem dX3_whichKind_112 : decode cX3_whichKind 112 = .ok (.ifCond .eq 12, 3) := qz_s2 (.ifCond .eq) 0 12 qo_153 (by decide +kernel) rfl
theorem dX3_whichKind_115 : decode cX3_whichKind 115 = .ok (.iload 5, 2) := qz_1 .iload 5 qo_21 (by decide +kernel)
theorem dX3_whichKind_117 : decode cX3_whichKind 117 = .ok (.iconst 1, 1) := qd_p qo_4 (by decide +kernel)
theorem dX3_whichKind_118 : decode cX3_whichKind 118 = .ok (.iload 7, 2) := qz_1 .iload 7 qo_21 (by decide +kernel)
theorem dX3_whichKind_120 : decode cX3_whichKind 120 = .ok (.ishl, 1) := qd_p qo_120 (by decide +kernel)
theorem dX3_whichKind_121 : decode cX3_whichKind 121 = .ok (.ior, 1) := qd_p qo_128 (by decide +kernel)
theorem dX3_whichKind_122 : decode cX3_whichKind 122 = .ok (.istore 5, 2) := qz_1 .istore 5 qo_54 (by decide +kernel)
theorem dX3_whichKind_124 : decode cX3_whichKind 124 = .ok (.iinc 7 1, 3) := qd_i (x := 7) (y := 1) qo_132 (by decide +kernel) rfl
theorem dX3_whichKind_127 : decode cX3_whichKind 127 = .ok (.goto (-63), 3) := qz_s2 .goto 255 193 qo_167 (by decide +kernel) rfl
theorem dX3_whichKind_130 : decode cX3_whichKind 130 = .ok (.iload 5, 2) := qz_1 .iload 5 qo_21 (by decide +kernel)
theorem dX3_whichKind_132 : decode cX3_whichKind 132 = .ok (.ireturn, 1) := qd_p qo_172 (by decide +kernel)
theorem dX3_ownsWell_0 : decode cX3_ownsWell 0 = .ok (.aload_n 0, 1) := qd_p qo_42 (by decide +kernel)
theorem dX3_ownsWell_1 : decode cX3_ownsWell 1 = .ok (.getfield 16, 3) := qz_2 .getfield 0 16 qo_180 (by decide +kernel) rfl
theorem dX3_ownsWell_4 : decode cX3_ownsWell 4 = .ok (.getfield 217, 3) := qz_2 .getfield 0 217 qo_180 (by decide +kernel) rfl
theorem dX3_ownsWell_7 : decode cX3_ownsWell 7 = .ok (.iload_n 1, 1) := qd_p qo_27 (by decide +kernel)
theorem dX3_ownsWell_8 : decode cX3_ownsWell 8 = .ok (.aaload, 1) := qd_p qo_50 (by decide +kernel)
theorem dX3_ownsWell_9 : decode cX3_ownsWell 9 = .ok (.iload_n 2, 1) := qd_p qo_28 (by decide +kernel)
theorem dX3_ownsWell_10 : decode cX3_ownsWell 10 = .ok (.aload_n 0, 1) := qd_p qo_42 (by decide +kernel)
theorem dX3_ownsWell_11 : decode cX3_ownsWell 11 = .ok (.getfield 10, 3) := qz_2 .getfield 0 10 qo_180 (by decide +kernel) rfl
theorem dX3_ownsWell_14 : decode cX3_ownsWell 14 = .ok (.iload_n 1, 1) := qd_p qo_27 (by decide +kernel)
theorem dX3_ownsWell_15 : decode cX3_ownsWell 15 = .ok (.iload_n 2, 1) := qd_p qo_28 (by decide +kernel)
theorem dX3_ownsWell_16 : decode cX3_ownsWell 16 = .ok (.iload 4, 2) := qz_1 .iload 4 qo_21 (by decide +kernel)
theorem dX3_ownsWell_18 : decode cX3_ownsWell 18 = .ok (.invokevirtual 287, 3) := qz_2 .invokevirtual 1 31 qo_182 (by decide +kernel) rfl
theorem dX3_ownsWell_21 : decode cX3_ownsWell 21 = .ok (.iastore, 1) := qd_p qo_79 (by decide +kernel)
theorem dX3_ownsWell_22 : decode cX3_ownsWell 22 = .ok (.aload_n 0, 1) := qd_p qo_42 (by decide +kernel)
theorem dX3_ownsWell_23 : decode cX3_ownsWell 23 = .ok (.getfield 16, 3) := qz_2 .getfield 0 16 qo_180 (by decide +kernel) rfl
theorem dX3_ownsWell_26 : decode cX3_ownsWell 26 = .ok (.getfield 220, 3) := qz_2 .getfield 0 220 qo_180 (by decide +kernel) rfl
theorem dX3_ownsWell_29 : decode cX3_ownsWell 29 = .ok (.iload_n 1, 1) := qd_p qo_27 (by decide +kernel)
theorem dX3_ownsWell_30 : decode cX3_ownsWell 30 = .ok (.aaload, 1) := qd_p qo_50 (by decide +kernel)
theorem dX3_ownsWell_31 : decode cX3_ownsWell 31 = .ok (.iload_n 2, 1) := qd_p qo_28 (by decide +kernel)
theorem dX3_ownsWell_32 : decode cX3_ownsWell 32 = .ok (.iconst 0, 1) := qd_p qo_3 (by decide +kernel)
theorem dX3_ownsWell_33 : decode cX3_ownsWell 33 = .ok (.iastore, 1) := qd_p qo_79 (by decide +kernel)
theorem dX3_ownsWell_34 : decode cX3_ownsWell 34 = .ok (.aload_n 0, 1) := qd_p qo_42 (by decide +kernel)
theorem dX3_ownsWell_35 : decode cX3_ownsWell 35 = .ok (.getfield 16, 3) := qz_2 .getfield 0 16 qo_180 (by decide +kernel) rfl
theorem dX3_ownsWell_38 : decode cX3_ownsWell 38 = .ok (.iload_n 2, 1) := qd_p qo_28 (by decide +kernel)
theorem dX3_ownsWell_39 : decode cX3_ownsWell 39 = .ok (.iload_n 3, 1) := qd_p qo_29 (by decide +kernel)
theorem dX3_ownsWell_40 : decode cX3_ownsWell 40 = .ok (.invokevirtual 223, 3) := qz_2 .invokevirtual 0 223 qo_182 (by decide +kernel) rfl
theorem dX3_ownsWell_43 : decode cX3_ownsWell 43 = .ok (.iload_n 1, 1) := qd_p qo_27 (by decide +kernel)
theorem dX3_ownsWell_44 : decode cX3_ownsWell 44 = .ok (.if_icmp .ne 7, 3) := qz_s2 (.if_icmp .ne) 0 7 qo_160 (by decide +kernel) rfl
theorem dX3_ownsWell_47 : decode cX3_ownsWell 47 = .ok (.iconst 1, 1) := qd_p qo_4 (by decide +kernel)
theorem dX3_ownsWell_48 : decode cX3_ownsWell 48 = .ok (.goto 4, 3) := qz_s2 .goto 0 4 qo_167 (by decide +kernel) rfl
theorem dX3_ownsWell_51 : decode cX3_ownsWell 51 = .ok (.iconst 0, 1) := qd_p qo_3 (by decide +kernel)
theorem dX3_ownsWell_52 : decode cX3_ownsWell 52 = .ok (.ireturn, 1) := qd_p qo_172 (by decide +kernel)
theorem dX3_ill_0 : decode cX3_ill 0 = .ok (.aload_n 0, 1) := qd_p qo_42 (by decide +kernel)
theorem dX3_ill_1 : decode cX3_ill 1 = .ok (.iload_n 1, 1) := qd_p qo_27 (by decide +kernel)
theorem dX3_ill_2 : decode cX3_ill 2 = .ok (.invokevirtual 78, 3) := qz_2 .invokevirtual 0 78 qo_182 (by decide +kernel) rfl
theorem dX3_ill_5 : decode cX3_ill 5 = .ok (.iload_n 2, 1) := qd_p qo_28 (by decide +kernel)
theorem dX3_ill_6 : decode cX3_ill 6 = .ok (.invokestatic 174, 3) := qz_2 .invokestatic 0 174 qo_184 (by decide +kernel) rfl
theorem dX3_ill_9 : decode cX3_ill 9 = .ok (.invokestatic 85, 3) := qz_2 .invokestatic 0 85 qo_184 (by decide +kernel) rfl
theorem dX3_ill_12 : decode cX3_ill 12 = .ok (.istore 6, 2) := qz_1 .istore 6 qo_54 (by decide +kernel)
theorem dX3_ill_14 : decode cX3_ill 14 = .ok (.iload 6, 2) := qz_1 .iload 6 qo_21 (by decide +kernel)
theorem dX3_ill_16 : decode cX3_ill 16 = .ok (.ifCond .ne 17, 3) := qz_s2 (.ifCond .ne) 0 17 qo_154 (by decide +kernel) rfl
theorem dX3_ill_19 : decode cX3_ill 19 = .ok (.iload_n 3, 1) := qd_p qo_29 (by decide +kernel)
theorem dX3_ill_20 : decode cX3_ill 20 = .ok (.ifCond .lt 9, 3) := qz_s2 (.ifCond .lt) 0 9 qo_155 (by decide +kernel) rfl
theorem dX3_ill_23 : decode cX3_ill 23 = .ok (.iload 4, 2) := qz_1 .iload 4 qo_21 (by decide +kernel)
theorem dX3_ill_25 : decode cX3_ill 25 = .ok (.iconst 2, 1) := qd_p qo_5 (by decide +kernel)
theorem dX3_ill_26 : decode cX3_ill 26 = .ok (.if_icmp .ge 7, 3) := qz_s2 (.if_icmp .ge) 0 7 qo_162 (by decide +kernel) rfl
theorem dX3_ill_29 : decode cX3_ill 29 = .ok (.bipush (-4), 2) := qz_s1 .bipush 252 qo_16 (by decide +kernel) rfl
theorem dX3_ill_31 : decode cX3_ill 31 = .ok (.istore 6, 2) := qz_1 .istore 6 qo_54 (by decide +kernel)
theorem dX3_ill_33 : decode cX3_ill 33 = .ok (.iload 6, 2) := qz_1 .iload 6 qo_21 (by decide +kernel)
theorem dX3_ill_35 : decode cX3_ill 35 = .ok (.ifCond .ne 20, 3) := qz_s2 (.ifCond .ne) 0 20 qo_154 (by decide +kernel) rfl
theorem dX3_ill_38 : decode cX3_ill 38 = .ok (.iload_n 3, 1) := qd_p qo_29 (by decide +kernel)
theorem dX3_ill_39 : decode cX3_ill 39 = .ok (.bipush 8, 2) := qz_s1 .bipush 8 qo_16 (by decide +kernel) rfl
theorem dX3_ill_41 : decode cX3_ill 41 = .ok (.if_icmp .gt 10, 3) := qz_s2 (.if_icmp .gt) 0 10 qo_163 (by decide +kernel) rfl
theorem dX3_ill_44 : decode cX3_ill 44 = .ok (.iload 4, 2) := qz_1 .iload 4 qo_21 (by decide +kernel)
theorem dX3_ill_46 : decode cX3_ill 46 = .ok (.bipush 20, 2) := qz_s1 .bipush 20 qo_16 (by decide +kernel) rfl
theorem dX3_ill_48 : decode cX3_ill 48 = .ok (.if_icmp .le 7, 3) := qz_s2 (.if_icmp .le) 0 7 qo_164 (by decide +kernel) rfl
theorem dX3_ill_51 : decode cX3_ill 51 = .ok (.bipush (-6), 2) := qz_s1 .bipush 250 qo_16 (by decide +kernel) rfl
theorem dX3_ill_53 : decode cX3_ill 53 = .ok (.istore 6, 2) := qz_1 .istore 6 qo_54 (by decide +kernel)
theorem dX3_ill_55 : decode cX3_ill 55 = .ok (.iload 6, 2) := qz_1 .iload 6 qo_21 (by decide +kernel)
theorem dX3_ill_57 : decode cX3_ill 57 = .ok (.iload 5, 2) := qz_1 .iload 5 qo_21 (by decide +kernel)
theorem dX3_ill_59 : decode cX3_ill 59 = .ok (.iconst 2, 1) := qd_p qo_5 (by decide +kernel)
theorem dX3_ill_60 : decode cX3_ill 60 = .ok (.invokestatic 123, 3) := qz_2 .invokestatic 0 123 qo_184 (by decide +kernel) rfl
theorem dX3_ill_63 : decode cX3_ill 63 = .ok (.invokestatic 85, 3) := qz_2 .invokestatic 0 85 qo_184 (by decide +kernel) rfl
theorem dX3_ill_66 : decode cX3_ill 66 = .ok (.istore 6, 2) := qz_1 .istore 6 qo_54 (by decide +kernel)
theorem dX3_ill_68 : decode cX3_ill 68 = .ok (.iload 6, 2) := qz_1 .iload 6 qo_21 (by decide +kernel)
theorem dX3_ill_70 : decode cX3_ill 70 = .ok (.ifCond .eq 10, 3) := qz_s2 (.ifCond .eq) 0 10 qo_153 (by decide +kernel) rfl
theorem dX3_ill_73 : decode cX3_ill 73 = .ok (.aload_n 0, 1) := qd_p qo_42 (by decide +kernel)
theorem dX3_ill_74 : decode cX3_ill 74 = .ok (.iload 6, 2) := qz_1 .iload 6 qo_21 (by decide +kernel)
theorem dX3_ill_76 : decode cX3_ill 76 = .ok (.invokevirtual 260, 3) := qz_2 .invokevirtual 1 4 qo_182 (by decide +kernel) rfl
theorem dX3_ill_79 : decode cX3_ill 79 = .ok (.lreturn, 1) := qd_p qo_173 (by decide +kernel)
theorem dX3_ill_80 : decode cX3_ill 80 = .ok (.aload_n 0, 1) := qd_p qo_42 (by decide +kernel)
theorem dX3_ill_81 : decode cX3_ill 81 = .ok (.getfield 10, 3) := qz_2 .getfield 0 10 qo_180 (by decide +kernel) rfl
theorem dX3_ill_84 : decode cX3_ill 84 = .ok (.invokevirtual 141, 3) := qz_2 .invokevirtual 0 141 qo_182 (by decide +kernel) rfl
theorem dX3_ill_87 : decode cX3_ill 87 = .ok (.aload_n 0, 1) := qd_p qo_42 (by decide +kernel)
theorem dX3_ill_88 : decode cX3_ill 88 = .ok (.getfield 16, 3) := qz_2 .getfield 0 16 qo_180 (by decide +kernel) rfl
theorem dX3_ill_91 : decode cX3_ill 91 = .ok (.aload_n 0, 1) := qd_p qo_42 (by decide +kernel)
theorem dX3_ill_92 : decode cX3_ill 92 = .ok (.getfield 10, 3) := qz_2 .getfield 0 10 qo_180 (by decide +kernel) rfl
theorem dX3_ill_95 : decode cX3_ill 95 = .ok (.invokevirtual 106, 3) := qz_2 .invokevirtual 0 106 qo_182 (by decide +kernel) rfl
theorem dX3_ill_98 : decode cX3_ill 98 = .ok (.aload_n 0, 1) := qd_p qo_42 (by decide +kernel)
theorem dX3_ill_99 : decode cX3_ill 99 = .ok (.getfield 16, 3) := qz_2 .getfield 0 16 qo_180 (by decide +kernel) rfl
theorem dX3_ill_102 : decode cX3_ill 102 = .ok (.invokevirtual 141, 3) := qz_2 .invokevirtual 0 141 qo_182 (by decide +kernel) rfl
theorem dX3_ill_105 : decode cX3_ill 105 = .ok (.lconst 0, 1) := qd_p qo_9 (by decide +kernel)
theorem dX3_ill_106 : decode cX3_ill 106 = .ok (.lstore 7, 2) := qz_1 .lstore 7 qo_55 (by decide +kernel)
theorem dX3_ill_108 : decode cX3_ill 108 = .ok (.lconst 1, 1) := qd_p qo_10 (by decide +kernel)
theorem dX3_ill_109 : decode cX3_ill 109 = .ok (.lstore 9, 2) := qz_1 .lstore 9 qo_55 (by decide +kernel)
theorem dX3_ill_111 : decode cX3_ill 111 = .ok (.lconst 1, 1) := qd_p qo_10 (by decide +kernel)
theorem dX3_ill_112 : decode cX3_ill 112 = .ok (.lstore 11, 2) := qz_1 .lstore 11 qo_55 (by decide +kernel)
theorem dX3_ill_114 : decode cX3_ill 114 = .ok (.iconst 0, 1) := qd_p qo_3 (by decide +kernel)
theorem dX3_ill_115 : decode cX3_ill 115 = .ok (.istore 13, 2) := qz_1 .istore 13 qo_54 (by decide +kernel)
theorem dX3_ill_117 : decode cX3_ill 117 = .ok (.iload 13, 2) := qz_1 .iload 13 qo_21 (by decide +kernel)
theorem dX3_ill_119 : decode cX3_ill 119 = .ok (.iload_n 3, 1) := qd_p qo_29 (by decide +kernel)
theorem dX3_ill_120 : decode cX3_ill 120 = .ok (.if_icmp .gt 69, 3) := qz_s2 (.if_icmp .gt) 0 69 qo_163 (by decide +kernel) rfl
theorem dX3_ill_123 : decode cX3_ill 123 = .ok (.aload_n 0, 1) := qd_p qo_42 (by decide +kernel)
theorem dX3_ill_124 : decode cX3_ill 124 = .ok (.iload_n 1, 1) := qd_p qo_27 (by decide +kernel)
theorem dX3_ill_125 : decode cX3_ill 125 = .ok (.iload_n 2, 1) := qd_p qo_28 (by decide +kernel)
theorem dX3_ill_126 : decode cX3_ill 126 = .ok (.iload_n 3, 1) := qd_p qo_29 (by decide +kernel)
theorem dX3_ill_127 : decode cX3_ill 127 = .ok (.iload 13, 2) := qz_1 .iload 13 qo_21 (by decide +kernel)
theorem dX3_ill_129 : decode cX3_ill 129 = .ok (.invokevirtual 284, 3) := qz_2 .invokevirtual 1 28 qo_182 (by decide +kernel) rfl
theorem dX3_ill_132 : decode cX3_ill 132 = .ok (.ifCond .eq 10, 3) := qz_s2 (.ifCond .eq) 0 10 qo_153 (by decide +kernel) rfl
theorem dX3_ill_135 : decode cX3_ill 135 = .ok (.lload 7, 2) := qz_1 .lload 7 qo_22 (by decide +kernel)
theorem dX3_ill_137 : decode cX3_ill 137 = .ok (.lload 11, 2) := qz_1 .lload 11 qo_22 (by decide +kernel)
theorem dX3_ill_139 : decode cX3_ill 139 = .ok (.ladd, 1) := qd_p qo_97 (by decide +kernel)
theorem dX3_ill_140 : decode cX3_ill 140 = .ok (.lstore 7, 2) := qz_1 .lstore 7 qo_55 (by decide +kernel)
theorem dX3_ill_142 : decode cX3_ill 142 = .ok (.lload 11, 2) := qz_1 .lload 11 qo_22 (by decide +kernel)
theorem dX3_ill_144 : decode cX3_ill 144 = .ok (.iload_n 3, 1) := qd_p qo_29 (by decide +kernel)
theorem dX3_ill_145 : decode cX3_ill 145 = .ok (.iload 13, 2) := qz_1 .iload 13 qo_21 (by decide +kernel)
theorem dX3_ill_147 : decode cX3_ill 147 = .ok (.isub, 1) := qd_p qo_100 (by decide +kernel)
theorem dX3_ill_148 : decode cX3_ill 148 = .ok (.i2l, 1) := qd_p qo_133 (by decide +kernel)
theorem dX3_ill_149 : decode cX3_ill 149 = .ok (.lmul, 1) := qd_p qo_105 (by decide +kernel)
theorem dX3_ill_150 : decode cX3_ill 150 = .ok (.iload 13, 2) := qz_1 .iload 13 qo_21 (by decide +kernel)
theorem dX3_ill_152 : decode cX3_ill 152 = .ok (.iconst 1, 1) := qd_p qo_4 (by decide +kernel)
theorem dX3_ill_153 : decode cX3_ill 153 = .ok (.iadd, 1) := qd_p qo_96 (by decide +kernel)
theorem dX3_ill_154 : decode cX3_ill 154 = .ok (.i2l, 1) := qd_p qo_133 (by decide +kernel)
theorem dX3_ill_155 : decode cX3_ill 155 = .ok (.ldiv, 1) := qd_p qo_109 (by decide +kernel)
theorem dX3_ill_156 : decode cX3_ill 156 = .ok (.iload 4, 2) := qz_1 .iload 4 qo_21 (by decide +kernel)
theorem dX3_ill_158 : decode cX3_ill 158 = .ok (.iconst 1, 1) := qd_p qo_4 (by decide +kernel)
theorem dX3_ill_159 : decode cX3_ill 159 = .ok (.isub, 1) := qd_p qo_100 (by decide +kernel)
theorem dX3_ill_160 : decode cX3_ill 160 = .ok (.i2l, 1) := qd_p qo_133 (by decide +kernel)
theorem dX3_ill_161 : decode cX3_ill 161 = .ok (.lmul, 1) := qd_p qo_105 (by decide +kernel)
theorem dX3_ill_162 : decode cX3_ill 162 = .ok (.lstore 11, 2) := qz_1 .lstore 11 qo_55 (by decide +kernel)
theorem dX3_ill_164 : decode cX3_ill 164 = .ok (.iload 13, 2) := qz_1 .iload 13 qo_21 (by decide +kernel)
theorem dX3_ill_166 : decode cX3_ill 166 = .ok (.iload_n 3, 1) := qd_p qo_29 (by decide +kernel)
theorem dX3_ill_167 : decode cX3_ill 167 = .ok (.if_icmp .ge 12, 3) := qz_s2 (.if_icmp .ge) 0 12 qo_162 (by decide +kernel) rfl
theorem dX3_ill_170 : decode cX3_ill 170 = .ok (.lload 9, 2) := qz_1 .lload 9 qo_22 (by decide +kernel)
theorem dX3_ill_172 : decode cX3_ill 172 = .ok (.iload 4, 2) := qz_1 .iload 4 qo_21 (by decide +kernel)
theorem dX3_ill_174 : decode cX3_ill 174 = .ok (.i2l, 1) := qd_p qo_133 (by decide +kernel)
theorem dX3_ill_175 : decode cX3_ill 175 = .ok (.lmul, 1) := qd_p qo_105 (by decide +kernel)
theorem dX3_ill_176 : decode cX3_ill 176 = .ok (.goto 5, 3) := qz_s2 .goto 0 5 qo_167 (by decide +kernel) rfl
theorem dX3_ill_179 : decode cX3_ill 179 = .ok (.lload 9, 2) := qz_1 .lload 9 qo_22 (by decide +kernel)
theorem dX3_ill_181 : decode cX3_ill 181 = .ok (.lstore 9, 2) := qz_1 .lstore 9 qo_55 (by decide +kernel)
theorem dX3_ill_183 : decode cX3_ill 183 = .ok (.iinc 13 1, 3) := qd_i (x := 13) (y := 1) qo_132 (by decide +kernel) rfl
theorem dX3_ill_186 : decode cX3_ill 186 = .ok (.goto (-69), 3) := qz_s2 .goto 255 187 qo_167 (by decide +kernel) rfl
theorem dX3_ill_189 : decode cX3_ill 189 = .ok (.lload 7, 2) := qz_1 .lload 7 qo_22 (by decide +kernel)
theorem dX3_ill_191 : decode cX3_ill 191 = .ok (.lload 9, 2) := qz_1 .lload 9 qo_22 (by decide +kernel)
theorem dX3_ill_193 : decode cX3_ill 193 = .ok (.iload 5, 2) := qz_1 .iload 5 qo_21 (by decide +kernel)
theorem dX3_ill_195 : decode cX3_ill 195 = .ok (.invokestatic 264, 3) := qz_2 .invokestatic 1 8 qo_184 (by decide +kernel) rfl
theorem dX3_ill_198 : decode cX3_ill 198 = .ok (.lreturn, 1) := qd_p qo_173 (by decide +kernel)
theorem dX3_busy_0 : decode cX3_busy 0 = .ok (.iload_n 1, 1) := qd_p qo_27 (by decide +kernel)
theorem dX3_busy_1 : decode cX3_busy 1 = .ok (.iconst 2, 1) := qd_p qo_5 (by decide +kernel)
theorem dX3_busy_2 : decode cX3_busy 2 = .ok (.invokestatic 123, 3) := qz_2 .invokestatic 0 123 qo_184 (by decide +kernel) rfl
theorem dX3_busy_5 : decode cX3_busy 5 = .ok (.istore_n 2, 1) := qd_p qo_61 (by decide +kernel)
theorem dX3_busy_6 : decode cX3_busy 6 = .ok (.iload_n 2, 1) := qd_p qo_28 (by decide +kernel)
theorem dX3_busy_7 : decode cX3_busy 7 = .ok (.ifCond .eq 9, 3) := qz_s2 (.ifCond .eq) 0 9 qo_153 (by decide +kernel) rfl
theorem dX3_busy_10 : decode cX3_busy 10 = .ok (.aload_n 0, 1) := qd_p qo_42 (by decide +kernel)
theorem dX3_busy_11 : decode cX3_busy 11 = .ok (.iload_n 2, 1) := qd_p qo_28 (by decide +kernel)
theorem dX3_busy_12 : decode cX3_busy 12 = .ok (.invokevirtual 61, 3) := qz_2 .invokevirtual 0 61 qo_182 (by decide +kernel) rfl
theorem dX3_busy_15 : decode cX3_busy 15 = .ok (.ireturn, 1) := qd_p qo_172 (by decide +kernel)
theorem dX3_busy_16 : decode cX3_busy 16 = .ok (.iconst 0, 1) := qd_p qo_3 (by decide +kernel)
theorem dX3_busy_17 : decode cX3_busy 17 = .ok (.istore_n 3, 1) := qd_p qo_62 (by decide +kernel)
theorem dX3_busy_18 : decode cX3_busy 18 = .ok (.iconst 0, 1) := qd_p qo_3 (by decide +kernel)
theorem dX3_busy_19 : decode cX3_busy 19 = .ok (.istore 4, 2) := qz_1 .istore 4 qo_54 (by decide +kernel)
theorem dX3_busy_21 : decode cX3_busy 21 = .ok (.iconst 0, 1) := qd_p qo_3 (by decide +kernel)
theorem dX3_busy_22 : decode cX3_busy 22 = .ok (.istore 5, 2) := qz_1 .istore 5 qo_54 (by decide +kernel)
theorem dX3_busy_24 : decode cX3_busy 24 = .ok (.iload 5, 2) := qz_1 .iload 5 qo_21 (by decide +kernel)
theorem dX3_busy_26 : decode cX3_busy 26 = .ok (.bipush 24, 2) := qz_s1 .bipush 24 qo_16 (by decide +kernel) rfl
theorem dX3_busy_28 : decode cX3_busy 28 = .ok (.if_icmp .ge 34, 3) := qz_s2 (.if_icmp .ge) 0 34 qo_162 (by decide +kernel) rfl
theorem dX3_busy_31 : decode cX3_busy 31 = .ok (.aload_n 0, 1) := qd_p qo_42 (by decide +kernel)
theorem dX3_busy_32 : decode cX3_busy 32 = .ok (.getfield 10, 3) := qz_2 .getfield 0 10 qo_180 (by decide +kernel) rfl
theorem dX3_busy_35 : decode cX3_busy 35 = .ok (.iload 5, 2) := qz_1 .iload 5 qo_21 (by decide +kernel)
theorem dX3_busy_37 : decode cX3_busy 37 = .ok (.invokevirtual 293, 3) := qz_2 .invokevirtual 1 37 qo_182 (by decide +kernel) rfl
theorem dX3_busy_40 : decode cX3_busy 40 = .ok (.istore 6, 2) := qz_1 .istore 6 qo_54 (by decide +kernel)
theorem dX3_busy_42 : decode cX3_busy 42 = .ok (.iload 6, 2) := qz_1 .iload 6 qo_21 (by decide +kernel)
theorem dX3_busy_44 : decode cX3_busy 44 = .ok (.iload 4, 2) := qz_1 .iload 4 qo_21 (by decide +kernel)
theorem dX3_busy_46 : decode cX3_busy 46 = .ok (.if_icmp .le 10, 3) := qz_s2 (.if_icmp .le) 0 10 qo_164 (by decide +kernel) rfl
theorem dX3_busy_49 : decode cX3_busy 49 = .ok (.iload 6, 2) := qz_1 .iload 6 qo_21 (by decide +kernel)
theorem dX3_busy_51 : decode cX3_busy 51 = .ok (.istore 4, 2) := qz_1 .istore 4 qo_54 (by decide +kernel)
theorem dX3_busy_53 : decode cX3_busy 53 = .ok (.iload 5, 2) := qz_1 .iload 5 qo_21 (by decide +kernel)
theorem dX3_busy_55 : decode cX3_busy 55 = .ok (.istore_n 3, 1) := qd_p qo_62 (by decide +kernel)
theorem dX3_busy_56 : decode cX3_busy 56 = .ok (.iinc 5 1, 3) := qd_i (x := 5) (y := 1) qo_132 (by decide +kernel) rfl
theorem dX3_busy_59 : decode cX3_busy 59 = .ok (.goto (-35), 3) := qz_s2 .goto 255 221 qo_167 (by decide +kernel) rfl
theorem dX3_busy_62 : decode cX3_busy 62 = .ok (.iload_n 1, 1) := qd_p qo_27 (by decide +kernel)
theorem dX3_busy_63 : decode cX3_busy 63 = .ok (.ifCond .ne 7, 3) := qz_s2 (.ifCond .ne) 0 7 qo_154 (by decide +kernel) rfl
theorem dX3_busy_66 : decode cX3_busy 66 = .ok (.iload_n 3, 1) := qd_p qo_29 (by decide +kernel)
theorem dX3_busy_67 : decode cX3_busy 67 = .ok (.goto 5, 3) := qz_s2 .goto 0 5 qo_167 (by decide +kernel) rfl
theorem dX3_busy_70 : decode cX3_busy 70 = .ok (.iload 4, 2) := qz_1 .iload 4 qo_21 (by decide +kernel)
theorem dX3_busy_72 : decode cX3_busy 72 = .ok (.ireturn, 1) := qd_p qo_172 (by decide +kernel)
section
variable {p : Program} {l : Launch} {e : Env} {s : State} {m : MethodId} {args : Array Value} {below : List Frame} {meth : Method} {c : Code} {D : va_G} {tI tII : ClassId} {B : Nat}
set_option maxHeartbeats 4000000 in
set_option maxRecDepth 100000 in
theorem w_X3_walls_143 (C : wt_C p s m args meth c RX3 cX3_walls 11 (some .int) D tI tII) {F : Nat} {k67 : Int32 → Int32 → Int32 → Mem → Option (Int32 × Mem)} {k82 : Int32 → Int32 → Int32 → Mem → Option (Int32 × Mem)} {x1 : Int32} {x2 : Int32} {x3 : Int32} {x5 : Int32} {x6 : Int32} {x7 : Int32} {x8 : Int32} {x9 : Int32} {σ : Mem} {r : Int32} {σ' : Mem} {H : Heap} {locs : List Loc} {ls : Array Slot} (hk67 : ∀ (x6 : Int32) (x7 : Int32) (x8 : Int32) (σ : Mem) (H : Heap) (locs : List Loc) (ls : Array Slot), k67 x6 x7 x8 σ = some (r, σ') → wt_St D tI tII B σ s H locs → lv_has ls 11 [(0, .ref (B + 0)), (1, .int x1), (2, .int x2), (3, .int x3), (5, .int x5), (6, .int x6), (7, .int x7), (8, .int x8)] → W p l e rm_X3_walls s m args below meth c H locs 0 0 (MQ below (wt_Qi D tI tII B r σ') args s 0 0 (fun q => B ≤ q)) (F0 m 67 ls [])) (hk82 : ∀ (x6 : Int32) (x7 : Int32) (x9 : Int32) (σ : Mem) (H : Heap) (locs : List Loc) (ls : Array Slot), k82 x6 x7 x9 σ = some (r, σ') → wt_St D tI tII B σ s H locs → lv_has ls 11 [(0, .ref (B + 0)), (1, .int x1), (2, .int x2), (3, .int x3), (5, .int x5), (6, .int x6), (7, .int x7), (8, .int x8), (9, .int x9)] → W p l e rm_X3_walls s m args below meth c H locs 0 0 (MQ below (wt_Qi D tI tII B r σ') args s 0 0 (fun q => B ≤ q)) (F0 m 82 ls [])) (hf : j_X3_walls_143 F k67 k82 x1 x2 x3 x5 x6 x7 x8 x9 σ = some (r, σ')) (hM : wt_St D tI tII B σ s H locs) (hl : lv_has ls 11 [(0, .ref (B + 0)), (1, .int x1), (2, .int x2), (3, .int x3), (5, .int x5), (6, .int x6), (7, .int x7), (8, .int x8), (9, .int x9)]) : W p l e rm_X3_walls s m args below meth c H locs 0 0 (MQ below (wt_Qi D tI tII B r σ') args s 0 0 (fun q => B ≤ q)) (F0 m 143 ls []) := by
  obtain ⟨hx, hb, hts, hown, hml, hr, hlk, hK⟩ := id C
  replace hf := Eq.trans j_X3_walls_143_e.symm hf
  refine lv_iinc (v := (x9 + (1 : Int32))) (lv' := [(9, .int (x9 + (1 : Int32))), (0, .ref (B + 0)), (1, .int x1), (2, .int x2), (3, .int x3), (5, .int x5), (6, .int x6), (7, .int x7), (8, .int x8)]) hx hb dX3_walls_143 hl (k := 8) rfl rfl (by decide) rfl (fun ls hl => ?_)
  refine lv_goto (tgt := 82) hx hb dX3_walls_146 (by decide) ?_
  exact hk82 _ _ _ _ _ _ _ hf hM (lv_sub hl [1, 2, 3, 4, 5, 6, 7, 8, 0] rfl)
set_option maxHeartbeats 4000000 in
set_option maxRecDepth 100000 in
theorem w_X3_walls_120 (C : wt_C p s m args meth c RX3 cX3_walls 11 (some .int) D tI tII) {F : Nat} {k67 : Int32 → Int32 → Int32 → Mem → Option (Int32 × Mem)} {k82 : Int32 → Int32 → Int32 → Mem → Option (Int32 × Mem)} {x1 : Int32} {x2 : Int32} {x3 : Int32} {x5 : Int32} {x6 : Int32} {x7 : Int32} {x8 : Int32} {x9 : Int32} {t0 : Int32} {σ : Mem} {r : Int32} {σ' : Mem} {H : Heap} {locs : List Loc} {ls : Array Slot} (hk67 : ∀ (x6 : Int32) (x7 : Int32) (x8 : Int32) (σ : Mem) (H : Heap) (locs : List Loc) (ls : Array Slot), k67 x6 x7 x8 σ = some (r, σ') → wt_St D tI tII B σ s H locs → lv_has ls 11 [(0, .ref (B + 0)), (1, .int x1), (2, .int x2), (3, .int x3), (5, .int x5), (6, .int x6), (7, .int x7), (8, .int x8)] → W p l e rm_X3_walls s m args below meth c H locs 0 0 (MQ below (wt_Qi D tI tII B r σ') args s 0 0 (fun q => B ≤ q)) (F0 m 67 ls [])) (hk82 : ∀ (x6 : Int32) (x7 : Int32) (x9 : Int32) (σ : Mem) (H : Heap) (locs : List Loc) (ls : Array Slot), k82 x6 x7 x9 σ = some (r, σ') → wt_St D tI tII B σ s H locs → lv_has ls 11 [(0, .ref (B + 0)), (1, .int x1), (2, .int x2), (3, .int x3), (5, .int x5), (6, .int x6), (7, .int x7), (8, .int x8), (9, .int x9)] → W p l e rm_X3_walls s m args below meth c H locs 0 0 (MQ below (wt_Qi D tI tII B r σ') args s 0 0 (fun q => B ≤ q)) (F0 m 82 ls [])) (hf : j_X3_walls_120 F k67 k82 x1 x2 x3 x5 x6 x7 x8 x9 t0 σ = some (r, σ')) (hM : wt_St D tI tII B σ s H locs) (hl : lv_has ls 11 [(0, .ref (B + 0)), (1, .int x1), (2, .int x2), (3, .int x3), (5, .int x5), (6, .int x6), (7, .int x7), (8, .int x8), (9, .int x9)]) : W p l e rm_X3_walls s m args below meth c H locs 0 0 (MQ below (wt_Qi D tI tII B r σ') args s 0 0 (fun q => B ≤ q)) (F0 m 120 ls [.int t0]) := by
  obtain ⟨hx, hb, hts, hown, hml, hr, hlk, hK⟩ := id C
  replace hf := Eq.trans j_X3_walls_120_e.symm hf
  refine lv_istore (lv' := [(10, .int t0), (0, .ref (B + 0)), (1, .int x1), (2, .int x2), (3, .int x3), (5, .int x5), (6, .int x6), (7, .int x7), (8, .int x8), (9, .int x9)]) hx hb dX3_walls_120 hl (by decide) rfl (fun ls hl => ?_)
  refine lv_iload hx hb dX3_walls_122 (lv_at hl 0 rfl) ?_
  refine lv_iload hx hb dX3_walls_124 (lv_at hl 7 rfl) ?_
  refine wq_icmp_le (tgt := 143) hx hb dX3_walls_126 (by decide) hf (fun hf => ?_) (fun hf => ?_)
  · exact w_X3_walls_143 C hk67 hk82 hf hM (lv_sub hl [1, 2, 3, 4, 5, 6, 7, 8, 9] rfl)
  refine lv_iload hx hb dX3_walls_129 (lv_at hl 0 rfl) ?_
  refine lv_istore (lv' := [(7, .int t0), (10, .int t0), (0, .ref (B + 0)), (1, .int x1), (2, .int x2), (3, .int x3), (5, .int x5), (6, .int x6), (8, .int x8), (9, .int x9)]) hx hb dX3_walls_131 hl (by decide) rfl (fun ls hl => ?_)
  refine lv_bipush (v := 10) hx hb dX3_walls_133 (by decide) ?_
  refine lv_iload hx hb dX3_walls_135 (lv_at hl 8 rfl) ?_
  refine lv_imul hx hb dX3_walls_137 ?_
  refine lv_iload hx hb dX3_walls_138 (lv_at hl 9 rfl) ?_
  refine lv_iadd hx hb dX3_walls_140 ?_
  refine wt_leti hf (fun z1 hf => ?_)
  refine lv_istore (lv' := [(6, .int z1), (7, .int t0), (10, .int t0), (0, .ref (B + 0)), (1, .int x1), (2, .int x2), (3, .int x3), (5, .int x5), (8, .int x8), (9, .int x9)]) hx hb dX3_walls_141 hl (by decide) rfl (fun ls hl => ?_)
  exact w_X3_walls_143 C hk67 hk82 hf hM (lv_sub hl [3, 4, 5, 6, 7, 0, 1, 8, 9] rfl)
set_option maxHeartbeats 4000000 in
set_option maxRecDepth 100000 in
theorem w_X3_walls_82 (C : wt_C p s m args meth c RX3 cX3_walls 11 (some .int) D tI tII) {F : Nat} {k67 : Int32 → Int32 → Int32 → Mem → Option (Int32 × Mem)} {x1 : Int32} {x2 : Int32} {x3 : Int32} {x5 : Int32} {x8 : Int32} {r : Int32} {σ' : Mem} (hk67 : ∀ (x6 : Int32) (x7 : Int32) (x8 : Int32) (σ : Mem) (H : Heap) (locs : List Loc) (ls : Array Slot), k67 x6 x7 x8 σ = some (r, σ') → wt_St D tI tII B σ s H locs → lv_has ls 11 [(0, .ref (B + 0)), (1, .int x1), (2, .int x2), (3, .int x3), (5, .int x5), (6, .int x6), (7, .int x7), (8, .int x8)] → W p l e rm_X3_walls s m args below meth c H locs 0 0 (MQ below (wt_Qi D tI tII B r σ') args s 0 0 (fun q => B ≤ q)) (F0 m 67 ls [])) : ∀ (N : Nat) (x6 : Int32) (x7 : Int32) (x9 : Int32) (σ : Mem) (H : Heap) (locs : List Loc) (ls : Array Slot), lp_X3_walls_82 F k67 x1 x2 x3 x5 x8 N x6 x7 x9 σ = some (r, σ') → wt_St D tI tII B σ s H locs → lv_has ls 11 [(0, .ref (B + 0)), (1, .int x1), (2, .int x2), (3, .int x3), (5, .int x5), (6, .int x6), (7, .int x7), (8, .int x8), (9, .int x9)] → W p l e rm_X3_walls s m args below meth c H locs 0 0 (MQ below (wt_Qi D tI tII B r σ') args s 0 0 (fun q => B ≤ q)) (F0 m 82 ls []) := by
  obtain ⟨hx, hb, hts, hown, hml, hr, hlk, hK⟩ := id C
  intro N
  induction N with
  | zero => intro x6 x7 x9 σ H locs ls hf; exact wt_none (show (none : Option (Int32 × Mem)) = some (r, σ') from hf)
  | succ N ih =>
    intro x6 x7 x9 σ H locs ls hf hM hl
    replace hf := Eq.trans lp_X3_walls_82_s.symm hf
    refine lv_iload hx hb dX3_walls_82 (lv_at hl 8 rfl) ?_
    refine lv_bipush (v := 8) hx hb dX3_walls_84 (by decide) ?_
    refine wq_icmp_ge (tgt := 149) hx hb dX3_walls_86 (by decide) hf (fun hf => ?_) (fun hf => ?_)
    · refine lv_iinc (v := (x8 + (1 : Int32))) (lv' := [(8, .int (x8 + (1 : Int32))), (0, .ref (B + 0)), (1, .int x1), (2, .int x2), (3, .int x3), (5, .int x5), (6, .int x6), (7, .int x7), (9, .int x9)]) hx hb dX3_walls_149 hl (k := 7) rfl rfl (by decide) rfl (fun ls hl => ?_)
      refine lv_goto (tgt := 67) hx hb dX3_walls_152 (by decide) ?_
      exact hk67 _ _ _ _ _ _ _ hf hM (lv_sub hl [1, 2, 3, 4, 5, 6, 7, 0] rfl)
    refine lv_aload_n hx hb dX3_walls_89 rfl (lv_at hl 0 rfl) ?_
    refine gf_X3_house  hx hb hts hown hK hM tw_114 dX3_walls_90 ?_
    refine lv_iload hx hb dX3_walls_93 (lv_at hl 7 rfl) ?_
    refine lv_iload hx hb dX3_walls_95 (lv_at hl 8 rfl) ?_
    refine wt_callVi (As := [.int x8, .int x9]) (rest := []) hx hb hml hts hown hK hM (wt_rc_X0 wt_h1) cw_X3_184 hd_X0_shows rfl ⟨qz_b rfl, qz_b rfl⟩ ⟨rfl, rfl⟩ hl.1 rfl (qz_b rfl) dX3_walls_97 hf (fun _ _ h9 => c_X0_shows wt_h1 h9) (fun r2 s3 H locs hf hM => ?_)
    refine wq_if_eq (tgt := 119) hx hb dX3_walls_100 (by decide) hf (fun hf => ?_) (fun hf => ?_)
    · refine lv_iconst (v := 0) hx hb dX3_walls_119 (by decide) ?_
      exact w_X3_walls_120 C hk67 ih hf hM hl
    refine lv_iload hx hb dX3_walls_103 (lv_at hl 4 rfl) ?_
    refine lv_aload_n hx hb dX3_walls_105 rfl (lv_at hl 0 rfl) ?_
    refine lv_iload_n hx hb dX3_walls_106 rfl (lv_at hl 1 rfl) ?_
    refine lv_iload hx hb dX3_walls_107 (lv_at hl 7 rfl) ?_
    refine lv_iload hx hb dX3_walls_109 (lv_at hl 8 rfl) ?_
    refine lv_iload_n hx hb dX3_walls_111 rfl (lv_at hl 2 rfl) ?_
    refine wt_callVi (As := [.int x1, .int x8, .int x9, .int x2]) (rest := [.int x5]) hx hb hml hts hown hK hM wt_rc_X3 cw_X3_257 hd_X3_wealthWalled rfl ⟨qz_b rfl, qz_b rfl⟩ ⟨rfl, rfl⟩ hl.1 rfl (qz_b rfl) dX3_walls_112 hf (fun _ _ h9 => c_X3_wealthWalled h9) (fun r4 s5 H locs hf hM => ?_)
    refine lv_isub hx hb dX3_walls_115 ?_
    refine lv_goto (tgt := 120) hx hb dX3_walls_116 (by decide) ?_
    exact w_X3_walls_120 C hk67 ih hf hM hl
set_option maxHeartbeats 4000000 in
set_option maxRecDepth 100000 in
theorem w_X3_walls_166 (C : wt_C p s m args meth c RX3 cX3_walls 11 (some .int) D tI tII) {F : Nat} {x6 : Int32} {σ : Mem} {r : Int32} {σ' : Mem} {H : Heap} {locs : List Loc} {ls : Array Slot} (hf : j_X3_walls_166 F x6 σ = some (r, σ')) (hM : wt_St D tI tII B σ s H locs) (hl : lv_has ls 11 [(6, .int x6)]) : W p l e rm_X3_walls s m args below meth c H locs 0 0 (MQ below (wt_Qi D tI tII B r σ') args s 0 0 (fun q => B ≤ q)) (F0 m 166 ls []) := by
  obtain ⟨hx, hb, hts, hown, hml, hr, hlk, hK⟩ := id C
  replace hf := Eq.trans j_X3_walls_166_e.symm hf
  refine lv_iload hx hb dX3_walls_166 (lv_at hl 0 rfl) ?_
  refine lv_goto (tgt := 173) hx hb dX3_walls_168 (by decide) ?_
  exact wt_iret hx hb hr hlk hK hM hf dX3_walls_173
set_option maxHeartbeats 4000000 in
set_option maxRecDepth 100000 in
theorem w_X3_walls_67 (C : wt_C p s m args meth c RX3 cX3_walls 11 (some .int) D tI tII) {F : Nat} {x1 : Int32} {x2 : Int32} {x3 : Int32} {x5 : Int32} {r : Int32} {σ' : Mem} : ∀ (N : Nat) (x6 : Int32) (x7 : Int32) (x8 : Int32) (σ : Mem) (H : Heap) (locs : List Loc) (ls : Array Slot), lp_X3_walls_67 F x1 x2 x3 x5 N x6 x7 x8 σ = some (r, σ') → wt_St D tI tII B σ s H locs → lv_has ls 11 [(0, .ref (B + 0)), (1, .int x1), (2, .int x2), (3, .int x3), (5, .int x5), (6, .int x6), (7, .int x7), (8, .int x8)] → W p l e rm_X3_walls s m args below meth c H locs 0 0 (MQ below (wt_Qi D tI tII B r σ') args s 0 0 (fun q => B ≤ q)) (F0 m 67 ls []) := by
  obtain ⟨hx, hb, hts, hown, hml, hr, hlk, hK⟩ := id C
  intro N
  induction N with
  | zero => intro x6 x7 x8 σ H locs ls hf; exact wt_none (show (none : Option (Int32 × Mem)) = some (r, σ') from hf)
  | succ N ih =>
    intro x6 x7 x8 σ H locs ls hf hM hl
    replace hf := Eq.trans lp_X3_walls_67_s.symm hf
    refine lv_iload hx hb dX3_walls_67 (lv_at hl 7 rfl) ?_
    refine lv_aload_n hx hb dX3_walls_69 rfl (lv_at hl 0 rfl) ?_
    refine gf_X3_house  hx hb hts hown hK hM tw_114 dX3_walls_70 ?_
    refine gf_X0_paneCount wt_h1 hx hb hts hown hK hM tw_26 dX3_walls_73 ?_
    refine wq_icmp_ge (tgt := 155) hx hb dX3_walls_76 (by decide) hf (fun hf => ?_) (fun hf => ?_)
    · refine lv_iload_n hx hb dX3_walls_155 rfl (lv_at hl 3 rfl) ?_
      refine wq_if_eq (tgt := 166) hx hb dX3_walls_156 (by decide) hf (fun hf => ?_) (fun hf => ?_)
      · exact w_X3_walls_166 C hf hM (lv_sub hl [5] rfl)
      refine lv_iload hx hb dX3_walls_159 (lv_at hl 5 rfl) ?_
      refine lv_bipush (v := -9) hx hb dX3_walls_161 (by decide) ?_
      refine wq_icmp_ne (tgt := 171) hx hb dX3_walls_163 (by decide) hf (fun hf => ?_) (fun hf => ?_)
      · refine lv_iload hx hb dX3_walls_171 (lv_at hl 6 rfl) ?_
        exact wt_iret hx hb hr hlk hK hM hf dX3_walls_173
      exact w_X3_walls_166 C hf hM (lv_sub hl [5] rfl)
    refine lv_iconst (v := 0) hx hb dX3_walls_79 (by decide) ?_
    refine lv_istore (lv' := [(9, .int (0 : Int32)), (0, .ref (B + 0)), (1, .int x1), (2, .int x2), (3, .int x3), (5, .int x5), (6, .int x6), (7, .int x7), (8, .int x8)]) hx hb dX3_walls_80 hl (by decide) rfl (fun ls hl => ?_)
    exact w_X3_walls_82 C ih _ _ _ _ _ _ _ _ hf hM (lv_sub hl [1, 2, 3, 4, 5, 6, 7, 8, 0] rfl)
set_option maxHeartbeats 4000000 in
set_option maxRecDepth 100000 in
theorem w_X3_walls_0 (C : wt_C p s m args meth c RX3 cX3_walls 11 (some .int) D tI tII) {F : Nat} {x1 : Int32} {x2 : Int32} {x3 : Int32} {σ : Mem} {r : Int32} {σ' : Mem} {H : Heap} {locs : List Loc} {ls : Array Slot} (hf : f_X3_walls F x1 x2 x3 σ = some (r, σ')) (hM : wt_St D tI tII B σ s H locs) (hl : lv_has ls 11 [(0, .ref (B + 0)), (1, .int x1), (2, .int x2), (3, .int x3)]) : W p l e rm_X3_walls s m args below meth c H locs 0 0 (MQ below (wt_Qi D tI tII B r σ') args s 0 0 (fun q => B ≤ q)) (F0 m 0 ls []) := by
  obtain ⟨hx, hb, hts, hown, hml, hr, hlk, hK⟩ := id C
  replace hf := Eq.trans f_X3_walls_e.symm hf
  refine lv_aload_n hx hb dX3_walls_0 rfl (lv_at hl 0 rfl) ?_
  refine lv_iload_n hx hb dX3_walls_1 rfl (lv_at hl 1 rfl) ?_
  refine lv_iload_n hx hb dX3_walls_2 rfl (lv_at hl 2 rfl) ?_
  refine wt_callVi (As := [.int x1, .int x2]) (rest := []) hx hb hml hts hown hK hM wt_rc_X3 cw_X3_226 hd_X3_noLookerFar rfl ⟨qz_b rfl, qz_b rfl⟩ ⟨rfl, rfl⟩ hl.1 rfl (qz_b rfl) dX3_walls_3 hf (fun _ _ h9 => c_X3_noLookerFar h9) (fun r6 s7 H locs hf hM => ?_)
  refine lv_iload_n hx hb dX3_walls_6 rfl (lv_at hl 3 rfl) ?_
  refine lv_iconst (v := 2) hx hb dX3_walls_7 (by decide) ?_
  refine wt_callSi (As := [.int x3, .int (2 : Int32)]) (rest := [.int r6]) hx hb hml hts hown hK hM cw_X3_123 hd_X3_notBelow rfl ⟨qz_b rfl, qz_b rfl⟩ ⟨rfl, rfl⟩ hl.1 rfl (qz_b rfl) dX3_walls_8 hf (fun _ _ h9 => c_X3_notBelow h9) (fun r8 s9 H locs hf hM => ?_)
  refine wt_callSi (As := [.int r6, .int r8]) (rest := []) hx hb hml hts hown hK hM cw_X3_85 hd_X3_firstOf rfl ⟨qz_b rfl, qz_b rfl⟩ ⟨rfl, rfl⟩ hl.1 rfl (qz_b rfl) dX3_walls_11 hf (fun _ _ h9 => c_X3_firstOf h9) (fun r10 s11 H locs hf hM => ?_)
  refine lv_istore (lv' := [(4, .int r10), (0, .ref (B + 0)), (1, .int x1), (2, .int x2), (3, .int x3)]) hx hb dX3_walls_14 hl (by decide) rfl (fun ls hl => ?_)
  refine lv_iload hx hb dX3_walls_16 (lv_at hl 0 rfl) ?_
  refine wq_if_eq (tgt := 28) hx hb dX3_walls_18 (by decide) hf (fun hf => ?_) (fun hf => ?_)
  · refine lv_aload_n hx hb dX3_walls_28 rfl (lv_at hl 1 rfl) ?_
    refine gf_X3_house  hx hb hts hown hK hM tw_114 dX3_walls_29 ?_
    refine wt_callVv (As := []) (rest := []) hx hb hml hts hown hK hM (wt_rc_X0 wt_h1) cw_X3_141 hd_X0_reckon rfl ⟨qz_b rfl, qz_b rfl⟩ ⟨rfl, rfl⟩ hl.1 rfl (qz_b rfl) dX3_walls_32 hf (fun _ _ h9 => c_X0_reckon wt_h1 h9) (fun r12 s13 H locs hf hM => ?_)
    refine lv_aload_n hx hb dX3_walls_35 rfl (lv_at hl 1 rfl) ?_
    refine gf_X3_mind  hx hb hts hown hK hM tw_115 dX3_walls_36 ?_
    refine lv_aload_n hx hb dX3_walls_39 rfl (lv_at hl 1 rfl) ?_
    refine gf_X3_house  hx hb hts hown hK hM tw_114 dX3_walls_40 ?_
    refine wt_callVv (As := [.ref (B + 1)]) (rest := []) hx hb hml hts hown hK hM (wt_rc_X0 wt_h24) cw_X3_106 hd_X0_takeFrom rfl ⟨qz_b rfl, qz_b rfl⟩ ⟨rfl, rfl⟩ hl.1 rfl (qz_b rfl) dX3_walls_43 hf (fun _ _ h9 => c_X0_takeFrom wt_h24 wt_h1 h9) (fun r14 s15 H locs hf hM => ?_)
    refine lv_aload_n hx hb dX3_walls_46 rfl (lv_at hl 1 rfl) ?_
    refine gf_X3_house  hx hb hts hown hK hM tw_114 dX3_walls_47 ?_
    refine lv_iload_n hx hb dX3_walls_50 rfl (lv_at hl 2 rfl) ?_
    refine lv_iload_n hx hb dX3_walls_51 rfl (lv_at hl 3 rfl) ?_
    refine wt_callVi (As := [.int x1, .int x2]) (rest := []) hx hb hml hts hown hK hM (wt_rc_X0 wt_h1) cw_X3_229 hd_X0_wealth rfl ⟨qz_b rfl, qz_b rfl⟩ ⟨rfl, rfl⟩ hl.1 rfl (qz_b rfl) dX3_walls_52 hf (fun _ _ h9 => c_X0_wealth wt_h1 h9) (fun r16 s17 H locs hf hM => ?_)
    refine lv_istore (lv' := [(5, .int r16), (4, .int r10), (0, .ref (B + 0)), (1, .int x1), (2, .int x2), (3, .int x3)]) hx hb dX3_walls_55 hl (by decide) rfl (fun ls hl => ?_)
    refine lv_bipush (v := -9) hx hb dX3_walls_57 (by decide) ?_
    refine lv_istore (lv' := [(6, .int (-9 : Int32)), (5, .int r16), (4, .int r10), (0, .ref (B + 0)), (1, .int x1), (2, .int x2), (3, .int x3)]) hx hb dX3_walls_59 hl (by decide) rfl (fun ls hl => ?_)
    refine lv_iconst (v := 0) hx hb dX3_walls_61 (by decide) ?_
    refine lv_istore (lv' := [(7, .int (0 : Int32)), (6, .int (-9 : Int32)), (5, .int r16), (4, .int r10), (0, .ref (B + 0)), (1, .int x1), (2, .int x2), (3, .int x3)]) hx hb dX3_walls_62 hl (by decide) rfl (fun ls hl => ?_)
    refine lv_iconst (v := 0) hx hb dX3_walls_64 (by decide) ?_
    refine lv_istore (lv' := [(8, .int (0 : Int32)), (7, .int (0 : Int32)), (6, .int (-9 : Int32)), (5, .int r16), (4, .int r10), (0, .ref (B + 0)), (1, .int x1), (2, .int x2), (3, .int x3)]) hx hb dX3_walls_65 hl (by decide) rfl (fun ls hl => ?_)
    exact w_X3_walls_67 C _ _ _ _ _ _ _ _ hf hM (lv_sub hl [5, 6, 7, 8, 3, 2, 1, 0] rfl)
  refine lv_aload_n hx hb dX3_walls_21 rfl (lv_at hl 1 rfl) ?_
  refine lv_iload hx hb dX3_walls_22 (lv_at hl 0 rfl) ?_
  refine wt_callVi (As := [.int r10]) (rest := []) hx hb hml hts hown hK hM wt_rc_X3 cw_X3_61 hd_X3_refuse rfl ⟨qz_b rfl, qz_b rfl⟩ ⟨rfl, rfl⟩ hl.1 rfl (qz_b rfl) dX3_walls_24 hf (fun _ _ h9 => c_X3_refuse h9) (fun r18 s19 H locs hf hM => ?_)
  exact wt_iret hx hb hr hlk hK hM hf dX3_walls_27
end
set_option maxHeartbeats 4000000 in
set_option maxRecDepth 100000 in
theorem c_X3_walls {l : Launch} {D : va_G} {tI tII : ClassId} {B F : Nat} {x1 : Int32} {x2 : Int32} {x3 : Int32} {σ σ' : Mem} {r : Int32} (hf : f_X3_walls F x1 x2 x3 σ = some (r, σ')) : wt_Mi l yX3_walls cX3_walls 11 (some .int) rm_X3_walls [.ref (B + 0), .int x1, .int x2, .int x3] D tI tII B σ r σ' := by
  refine Met.ofW (cc := cX3_walls) (maxL := 11) (ret := (some .int)) (by decide) rfl ?_
  intro p e s m args below meth c s₁ B9 hml hv
  obtain ⟨rfl, hP, hK⟩ := hv
  have hl := lv_entry ([.ref (B + 0), .int x1, .int x2, .int x3]) (n := 11) (qz_b rfl)
  rw [lg_entry_eq]
  generalize (lg_sl ([.ref (B + 0), .int x1, .int x2, .int x3]) ++ List.replicate (11 - (lg_sl ([.ref (B + 0), .int x1, .int x2, .int x3])).length) Slot.unset).toArray = ls at hl ⊢
  exact w_X3_walls_0 (wt_C_of B9 hml hK) hf ⟨hP, va_S.rf⟩ hl
section
variable {p : Program} {l : Launch} {e : Env} {s : State} {m : MethodId} {args : Array Value} {below : List Frame} {meth : Method} {c : Code} {D : va_G} {tI tII : ClassId} {B : Nat}
set_option maxHeartbeats 4000000 in
set_option maxRecDepth 100000 in
theorem w_X3_commonDivisor_45 (C : wt_C p s m args meth c RX3 cX3_commonDivisor 11 (some .long) D tI tII) {F : Nat} {y4 : Int64} {σ : Mem} {r : Int64} {σ' : Mem} {H : Heap} {locs : List Loc} {ls : Array Slot} (hf : j_X3_commonDivisor_45 F y4 σ = some (r, σ')) (hM : wt_St D tI tII B σ s H locs) (hl : lv_has ls 11 [(4, .long y4)]) : W p l e rm_X3_commonDivisor s m args below meth c H locs 0 0 (MQ below (wt_Ql D tI tII B r σ') args s 0 0 (fun q => B ≤ q)) (F0 m 45 ls []) := by
  obtain ⟨hx, hb, hts, hown, hml, hr, hlk, hK⟩ := id C
  replace hf := Eq.trans j_X3_commonDivisor_45_e.symm hf
  refine lv_lload hx hb dX3_commonDivisor_45 (lv_at hl 0 rfl) ?_
  exact wt_lret hx hb hr hlk hK hM hf dX3_commonDivisor_47
set_option maxHeartbeats 4000000 in
set_option maxRecDepth 100000 in
theorem w_X3_commonDivisor_9 (C : wt_C p s m args meth c RX3 cX3_commonDivisor 11 (some .long) D tI tII) {F : Nat} {r : Int64} {σ' : Mem} : ∀ (N : Nat) (y4 : Int64) (y6 : Int64) (x8 : Int32) (σ : Mem) (H : Heap) (locs : List Loc) (ls : Array Slot), lp_X3_commonDivisor_9 F N y4 y6 x8 σ = some (r, σ') → wt_St D tI tII B σ s H locs → lv_has ls 11 [(4, .long y4), (6, .long y6), (8, .int x8)] → W p l e rm_X3_commonDivisor s m args below meth c H locs 0 0 (MQ below (wt_Ql D tI tII B r σ') args s 0 0 (fun q => B ≤ q)) (F0 m 9 ls []) := by
  obtain ⟨hx, hb, hts, hown, hml, hr, hlk, hK⟩ := id C
  intro N
  induction N with
  | zero => intro y4 y6 x8 σ H locs ls hf; exact wt_none (show (none : Option (Int64 × Mem)) = some (r, σ') from hf)
  | succ N ih =>
    intro y4 y6 x8 σ H locs ls hf hM hl
    replace hf := Eq.trans lp_X3_commonDivisor_9_s.symm hf
    refine lv_iload hx hb dX3_commonDivisor_9 (lv_at hl 2 rfl) ?_
    refine lv_sipush (v := 200) hx hb dX3_commonDivisor_11 (by decide) ?_
    refine wq_icmp_ge (tgt := 45) hx hb dX3_commonDivisor_14 (by decide) hf (fun hf => ?_) (fun hf => ?_)
    · exact w_X3_commonDivisor_45 C hf hM (lv_sub hl [0] rfl)
    refine lv_lload hx hb dX3_commonDivisor_17 (lv_at hl 1 rfl) ?_
    refine lv_lconst (v := 0) hx hb dX3_commonDivisor_19 (by decide) ?_
    refine W.lcmp hx hb dX3_commonDivisor_20 ?_
    refine wq_if_eq (tgt := 45) hx hb dX3_commonDivisor_21 (by decide) hf (fun hf => ?_) (fun hf => ?_)
    · exact w_X3_commonDivisor_45 C hf hM (lv_sub hl [0] rfl)
    refine lv_lload hx hb dX3_commonDivisor_24 (lv_at hl 0 rfl) ?_
    refine lv_lload hx hb dX3_commonDivisor_26 (lv_at hl 1 rfl) ?_
    obtain ⟨nz28, hf⟩ := wt_nzl_of hf
    refine lv_lrem hx hb dX3_commonDivisor_28 nz28 ?_
    refine lv_lstore (lv' := [(9, .long (y4 - y4 / y6 * y6)), (4, .long y4), (6, .long y6), (8, .int x8)]) hx hb dX3_commonDivisor_29 hl (by decide) rfl (fun ls hl => ?_)
    refine lv_lload hx hb dX3_commonDivisor_31 (lv_at hl 2 rfl) ?_
    refine lv_lstore (lv' := [(4, .long y6), (9, .long (y4 - y4 / y6 * y6)), (6, .long y6), (8, .int x8)]) hx hb dX3_commonDivisor_33 hl (by decide) rfl (fun ls hl => ?_)
    refine lv_lload hx hb dX3_commonDivisor_35 (lv_at hl 1 rfl) ?_
    refine lv_lstore (lv' := [(6, .long (y4 - y4 / y6 * y6)), (4, .long y6), (9, .long (y4 - y4 / y6 * y6)), (8, .int x8)]) hx hb dX3_commonDivisor_37 hl (by decide) rfl (fun ls hl => ?_)
    refine lv_iinc (v := (x8 + (1 : Int32))) (lv' := [(8, .int (x8 + (1 : Int32))), (6, .long (y4 - y4 / y6 * y6)), (4, .long y6), (9, .long (y4 - y4 / y6 * y6))]) hx hb dX3_commonDivisor_39 hl (k := 3) rfl rfl (by decide) rfl (fun ls hl => ?_)
    refine lv_goto (tgt := 9) hx hb dX3_commonDivisor_42 (by decide) ?_
    exact ih _ _ _ _ _ _ _ hf hM (lv_sub hl [2, 1, 0] rfl)
set_option maxHeartbeats 4000000 in
set_option maxRecDepth 100000 in
theorem w_X3_commonDivisor_0 (C : wt_C p s m args meth c RX3 cX3_commonDivisor 11 (some .long) D tI tII) {F : Nat} {y0 : Int64} {y2 : Int64} {σ : Mem} {r : Int64} {σ' : Mem} {H : Heap} {locs : List Loc} {ls : Array Slot} (hf : f_X3_commonDivisor F y0 y2 σ = some (r, σ')) (hM : wt_St D tI tII B σ s H locs) (hl : lv_has ls 11 [(0, .long y0), (2, .long y2)]) : W p l e rm_X3_commonDivisor s m args below meth c H locs 0 0 (MQ below (wt_Ql D tI tII B r σ') args s 0 0 (fun q => B ≤ q)) (F0 m 0 ls []) := by
  obtain ⟨hx, hb, hts, hown, hml, hr, hlk, hK⟩ := id C
  replace hf := Eq.trans f_X3_commonDivisor_e.symm hf
  refine lv_lload_n hx hb dX3_commonDivisor_0 rfl (lv_at hl 0 rfl) ?_
  refine lv_lstore (lv' := [(4, .long y0), (0, .long y0), (2, .long y2)]) hx hb dX3_commonDivisor_1 hl (by decide) rfl (fun ls hl => ?_)
  refine lv_lload_n hx hb dX3_commonDivisor_3 rfl (lv_at hl 2 rfl) ?_
  refine lv_lstore (lv' := [(6, .long y2), (4, .long y0), (0, .long y0), (2, .long y2)]) hx hb dX3_commonDivisor_4 hl (by decide) rfl (fun ls hl => ?_)
  refine lv_iconst (v := 0) hx hb dX3_commonDivisor_6 (by decide) ?_
  refine lv_istore (lv' := [(8, .int (0 : Int32)), (6, .long y2), (4, .long y0), (0, .long y0), (2, .long y2)]) hx hb dX3_commonDivisor_7 hl (by decide) rfl (fun ls hl => ?_)
  exact w_X3_commonDivisor_9 C _ _ _ _ _ _ _ _ hf hM (lv_sub hl [2, 1, 0] rfl)
end
set_option maxHeartbeats 4000000 in
set_option maxRecDepth 100000 in
theorem c_X3_commonDivisor {l : Launch} {D : va_G} {tI tII : ClassId} {B F : Nat} {y0 : Int64} {y2 : Int64} {σ σ' : Mem} {r : Int64} (hf : f_X3_commonDivisor F y0 y2 σ = some (r, σ')) : wt_Ml l yX3_commonDivisor cX3_commonDivisor 11 (some .long) rm_X3_commonDivisor [.long y0, .long y2] D tI tII B σ r σ' := by
  refine Met.ofW (cc := cX3_commonDivisor) (maxL := 11) (ret := (some .long)) (by decide) rfl ?_
  intro p e s m args below meth c s₁ B9 hml hv
  obtain ⟨rfl, hP, hK⟩ := hv
  have hl := lv_entry ([.long y0, .long y2]) (n := 11) (qz_b rfl)
  rw [lg_entry_eq]
  generalize (lg_sl ([.long y0, .long y2]) ++ List.replicate (11 - (lg_sl ([.long y0, .long y2])).length) Slot.unset).toArray = ls at hl ⊢
  exact w_X3_commonDivisor_0 (wt_C_of B9 hml hK) hf ⟨hP, va_S.rf⟩ hl
section
variable {p : Program} {l : Launch} {e : Env} {s : State} {m : MethodId} {args : Array Value} {below : List Frame} {meth : Method} {c : Code} {D : va_G} {tI tII : ClassId} {B : Nat}
set_option maxHeartbeats 4000000 in
set_option maxRecDepth 100000 in
theorem w_X3_fraction_12 (C : wt_C p s m args meth c RX3 cX3_fraction 7 (some .long) D tI tII) {F : Nat} {x4 : Int32} {σ : Mem} {r : Int64} {σ' : Mem} {H : Heap} {locs : List Loc} {ls : Array Slot} (hf : j_X3_fraction_12 F x4 σ = some (r, σ')) (hM : wt_St D tI tII B σ s H locs) (hl : lv_has ls 7 [(4, .int x4)]) : W p l e rm_X3_fraction s m args below meth c H locs 0 0 (MQ below (wt_Ql D tI tII B r σ') args s 0 0 (fun q => B ≤ q)) (F0 m 12 ls []) := by
  obtain ⟨hx, hb, hts, hown, hml, hr, hlk, hK⟩ := id C
  replace hf := Eq.trans j_X3_fraction_12_e.symm hf
  refine lv_iload hx hb dX3_fraction_12 (lv_at hl 0 rfl) ?_
  refine wq_if_ne (tgt := 21) hx hb dX3_fraction_14 (by decide) hf (fun hf => ?_) (fun hf => ?_)
  · refine lv_lconst (v := 1) hx hb dX3_fraction_21 (by decide) ?_
    exact wt_lret hx hb hr hlk hK hM hf dX3_fraction_22
  refine lv_lconst (v := 0) hx hb dX3_fraction_17 (by decide) ?_
  refine lv_goto (tgt := 22) hx hb dX3_fraction_18 (by decide) ?_
  exact wt_lret hx hb hr hlk hK hM hf dX3_fraction_22
set_option maxHeartbeats 4000000 in
set_option maxRecDepth 100000 in
theorem w_X3_fraction_0 (C : wt_C p s m args meth c RX3 cX3_fraction 7 (some .long) D tI tII) {F : Nat} {y0 : Int64} {y2 : Int64} {x4 : Int32} {σ : Mem} {r : Int64} {σ' : Mem} {H : Heap} {locs : List Loc} {ls : Array Slot} (hf : f_X3_fraction F y0 y2 x4 σ = some (r, σ')) (hM : wt_St D tI tII B σ s H locs) (hl : lv_has ls 7 [(0, .long y0), (2, .long y2), (4, .int x4)]) : W p l e rm_X3_fraction s m args below meth c H locs 0 0 (MQ below (wt_Ql D tI tII B r σ') args s 0 0 (fun q => B ≤ q)) (F0 m 0 ls []) := by
  obtain ⟨hx, hb, hts, hown, hml, hr, hlk, hK⟩ := id C
  replace hf := Eq.trans f_X3_fraction_e.symm hf
  refine lv_lload_n hx hb dX3_fraction_0 rfl (lv_at hl 0 rfl) ?_
  refine lv_lconst (v := 0) hx hb dX3_fraction_1 (by decide) ?_
  refine W.lcmp hx hb dX3_fraction_2 ?_
  refine wq_if_le (tgt := 12) hx hb dX3_fraction_3 (by decide) hf (fun hf => ?_) (fun hf => ?_)
  · exact w_X3_fraction_12 C hf hM (lv_sub hl [2] rfl)
  refine lv_lload_n hx hb dX3_fraction_6 rfl (lv_at hl 1 rfl) ?_
  refine lv_lconst (v := 0) hx hb dX3_fraction_7 (by decide) ?_
  refine W.lcmp hx hb dX3_fraction_8 ?_
  refine wq_if_gt (tgt := 23) hx hb dX3_fraction_9 (by decide) hf (fun hf => ?_) (fun hf => ?_)
  · refine lv_lload_n hx hb dX3_fraction_23 rfl (lv_at hl 0 rfl) ?_
    refine lv_lload_n hx hb dX3_fraction_24 rfl (lv_at hl 1 rfl) ?_
    refine wt_callSl (As := [.long y0, .long y2]) (rest := []) hx hb hml hts hown hK hM cw_X3_289 hd_X3_commonDivisor rfl ⟨qz_b rfl, qz_b rfl⟩ ⟨rfl, rfl⟩ hl.1 rfl (qz_b rfl) dX3_fraction_25 hf (fun _ _ h9 => c_X3_commonDivisor h9) (fun r1 s2 H locs hf hM => ?_)
    refine lv_lstore (lv' := [(5, .long r1), (0, .long y0), (2, .long y2), (4, .int x4)]) hx hb dX3_fraction_28 hl (by decide) rfl (fun ls hl => ?_)
    refine lv_lload hx hb dX3_fraction_30 (lv_at hl 0 rfl) ?_
    refine lv_lconst (v := 0) hx hb dX3_fraction_32 (by decide) ?_
    refine W.lcmp hx hb dX3_fraction_33 ?_
    refine wq_if_gt (tgt := 48) hx hb dX3_fraction_34 (by decide) hf (fun hf => ?_) (fun hf => ?_)
    · refine lv_iload hx hb dX3_fraction_48 (lv_at hl 3 rfl) ?_
      refine wq_if_ne (tgt := 60) hx hb dX3_fraction_50 (by decide) hf (fun hf => ?_) (fun hf => ?_)
      · refine lv_lload_n hx hb dX3_fraction_60 rfl (lv_at hl 2 rfl) ?_
        refine lv_lload hx hb dX3_fraction_61 (lv_at hl 0 rfl) ?_
        obtain ⟨nz63, hf⟩ := wt_nzl_of hf
        refine lv_ldiv hx hb dX3_fraction_63 nz63 ?_
        exact wt_lret hx hb hr hlk hK hM hf dX3_fraction_64
      refine lv_lload_n hx hb dX3_fraction_53 rfl (lv_at hl 1 rfl) ?_
      refine lv_lload hx hb dX3_fraction_54 (lv_at hl 0 rfl) ?_
      obtain ⟨nz56, hf⟩ := wt_nzl_of hf
      refine lv_ldiv hx hb dX3_fraction_56 nz56 ?_
      refine lv_goto (tgt := 64) hx hb dX3_fraction_57 (by decide) ?_
      exact wt_lret hx hb hr hlk hK hM hf dX3_fraction_64
    refine lv_iload hx hb dX3_fraction_37 (lv_at hl 3 rfl) ?_
    refine wq_if_ne (tgt := 46) hx hb dX3_fraction_39 (by decide) hf (fun hf => ?_) (fun hf => ?_)
    · refine lv_lload_n hx hb dX3_fraction_46 rfl (lv_at hl 2 rfl) ?_
      exact wt_lret hx hb hr hlk hK hM hf dX3_fraction_47
    refine lv_lload_n hx hb dX3_fraction_42 rfl (lv_at hl 1 rfl) ?_
    refine lv_goto (tgt := 47) hx hb dX3_fraction_43 (by decide) ?_
    exact wt_lret hx hb hr hlk hK hM hf dX3_fraction_47
  exact w_X3_fraction_12 C hf hM (lv_sub hl [2] rfl)
end
set_option maxHeartbeats 4000000 in
set_option maxRecDepth 100000 in
theorem c_X3_fraction {l : Launch} {D : va_G} {tI tII : ClassId} {B F : Nat} {y0 : Int64} {y2 : Int64} {x4 : Int32} {σ σ' : Mem} {r : Int64} (hf : f_X3_fraction F y0 y2 x4 σ = some (r, σ')) : wt_Ml l yX3_fraction cX3_fraction 7 (some .long) rm_X3_fraction [.long y0, .long y2, .int x4] D tI tII B σ r σ' := by
  refine Met.ofW (cc := cX3_fraction) (maxL := 7) (ret := (some .long)) (by decide) rfl ?_
  intro p e s m args below meth c s₁ B9 hml hv
  obtain ⟨rfl, hP, hK⟩ := hv
  have hl := lv_entry ([.long y0, .long y2, .int x4]) (n := 7) (qz_b rfl)
  rw [lg_entry_eq]
  generalize (lg_sl ([.long y0, .long y2, .int x4]) ++ List.replicate (7 - (lg_sl ([.long y0, .long y2, .int x4])).length) Slot.unset).toArray = ls at hl ⊢
  exact w_X3_fraction_0 (wt_C_of B9 hml hK) hf ⟨hP, va_S.rf⟩ hl
section
variable {p : Program} {l : Launch} {e : Env} {s : State} {m : MethodId} {args : Array Value} {below : List Frame} {meth : Method} {c : Code} {D : va_G} {tI tII : ClassId} {B : Nat}
set_option maxHeartbeats 4000000 in
set_option maxRecDepth 100000 in
theorem w_X3_share_40 (C : wt_C p s m args meth c RX3 cX3_share 8 (some .long) D tI tII) {F : Nat} {x1 : Int32} {x2 : Int32} {x3 : Int32} {r : Int64} {σ' : Mem} : ∀ (N : Nat) (y5 : Int64) (x7 : Int32) (σ : Mem) (H : Heap) (locs : List Loc) (ls : Array Slot), lp_X3_share_40 F x1 x2 x3 N y5 x7 σ = some (r, σ') → wt_St D tI tII B σ s H locs → lv_has ls 8 [(0, .ref (B + 0)), (1, .int x1), (2, .int x2), (3, .int x3), (5, .long y5), (7, .int x7)] → W p l e rm_X3_share s m args below meth c H locs 0 0 (MQ below (wt_Ql D tI tII B r σ') args s 0 0 (fun q => B ≤ q)) (F0 m 40 ls []) := by
  obtain ⟨hx, hb, hts, hown, hml, hr, hlk, hK⟩ := id C
  intro N
  induction N with
  | zero => intro y5 x7 σ H locs ls hf; exact wt_none (show (none : Option (Int64 × Mem)) = some (r, σ') from hf)
  | succ N ih =>
    intro y5 x7 σ H locs ls hf hM hl
    replace hf := Eq.trans lp_X3_share_40_s.symm hf
    refine lv_iload hx hb dX3_share_40 (lv_at hl 5 rfl) ?_
    refine lv_aload_n hx hb dX3_share_42 rfl (lv_at hl 0 rfl) ?_
    refine gf_X3_house  hx hb hts hown hK hM tw_114 dX3_share_43 ?_
    refine gf_X0_lookerCount wt_h1 hx hb hts hown hK hM tw_31 dX3_share_46 ?_
    refine wq_icmp_ge (tgt := 76) hx hb dX3_share_49 (by decide) hf (fun hf => ?_) (fun hf => ?_)
    · refine lv_aload_n hx hb dX3_share_76 rfl (lv_at hl 0 rfl) ?_
      refine gf_X3_house  hx hb hts hown hK hM tw_114 dX3_share_77 ?_
      refine gf_X0_counts wt_h1 hx hb hts hown hK hM tw_39 dX3_share_80 ?_
      refine lv_iload_n hx hb dX3_share_83 rfl (lv_at hl 1 rfl) ?_
      obtain ⟨i1, hf⟩ := wt_chk_of hf
      refine wt_ald hx hb hK hM (wt_aaH_10 wt_h1) i1 dX3_share_84 ?_
      refine lv_iload_n hx hb dX3_share_85 rfl (lv_at hl 2 rfl) ?_
      obtain ⟨i2, hf⟩ := wt_chk_of hf
      refine wt_ild hx hb hK hM (wt_rH_10 wt_h1 i1) i2 dX3_share_86 ?_
      refine lv_i2l (v := (Int32.toInt64 (σ (1 + 11 + Int32.toNatClampNeg x1) (Int32.toNatClampNeg x2)))) hx hb dX3_share_87 rfl ?_
      refine lv_lload hx hb dX3_share_88 (lv_at hl 4 rfl) ?_
      refine lv_iload_n hx hb dX3_share_90 rfl (lv_at hl 3 rfl) ?_
      refine wt_callSl (As := [.long (Int32.toInt64 (σ (1 + 11 + Int32.toNatClampNeg x1) (Int32.toNatClampNeg x2))), .long y5, .int x3]) (rest := []) hx hb hml hts hown hK hM cw_X3_264 hd_X3_fraction rfl ⟨qz_b rfl, qz_b rfl⟩ ⟨rfl, rfl⟩ hl.1 rfl (qz_b rfl) dX3_share_91 hf (fun _ _ h9 => c_X3_fraction h9) (fun r3 s4 H locs hf hM => ?_)
      exact wt_lret hx hb hr hlk hK hM hf dX3_share_94
    refine lv_lload hx hb dX3_share_52 (lv_at hl 4 rfl) ?_
    refine lv_aload_n hx hb dX3_share_54 rfl (lv_at hl 0 rfl) ?_
    refine gf_X3_house  hx hb hts hown hK hM tw_114 dX3_share_55 ?_
    refine gf_X0_counts wt_h1 hx hb hts hown hK hM tw_39 dX3_share_58 ?_
    refine lv_iload hx hb dX3_share_61 (lv_at hl 5 rfl) ?_
    obtain ⟨i5, hf⟩ := wt_chk_of hf
    refine wt_ald hx hb hK hM (wt_aaH_10 wt_h1) i5 dX3_share_63 ?_
    refine lv_iload_n hx hb dX3_share_64 rfl (lv_at hl 2 rfl) ?_
    obtain ⟨i6, hf⟩ := wt_chk_of hf
    refine wt_ild hx hb hK hM (wt_rH_10 wt_h1 i5) i6 dX3_share_65 ?_
    refine lv_i2l (v := (Int32.toInt64 (σ (1 + 11 + Int32.toNatClampNeg x7) (Int32.toNatClampNeg x2)))) hx hb dX3_share_66 rfl ?_
    refine lv_ladd hx hb dX3_share_67 ?_
    refine wt_letl hf (fun z7 hf => ?_)
    refine lv_lstore (lv' := [(5, .long z7), (0, .ref (B + 0)), (1, .int x1), (2, .int x2), (3, .int x3), (7, .int x7)]) hx hb dX3_share_68 hl (by decide) rfl (fun ls hl => ?_)
    refine lv_iinc (v := (x7 + (1 : Int32))) (lv' := [(7, .int (x7 + (1 : Int32))), (5, .long z7), (0, .ref (B + 0)), (1, .int x1), (2, .int x2), (3, .int x3)]) hx hb dX3_share_70 hl (k := 5) rfl rfl (by decide) rfl (fun ls hl => ?_)
    refine lv_goto (tgt := 40) hx hb dX3_share_73 (by decide) ?_
    exact ih _ _ _ _ _ _ hf hM (lv_sub hl [2, 3, 4, 5, 1, 0] rfl)
set_option maxHeartbeats 4000000 in
set_option maxRecDepth 100000 in
theorem w_X3_share_0 (C : wt_C p s m args meth c RX3 cX3_share 8 (some .long) D tI tII) {F : Nat} {x1 : Int32} {x2 : Int32} {x3 : Int32} {σ : Mem} {r : Int64} {σ' : Mem} {H : Heap} {locs : List Loc} {ls : Array Slot} (hf : f_X3_share F x1 x2 x3 σ = some (r, σ')) (hM : wt_St D tI tII B σ s H locs) (hl : lv_has ls 8 [(0, .ref (B + 0)), (1, .int x1), (2, .int x2), (3, .int x3)]) : W p l e rm_X3_share s m args below meth c H locs 0 0 (MQ below (wt_Ql D tI tII B r σ') args s 0 0 (fun q => B ≤ q)) (F0 m 0 ls []) := by
  obtain ⟨hx, hb, hts, hown, hml, hr, hlk, hK⟩ := id C
  replace hf := Eq.trans f_X3_share_e.symm hf
  refine lv_aload_n hx hb dX3_share_0 rfl (lv_at hl 0 rfl) ?_
  refine lv_iload_n hx hb dX3_share_1 rfl (lv_at hl 1 rfl) ?_
  refine wt_callVi (As := [.int x1]) (rest := []) hx hb hml hts hown hK hM wt_rc_X3 cw_X3_78 hd_X3_noLooker rfl ⟨qz_b rfl, qz_b rfl⟩ ⟨rfl, rfl⟩ hl.1 rfl (qz_b rfl) dX3_share_2 hf (fun _ _ h9 => c_X3_noLooker h9) (fun r8 s9 H locs hf hM => ?_)
  refine lv_iload_n hx hb dX3_share_5 rfl (lv_at hl 2 rfl) ?_
  refine wt_callSi (As := [.int x2]) (rest := [.int r8]) hx hb hml hts hown hK hM cw_X3_174 hd_X3_noView rfl ⟨qz_b rfl, qz_b rfl⟩ ⟨rfl, rfl⟩ hl.1 rfl (qz_b rfl) dX3_share_6 hf (fun _ _ h9 => c_X3_noView h9) (fun r10 s11 H locs hf hM => ?_)
  refine wt_callSi (As := [.int r8, .int r10]) (rest := []) hx hb hml hts hown hK hM cw_X3_85 hd_X3_firstOf rfl ⟨qz_b rfl, qz_b rfl⟩ ⟨rfl, rfl⟩ hl.1 rfl (qz_b rfl) dX3_share_9 hf (fun _ _ h9 => c_X3_firstOf h9) (fun r12 s13 H locs hf hM => ?_)
  refine lv_iload_n hx hb dX3_share_12 rfl (lv_at hl 3 rfl) ?_
  refine lv_iconst (v := 2) hx hb dX3_share_13 (by decide) ?_
  refine wt_callSi (As := [.int x3, .int (2 : Int32)]) (rest := [.int r12]) hx hb hml hts hown hK hM cw_X3_123 hd_X3_notBelow rfl ⟨qz_b rfl, qz_b rfl⟩ ⟨rfl, rfl⟩ hl.1 rfl (qz_b rfl) dX3_share_14 hf (fun _ _ h9 => c_X3_notBelow h9) (fun r14 s15 H locs hf hM => ?_)
  refine wt_callSi (As := [.int r12, .int r14]) (rest := []) hx hb hml hts hown hK hM cw_X3_85 hd_X3_firstOf rfl ⟨qz_b rfl, qz_b rfl⟩ ⟨rfl, rfl⟩ hl.1 rfl (qz_b rfl) dX3_share_17 hf (fun _ _ h9 => c_X3_firstOf h9) (fun r16 s17 H locs hf hM => ?_)
  refine lv_istore (lv' := [(4, .int r16), (0, .ref (B + 0)), (1, .int x1), (2, .int x2), (3, .int x3)]) hx hb dX3_share_20 hl (by decide) rfl (fun ls hl => ?_)
  refine lv_iload hx hb dX3_share_22 (lv_at hl 0 rfl) ?_
  refine wq_if_eq (tgt := 34) hx hb dX3_share_24 (by decide) hf (fun hf => ?_) (fun hf => ?_)
  · refine lv_lconst (v := 0) hx hb dX3_share_34 (by decide) ?_
    refine lv_lstore (lv' := [(5, .long (0 : Int64)), (4, .int r16), (0, .ref (B + 0)), (1, .int x1), (2, .int x2), (3, .int x3)]) hx hb dX3_share_35 hl (by decide) rfl (fun ls hl => ?_)
    refine lv_iconst (v := 0) hx hb dX3_share_37 (by decide) ?_
    refine lv_istore (lv' := [(7, .int (0 : Int32)), (5, .long (0 : Int64)), (4, .int r16), (0, .ref (B + 0)), (1, .int x1), (2, .int x2), (3, .int x3)]) hx hb dX3_share_38 hl (by decide) rfl (fun ls hl => ?_)
    exact w_X3_share_40 C _ _ _ _ _ _ _ hf hM (lv_sub hl [3, 4, 5, 6, 1, 0] rfl)
  refine lv_aload_n hx hb dX3_share_27 rfl (lv_at hl 1 rfl) ?_
  refine lv_iload hx hb dX3_share_28 (lv_at hl 0 rfl) ?_
  refine wt_callVl (As := [.int r16]) (rest := []) hx hb hml hts hown hK hM wt_rc_X3 cw_X3_260 hd_X3_refuseLong rfl ⟨qz_b rfl, qz_b rfl⟩ ⟨rfl, rfl⟩ hl.1 rfl (qz_b rfl) dX3_share_30 hf (fun _ _ h9 => c_X3_refuseLong h9) (fun r18 s19 H locs hf hM => ?_)
  exact wt_lret hx hb hr hlk hK hM hf dX3_share_33
end
set_option maxHeartbeats 4000000 in
set_option maxRecDepth 100000 in
theorem c_X3_share {l : Launch} {D : va_G} {tI tII : ClassId} {B F : Nat} {x1 : Int32} {x2 : Int32} {x3 : Int32} {σ σ' : Mem} {r : Int64} (hf : f_X3_share F x1 x2 x3 σ = some (r, σ')) : wt_Ml l yX3_share cX3_share 8 (some .long) rm_X3_share [.ref (B + 0), .int x1, .int x2, .int x3] D tI tII B σ r σ' := by
  refine Met.ofW (cc := cX3_share) (maxL := 8) (ret := (some .long)) (by decide) rfl ?_
  intro p e s m args below meth c s₁ B9 hml hv
  obtain ⟨rfl, hP, hK⟩ := hv
  have hl := lv_entry ([.ref (B + 0), .int x1, .int x2, .int x3]) (n := 8) (qz_b rfl)
  rw [lg_entry_eq]
  generalize (lg_sl ([.ref (B + 0), .int x1, .int x2, .int x3]) ++ List.replicate (8 - (lg_sl ([.ref (B + 0), .int x1, .int x2, .int x3])).length) Slot.unset).toArray = ls at hl ⊢
  exact w_X3_share_0 (wt_C_of B9 hml hK) hf ⟨hP, va_S.rf⟩ hl
section
variable {p : Program} {l : Launch} {e : Env} {s : State} {m : MethodId} {args : Array Value} {below : List Frame} {meth : Method} {c : Code} {D : va_G} {tI tII : ClassId} {B : Nat}
set_option maxHeartbeats 4000000 in
set_option maxRecDepth 100000 in
theorem w_X3_fillPays_42 (C : wt_C p s m args meth c RX3 cX3_fillPays 7 none D tI tII) {F : Nat} {k14 : Int32 → Mem → Option (Unit × Mem)} {x1 : Int32} {x2 : Int32} {x3 : Int32} {x4 : Int32} {x5 : Int32} {σ' : Mem} (hk14 : ∀ (x5 : Int32) (σ : Mem) (H : Heap) (locs : List Loc) (ls : Array Slot), k14 x5 σ = some ((), σ') → wt_St D tI tII B σ s H locs → lv_has ls 7 [(0, .ref (B + 0)), (1, .int x1), (2, .int x2), (3, .int x3), (4, .int x4), (5, .int x5)] → W p l e rm_X3_fillPays s m args below meth c H locs 0 0 (MQ below (wt_Qv D tI tII B σ') args s 0 0 (fun q => B ≤ q)) (F0 m 14 ls [])) : ∀ (N : Nat) (x6 : Int32) (σ : Mem) (H : Heap) (locs : List Loc) (ls : Array Slot), lp_X3_fillPays_42 F k14 x1 x2 x3 x4 x5 N x6 σ = some ((), σ') → wt_St D tI tII B σ s H locs → lv_has ls 7 [(0, .ref (B + 0)), (1, .int x1), (2, .int x2), (3, .int x3), (4, .int x4), (5, .int x5), (6, .int x6)] → W p l e rm_X3_fillPays s m args below meth c H locs 0 0 (MQ below (wt_Qv D tI tII B σ') args s 0 0 (fun q => B ≤ q)) (F0 m 42 ls []) := by
  obtain ⟨hx, hb, hts, hown, hml, hr, hlk, hK⟩ := id C
  intro N
  induction N with
  | zero => intro x6 σ H locs ls hf; exact wt_none (show (none : Option (Unit × Mem)) = some ((), σ') from hf)
  | succ N ih =>
    intro x6 σ H locs ls hf hM hl
    replace hf := Eq.trans lp_X3_fillPays_42_s.symm hf
    refine lv_iload hx hb dX3_fillPays_42 (lv_at hl 6 rfl) ?_
    refine lv_aload_n hx hb dX3_fillPays_44 rfl (lv_at hl 0 rfl) ?_
    refine gf_X3_house  hx hb hts hown hK hM tw_114 dX3_fillPays_45 ?_
    refine gf_X0_paneCount wt_h1 hx hb hts hown hK hM tw_26 dX3_fillPays_48 ?_
    refine wq_icmp_ge (tgt := 120) hx hb dX3_fillPays_51 (by decide) hf (fun hf => ?_) (fun hf => ?_)
    · refine lv_iinc (v := (x5 + (1 : Int32))) (lv' := [(5, .int (x5 + (1 : Int32))), (0, .ref (B + 0)), (1, .int x1), (2, .int x2), (3, .int x3), (4, .int x4), (6, .int x6)]) hx hb dX3_fillPays_120 hl (k := 5) rfl rfl (by decide) rfl (fun ls hl => ?_)
      refine lv_goto (tgt := 14) hx hb dX3_fillPays_123 (by decide) ?_
      exact hk14 _ _ _ _ _ hf hM (lv_sub hl [1, 2, 3, 4, 5, 0] rfl)
    refine lv_aload_n hx hb dX3_fillPays_54 rfl (lv_at hl 0 rfl) ?_
    refine gf_X3_mind  hx hb hts hown hK hM tw_115 dX3_fillPays_55 ?_
    refine lv_iload_n hx hb dX3_fillPays_58 rfl (lv_at hl 2 rfl) ?_
    refine lv_iload_n hx hb dX3_fillPays_59 rfl (lv_at hl 3 rfl) ?_
    refine lv_iload_n hx hb dX3_fillPays_60 rfl (lv_at hl 3 rfl) ?_
    refine lv_iload hx hb dX3_fillPays_61 (lv_at hl 6 rfl) ?_
    refine wt_callVi (As := [.int x2, .int x3, .int x3, .int x6]) (rest := []) hx hb hml hts hown hK hM (wt_rc_X0 wt_h24) cw_X3_170 hd_X0_post rfl ⟨qz_b rfl, qz_b rfl⟩ ⟨rfl, rfl⟩ hl.1 rfl (qz_b rfl) dX3_fillPays_63 hf (fun _ _ h9 => c_X0_post wt_h24 h9) (fun r1 s2 H locs hf hM => ?_)
    refine lv_pop hx hb dX3_fillPays_66 rfl ?_
    refine lv_aload_n hx hb dX3_fillPays_67 rfl (lv_at hl 0 rfl) ?_
    refine gf_X3_mind  hx hb hts hown hK hM tw_115 dX3_fillPays_68 ?_
    refine wt_callVv (As := []) (rest := []) hx hb hml hts hown hK hM (wt_rc_X0 wt_h24) cw_X3_141 hd_X0_reckon rfl ⟨qz_b rfl, qz_b rfl⟩ ⟨rfl, rfl⟩ hl.1 rfl (qz_b rfl) dX3_fillPays_71 hf (fun _ _ h9 => c_X0_reckon wt_h24 h9) (fun r3 s4 H locs hf hM => ?_)
    refine lv_aload_n hx hb dX3_fillPays_74 rfl (lv_at hl 0 rfl) ?_
    refine gf_X3_firstPays  hx hb hts hown hK hM tw_123 dX3_fillPays_75 ?_
    refine lv_iload hx hb dX3_fillPays_78 (lv_at hl 5 rfl) ?_
    obtain ⟨i5, hf⟩ := wt_chk_of hf
    refine wt_ald hx hb hK hM wt_aa87 i5 dX3_fillPays_80 ?_
    refine lv_iload hx hb dX3_fillPays_81 (lv_at hl 6 rfl) ?_
    refine lv_aload_n hx hb dX3_fillPays_83 rfl (lv_at hl 0 rfl) ?_
    refine gf_X3_mind  hx hb hts hown hK hM tw_115 dX3_fillPays_84 ?_
    refine lv_iload_n hx hb dX3_fillPays_87 rfl (lv_at hl 1 rfl) ?_
    refine lv_iload hx hb dX3_fillPays_88 (lv_at hl 4 rfl) ?_
    refine wt_callVi (As := [.int x1, .int x4]) (rest := [.int x6, .ref (B + (88 + Int32.toNatClampNeg x5))]) hx hb hml hts hown hK hM (wt_rc_X0 wt_h24) cw_X3_229 hd_X0_wealth rfl ⟨qz_b rfl, qz_b rfl⟩ ⟨rfl, rfl⟩ hl.1 rfl (qz_b rfl) dX3_fillPays_90 hf (fun _ _ h9 => c_X0_wealth wt_h24 h9) (fun r6 s7 H locs hf hM => ?_)
    obtain ⟨i8, hf⟩ := wt_chk_of hf
    refine wt_ist hx hb hK hM (wt_r87 i5) i8 dX3_fillPays_93 hf (fun s9 H locs hf hM => ?_)
    refine lv_aload_n hx hb dX3_fillPays_94 rfl (lv_at hl 0 rfl) ?_
    refine gf_X3_otherPays  hx hb hts hown hK hM tw_124 dX3_fillPays_95 ?_
    refine lv_iload hx hb dX3_fillPays_98 (lv_at hl 5 rfl) ?_
    refine wt_ald hx hb hK hM wt_aa94 i5 dX3_fillPays_100 ?_
    refine lv_iload hx hb dX3_fillPays_101 (lv_at hl 6 rfl) ?_
    refine lv_aload_n hx hb dX3_fillPays_103 rfl (lv_at hl 0 rfl) ?_
    refine gf_X3_mind  hx hb hts hown hK hM tw_115 dX3_fillPays_104 ?_
    refine lv_iload_n hx hb dX3_fillPays_107 rfl (lv_at hl 2 rfl) ?_
    refine lv_iload hx hb dX3_fillPays_108 (lv_at hl 4 rfl) ?_
    refine wt_callVi (As := [.int x2, .int x4]) (rest := [.int x6, .ref (B + (95 + Int32.toNatClampNeg x5))]) hx hb hml hts hown hK hM (wt_rc_X0 wt_h24) cw_X3_229 hd_X0_wealth rfl ⟨qz_b rfl, qz_b rfl⟩ ⟨rfl, rfl⟩ hl.1 rfl (qz_b rfl) dX3_fillPays_110 hf (fun _ _ h9 => c_X0_wealth wt_h24 h9) (fun r10 s11 H locs hf hM => ?_)
    refine wt_ist hx hb hK hM (wt_r94 i5) i8 dX3_fillPays_113 hf (fun s12 H locs hf hM => ?_)
    refine lv_iinc (v := (x6 + (1 : Int32))) (lv' := [(6, .int (x6 + (1 : Int32))), (0, .ref (B + 0)), (1, .int x1), (2, .int x2), (3, .int x3), (4, .int x4), (5, .int x5)]) hx hb dX3_fillPays_114 hl (k := 6) rfl rfl (by decide) rfl (fun ls hl => ?_)
    refine lv_goto (tgt := 42) hx hb dX3_fillPays_117 (by decide) ?_
    exact ih _ _ _ _ _ hf hM (lv_sub hl [1, 2, 3, 4, 5, 6, 0] rfl)
set_option maxHeartbeats 4000000 in
set_option maxRecDepth 100000 in
theorem w_X3_fillPays_14 (C : wt_C p s m args meth c RX3 cX3_fillPays 7 none D tI tII) {F : Nat} {x1 : Int32} {x2 : Int32} {x3 : Int32} {x4 : Int32} {σ' : Mem} : ∀ (N : Nat) (x5 : Int32) (σ : Mem) (H : Heap) (locs : List Loc) (ls : Array Slot), lp_X3_fillPays_14 F x1 x2 x3 x4 N x5 σ = some ((), σ') → wt_St D tI tII B σ s H locs → lv_has ls 7 [(0, .ref (B + 0)), (1, .int x1), (2, .int x2), (3, .int x3), (4, .int x4), (5, .int x5)] → W p l e rm_X3_fillPays s m args below meth c H locs 0 0 (MQ below (wt_Qv D tI tII B σ') args s 0 0 (fun q => B ≤ q)) (F0 m 14 ls []) := by
  obtain ⟨hx, hb, hts, hown, hml, hr, hlk, hK⟩ := id C
  intro N
  induction N with
  | zero => intro x5 σ H locs ls hf; exact wt_none (show (none : Option (Unit × Mem)) = some ((), σ') from hf)
  | succ N ih =>
    intro x5 σ H locs ls hf hM hl
    replace hf := Eq.trans lp_X3_fillPays_14_s.symm hf
    refine lv_iload hx hb dX3_fillPays_14 (lv_at hl 5 rfl) ?_
    refine lv_aload_n hx hb dX3_fillPays_16 rfl (lv_at hl 0 rfl) ?_
    refine gf_X3_house  hx hb hts hown hK hM tw_114 dX3_fillPays_17 ?_
    refine gf_X0_paneCount wt_h1 hx hb hts hown hK hM tw_26 dX3_fillPays_20 ?_
    refine wq_icmp_ge (tgt := 126) hx hb dX3_fillPays_23 (by decide) hf (fun hf => ?_) (fun hf => ?_)
    · exact wt_vret hx hb hr hlk hK hM hf dX3_fillPays_126
    refine lv_aload_n hx hb dX3_fillPays_26 rfl (lv_at hl 0 rfl) ?_
    refine gf_X3_mind  hx hb hts hown hK hM tw_115 dX3_fillPays_27 ?_
    refine lv_iload_n hx hb dX3_fillPays_30 rfl (lv_at hl 1 rfl) ?_
    refine lv_iload_n hx hb dX3_fillPays_31 rfl (lv_at hl 3 rfl) ?_
    refine lv_iload_n hx hb dX3_fillPays_32 rfl (lv_at hl 3 rfl) ?_
    refine lv_iload hx hb dX3_fillPays_33 (lv_at hl 5 rfl) ?_
    refine wt_callVi (As := [.int x1, .int x3, .int x3, .int x5]) (rest := []) hx hb hml hts hown hK hM (wt_rc_X0 wt_h24) cw_X3_170 hd_X0_post rfl ⟨qz_b rfl, qz_b rfl⟩ ⟨rfl, rfl⟩ hl.1 rfl (qz_b rfl) dX3_fillPays_35 hf (fun _ _ h9 => c_X0_post wt_h24 h9) (fun r13 s14 H locs hf hM => ?_)
    refine lv_pop hx hb dX3_fillPays_38 rfl ?_
    refine lv_iconst (v := 0) hx hb dX3_fillPays_39 (by decide) ?_
    refine lv_istore (lv' := [(6, .int (0 : Int32)), (0, .ref (B + 0)), (1, .int x1), (2, .int x2), (3, .int x3), (4, .int x4), (5, .int x5)]) hx hb dX3_fillPays_40 hl (by decide) rfl (fun ls hl => ?_)
    exact w_X3_fillPays_42 C ih _ _ _ _ _ _ hf hM (lv_sub hl [1, 2, 3, 4, 5, 6, 0] rfl)
set_option maxHeartbeats 4000000 in
set_option maxRecDepth 100000 in
theorem w_X3_fillPays_0 (C : wt_C p s m args meth c RX3 cX3_fillPays 7 none D tI tII) {F : Nat} {x1 : Int32} {x2 : Int32} {x3 : Int32} {x4 : Int32} {σ : Mem} {σ' : Mem} {H : Heap} {locs : List Loc} {ls : Array Slot} (hf : f_X3_fillPays F x1 x2 x3 x4 σ = some ((), σ')) (hM : wt_St D tI tII B σ s H locs) (hl : lv_has ls 7 [(0, .ref (B + 0)), (1, .int x1), (2, .int x2), (3, .int x3), (4, .int x4)]) : W p l e rm_X3_fillPays s m args below meth c H locs 0 0 (MQ below (wt_Qv D tI tII B σ') args s 0 0 (fun q => B ≤ q)) (F0 m 0 ls []) := by
  obtain ⟨hx, hb, hts, hown, hml, hr, hlk, hK⟩ := id C
  replace hf := Eq.trans f_X3_fillPays_e.symm hf
  refine lv_aload_n hx hb dX3_fillPays_0 rfl (lv_at hl 0 rfl) ?_
  refine gf_X3_mind  hx hb hts hown hK hM tw_115 dX3_fillPays_1 ?_
  refine lv_aload_n hx hb dX3_fillPays_4 rfl (lv_at hl 0 rfl) ?_
  refine gf_X3_house  hx hb hts hown hK hM tw_114 dX3_fillPays_5 ?_
  refine wt_callVv (As := [.ref (B + 1)]) (rest := []) hx hb hml hts hown hK hM (wt_rc_X0 wt_h24) cw_X3_106 hd_X0_takeFrom rfl ⟨qz_b rfl, qz_b rfl⟩ ⟨rfl, rfl⟩ hl.1 rfl (qz_b rfl) dX3_fillPays_8 hf (fun _ _ h9 => c_X0_takeFrom wt_h24 wt_h1 h9) (fun r15 s16 H locs hf hM => ?_)
  refine lv_iconst (v := 0) hx hb dX3_fillPays_11 (by decide) ?_
  refine lv_istore (lv' := [(5, .int (0 : Int32)), (0, .ref (B + 0)), (1, .int x1), (2, .int x2), (3, .int x3), (4, .int x4)]) hx hb dX3_fillPays_12 hl (by decide) rfl (fun ls hl => ?_)
  exact w_X3_fillPays_14 C _ _ _ _ _ _ hf hM (lv_sub hl [1, 2, 3, 4, 5, 0] rfl)
end
set_option maxHeartbeats 4000000 in
set_option maxRecDepth 100000 in
theorem c_X3_fillPays {l : Launch} {D : va_G} {tI tII : ClassId} {B F : Nat} {x1 : Int32} {x2 : Int32} {x3 : Int32} {x4 : Int32} {σ σ' : Mem} (hf : f_X3_fillPays F x1 x2 x3 x4 σ = some ((), σ')) : wt_Mv l yX3_fillPays cX3_fillPays 7 none rm_X3_fillPays [.ref (B + 0), .int x1, .int x2, .int x3, .int x4] D tI tII B σ σ' := by
  refine Met.ofW (cc := cX3_fillPays) (maxL := 7) (ret := none) (by decide) rfl ?_
  intro p e s m args below meth c s₁ B9 hml hv
  obtain ⟨rfl, hP, hK⟩ := hv
  have hl := lv_entry ([.ref (B + 0), .int x1, .int x2, .int x3, .int x4]) (n := 7) (qz_b rfl)
  rw [lg_entry_eq]
  generalize (lg_sl ([.ref (B + 0), .int x1, .int x2, .int x3, .int x4]) ++ List.replicate (7 - (lg_sl ([.ref (B + 0), .int x1, .int x2, .int x3, .int x4])).length) Slot.unset).toArray = ls at hl ⊢
  exact w_X3_fillPays_0 (wt_C_of B9 hml hK) hf ⟨hP, va_S.rf⟩ hl
section
variable {p : Program} {l : Launch} {e : Env} {s : State} {m : MethodId} {args : Array Value} {below : List Frame} {meth : Method} {c : Code} {D : va_G} {tI tII : ClassId} {B : Nat}
set_option maxHeartbeats 4000000 in
set_option maxRecDepth 100000 in
theorem w_X3_bothContent_51 (C : wt_C p s m args meth c RX3 cX3_bothContent 4 (some .boolean) D tI tII) {F : Nat} {σ : Mem} {r : Int32} {σ' : Mem} {H : Heap} {locs : List Loc} {ls : Array Slot} (hf : j_X3_bothContent_51 F σ = some (r, σ')) (hM : wt_St D tI tII B σ s H locs) (hl : lv_has ls 4 []) : W p l e rm_X3_bothContent s m args below meth c H locs 0 0 (MQ below (wt_Qi D tI tII B r σ') args s 0 0 (fun q => B ≤ q)) (F0 m 51 ls []) := by
  obtain ⟨hx, hb, hts, hown, hml, hr, hlk, hK⟩ := id C
  replace hf := Eq.trans j_X3_bothContent_51_e.symm hf
  refine lv_iconst (v := 0) hx hb dX3_bothContent_51 (by decide) ?_
  exact wt_zret hx hb hr hlk hK hM (by decide) hf dX3_bothContent_52
set_option maxHeartbeats 4000000 in
set_option maxRecDepth 100000 in
theorem w_X3_bothContent_2 (C : wt_C p s m args meth c RX3 cX3_bothContent 4 (some .boolean) D tI tII) {F : Nat} {x1 : Int32} {x2 : Int32} {r : Int32} {σ' : Mem} : ∀ (N : Nat) (x3 : Int32) (σ : Mem) (H : Heap) (locs : List Loc) (ls : Array Slot), lp_X3_bothContent_2 F x1 x2 N x3 σ = some (r, σ') → wt_St D tI tII B σ s H locs → lv_has ls 4 [(0, .ref (B + 0)), (1, .int x1), (2, .int x2), (3, .int x3)] → W p l e rm_X3_bothContent s m args below meth c H locs 0 0 (MQ below (wt_Qi D tI tII B r σ') args s 0 0 (fun q => B ≤ q)) (F0 m 2 ls []) := by
  obtain ⟨hx, hb, hts, hown, hml, hr, hlk, hK⟩ := id C
  intro N
  induction N with
  | zero => intro x3 σ H locs ls hf; exact wt_none (show (none : Option (Int32 × Mem)) = some (r, σ') from hf)
  | succ N ih =>
    intro x3 σ H locs ls hf hM hl
    replace hf := Eq.trans lp_X3_bothContent_2_s.symm hf
    refine lv_iload_n hx hb dX3_bothContent_2 rfl (lv_at hl 3 rfl) ?_
    refine lv_aload_n hx hb dX3_bothContent_3 rfl (lv_at hl 0 rfl) ?_
    refine gf_X3_house  hx hb hts hown hK hM tw_114 dX3_bothContent_4 ?_
    refine gf_X0_paneCount wt_h1 hx hb hts hown hK hM tw_26 dX3_bothContent_7 ?_
    refine wq_icmp_ge (tgt := 59) hx hb dX3_bothContent_10 (by decide) hf (fun hf => ?_) (fun hf => ?_)
    · refine lv_iconst (v := 1) hx hb dX3_bothContent_59 (by decide) ?_
      exact wt_zret hx hb hr hlk hK hM (by decide) hf dX3_bothContent_60
    refine lv_aload_n hx hb dX3_bothContent_13 rfl (lv_at hl 0 rfl) ?_
    refine gf_X3_firstPays  hx hb hts hown hK hM tw_123 dX3_bothContent_14 ?_
    refine lv_iload_n hx hb dX3_bothContent_17 rfl (lv_at hl 3 rfl) ?_
    obtain ⟨i1, hf⟩ := wt_chk_of hf
    refine wt_ald hx hb hK hM wt_aa87 i1 dX3_bothContent_18 ?_
    refine lv_iload_n hx hb dX3_bothContent_19 rfl (lv_at hl 2 rfl) ?_
    obtain ⟨i2, hf⟩ := wt_chk_of hf
    refine wt_ild hx hb hK hM (wt_r87 i1) i2 dX3_bothContent_20 ?_
    refine lv_aload_n hx hb dX3_bothContent_21 rfl (lv_at hl 0 rfl) ?_
    refine gf_X3_firstPays  hx hb hts hown hK hM tw_123 dX3_bothContent_22 ?_
    refine lv_iload_n hx hb dX3_bothContent_25 rfl (lv_at hl 1 rfl) ?_
    obtain ⟨i3, hf⟩ := wt_chk_of hf
    refine wt_ald hx hb hK hM wt_aa87 i3 dX3_bothContent_26 ?_
    refine lv_iload_n hx hb dX3_bothContent_27 rfl (lv_at hl 2 rfl) ?_
    refine wt_ild hx hb hK hM (wt_r87 i3) i2 dX3_bothContent_28 ?_
    refine wq_icmp_gt (tgt := 51) hx hb dX3_bothContent_29 (by decide) hf (fun hf => ?_) (fun hf => ?_)
    · exact w_X3_bothContent_51 C hf hM (lv_sub hl [] rfl)
    refine lv_aload_n hx hb dX3_bothContent_32 rfl (lv_at hl 0 rfl) ?_
    refine gf_X3_otherPays  hx hb hts hown hK hM tw_124 dX3_bothContent_33 ?_
    refine lv_iload_n hx hb dX3_bothContent_36 rfl (lv_at hl 1 rfl) ?_
    refine wt_ald hx hb hK hM wt_aa94 i3 dX3_bothContent_37 ?_
    refine lv_iload_n hx hb dX3_bothContent_38 rfl (lv_at hl 3 rfl) ?_
    refine wt_ild hx hb hK hM (wt_r94 i3) i1 dX3_bothContent_39 ?_
    refine lv_aload_n hx hb dX3_bothContent_40 rfl (lv_at hl 0 rfl) ?_
    refine gf_X3_otherPays  hx hb hts hown hK hM tw_124 dX3_bothContent_41 ?_
    refine lv_iload_n hx hb dX3_bothContent_44 rfl (lv_at hl 1 rfl) ?_
    refine wt_ald hx hb hK hM wt_aa94 i3 dX3_bothContent_45 ?_
    refine lv_iload_n hx hb dX3_bothContent_46 rfl (lv_at hl 2 rfl) ?_
    refine wt_ild hx hb hK hM (wt_r94 i3) i2 dX3_bothContent_47 ?_
    refine wq_icmp_le (tgt := 53) hx hb dX3_bothContent_48 (by decide) hf (fun hf => ?_) (fun hf => ?_)
    · refine lv_iinc (v := (x3 + (1 : Int32))) (lv' := [(3, .int (x3 + (1 : Int32))), (0, .ref (B + 0)), (1, .int x1), (2, .int x2)]) hx hb dX3_bothContent_53 hl (k := 3) rfl rfl (by decide) rfl (fun ls hl => ?_)
      refine lv_goto (tgt := 2) hx hb dX3_bothContent_56 (by decide) ?_
      exact ih _ _ _ _ _ hf hM (lv_sub hl [1, 2, 3, 0] rfl)
    exact w_X3_bothContent_51 C hf hM (lv_sub hl [] rfl)
set_option maxHeartbeats 4000000 in
set_option maxRecDepth 100000 in
theorem w_X3_bothContent_0 (C : wt_C p s m args meth c RX3 cX3_bothContent 4 (some .boolean) D tI tII) {F : Nat} {x1 : Int32} {x2 : Int32} {σ : Mem} {r : Int32} {σ' : Mem} {H : Heap} {locs : List Loc} {ls : Array Slot} (hf : f_X3_bothContent F x1 x2 σ = some (r, σ')) (hM : wt_St D tI tII B σ s H locs) (hl : lv_has ls 4 [(0, .ref (B + 0)), (1, .int x1), (2, .int x2)]) : W p l e rm_X3_bothContent s m args below meth c H locs 0 0 (MQ below (wt_Qi D tI tII B r σ') args s 0 0 (fun q => B ≤ q)) (F0 m 0 ls []) := by
  obtain ⟨hx, hb, hts, hown, hml, hr, hlk, hK⟩ := id C
  replace hf := Eq.trans f_X3_bothContent_e.symm hf
  refine lv_iconst (v := 0) hx hb dX3_bothContent_0 (by decide) ?_
  refine lv_istore_n (lv' := [(3, .int (0 : Int32)), (0, .ref (B + 0)), (1, .int x1), (2, .int x2)]) hx hb dX3_bothContent_1 rfl hl (by decide) rfl (fun ls hl => ?_)
  exact w_X3_bothContent_2 C _ _ _ _ _ _ hf hM (lv_sub hl [1, 2, 3, 0] rfl)
end
set_option maxHeartbeats 4000000 in
set_option maxRecDepth 100000 in
theorem c_X3_bothContent {l : Launch} {D : va_G} {tI tII : ClassId} {B F : Nat} {x1 : Int32} {x2 : Int32} {σ σ' : Mem} {r : Int32} (hf : f_X3_bothContent F x1 x2 σ = some (r, σ')) : wt_Mi l yX3_bothContent cX3_bothContent 4 (some .boolean) rm_X3_bothContent [.ref (B + 0), .int x1, .int x2] D tI tII B σ r σ' := by
  refine Met.ofW (cc := cX3_bothContent) (maxL := 4) (ret := (some .boolean)) (by decide) rfl ?_
  intro p e s m args below meth c s₁ B9 hml hv
  obtain ⟨rfl, hP, hK⟩ := hv
  have hl := lv_entry ([.ref (B + 0), .int x1, .int x2]) (n := 4) (qz_b rfl)
  rw [lg_entry_eq]
  generalize (lg_sl ([.ref (B + 0), .int x1, .int x2]) ++ List.replicate (4 - (lg_sl ([.ref (B + 0), .int x1, .int x2])).length) Slot.unset).toArray = ls at hl ⊢
  exact w_X3_bothContent_0 (wt_C_of B9 hml hK) hf ⟨hP, va_S.rf⟩ hl
section
variable {p : Program} {l : Launch} {e : Env} {s : State} {m : MethodId} {args : Array Value} {below : List Frame} {meth : Method} {c : Code} {D : va_G} {tI tII : ClassId} {B : Nat}
set_option maxHeartbeats 4000000 in
set_option maxRecDepth 100000 in
theorem w_X3_two_66 (C : wt_C p s m args meth c RX3 cX3_two 8 (some .int) D tI tII) {F : Nat} {k51 : Int32 → Mem → Option (Int32 × Mem)} {x6 : Int32} {r : Int32} {σ' : Mem} (hk51 : ∀ (x6 : Int32) (σ : Mem) (H : Heap) (locs : List Loc) (ls : Array Slot), k51 x6 σ = some (r, σ') → wt_St D tI tII B σ s H locs → lv_has ls 8 [(0, .ref (B + 0)), (6, .int x6)] → W p l e rm_X3_two s m args below meth c H locs 0 0 (MQ below (wt_Qi D tI tII B r σ') args s 0 0 (fun q => B ≤ q)) (F0 m 51 ls [])) : ∀ (N : Nat) (x7 : Int32) (σ : Mem) (H : Heap) (locs : List Loc) (ls : Array Slot), lp_X3_two_66 F k51 x6 N x7 σ = some (r, σ') → wt_St D tI tII B σ s H locs → lv_has ls 8 [(0, .ref (B + 0)), (6, .int x6), (7, .int x7)] → W p l e rm_X3_two s m args below meth c H locs 0 0 (MQ below (wt_Qi D tI tII B r σ') args s 0 0 (fun q => B ≤ q)) (F0 m 66 ls []) := by
  obtain ⟨hx, hb, hts, hown, hml, hr, hlk, hK⟩ := id C
  intro N
  induction N with
  | zero => intro x7 σ H locs ls hf; exact wt_none (show (none : Option (Int32 × Mem)) = some (r, σ') from hf)
  | succ N ih =>
    intro x7 σ H locs ls hf hM hl
    replace hf := Eq.trans lp_X3_two_66_s.symm hf
    refine lv_iload hx hb dX3_two_66 (lv_at hl 2 rfl) ?_
    refine lv_aload_n hx hb dX3_two_68 rfl (lv_at hl 0 rfl) ?_
    refine gf_X3_house  hx hb hts hown hK hM tw_114 dX3_two_69 ?_
    refine gf_X0_paneCount wt_h1 hx hb hts hown hK hM tw_26 dX3_two_72 ?_
    refine wq_icmp_ge (tgt := 104) hx hb dX3_two_75 (by decide) hf (fun hf => ?_) (fun hf => ?_)
    · refine lv_iinc (v := (x6 + (1 : Int32))) (lv' := [(6, .int (x6 + (1 : Int32))), (0, .ref (B + 0)), (7, .int x7)]) hx hb dX3_two_104 hl (k := 1) rfl rfl (by decide) rfl (fun ls hl => ?_)
      refine lv_goto (tgt := 51) hx hb dX3_two_107 (by decide) ?_
      exact hk51 _ _ _ _ _ hf hM (lv_sub hl [1, 0] rfl)
    refine lv_aload_n hx hb dX3_two_78 rfl (lv_at hl 0 rfl) ?_
    refine lv_iload hx hb dX3_two_79 (lv_at hl 1 rfl) ?_
    refine lv_iload hx hb dX3_two_81 (lv_at hl 2 rfl) ?_
    refine wt_callVi (As := [.int x6, .int x7]) (rest := []) hx hb hml hts hown hK hM wt_rc_X3 cw_X3_272 hd_X3_bothContent rfl ⟨qz_b rfl, qz_b rfl⟩ ⟨rfl, rfl⟩ hl.1 rfl (qz_b rfl) dX3_two_83 hf (fun _ _ h9 => c_X3_bothContent h9) (fun r1 s2 H locs hf hM => ?_)
    refine wq_if_eq (tgt := 98) hx hb dX3_two_86 (by decide) hf (fun hf => ?_) (fun hf => ?_)
    · refine lv_iinc (v := (x7 + (1 : Int32))) (lv' := [(7, .int (x7 + (1 : Int32))), (0, .ref (B + 0)), (6, .int x6)]) hx hb dX3_two_98 hl (k := 2) rfl rfl (by decide) rfl (fun ls hl => ?_)
      refine lv_goto (tgt := 66) hx hb dX3_two_101 (by decide) ?_
      exact ih _ _ _ _ _ hf hM (lv_sub hl [1, 2, 0] rfl)
    refine lv_bipush (v := 10) hx hb dX3_two_89 (by decide) ?_
    refine lv_iload hx hb dX3_two_91 (lv_at hl 1 rfl) ?_
    refine lv_imul hx hb dX3_two_93 ?_
    refine lv_iload hx hb dX3_two_94 (lv_at hl 2 rfl) ?_
    refine lv_iadd hx hb dX3_two_96 ?_
    exact wt_iret hx hb hr hlk hK hM hf dX3_two_97
set_option maxHeartbeats 4000000 in
set_option maxRecDepth 100000 in
theorem w_X3_two_51 (C : wt_C p s m args meth c RX3 cX3_two 8 (some .int) D tI tII) {F : Nat} {r : Int32} {σ' : Mem} : ∀ (N : Nat) (x6 : Int32) (σ : Mem) (H : Heap) (locs : List Loc) (ls : Array Slot), lp_X3_two_51 F N x6 σ = some (r, σ') → wt_St D tI tII B σ s H locs → lv_has ls 8 [(0, .ref (B + 0)), (6, .int x6)] → W p l e rm_X3_two s m args below meth c H locs 0 0 (MQ below (wt_Qi D tI tII B r σ') args s 0 0 (fun q => B ≤ q)) (F0 m 51 ls []) := by
  obtain ⟨hx, hb, hts, hown, hml, hr, hlk, hK⟩ := id C
  intro N
  induction N with
  | zero => intro x6 σ H locs ls hf; exact wt_none (show (none : Option (Int32 × Mem)) = some (r, σ') from hf)
  | succ N ih =>
    intro x6 σ H locs ls hf hM hl
    replace hf := Eq.trans lp_X3_two_51_s.symm hf
    refine lv_iload hx hb dX3_two_51 (lv_at hl 1 rfl) ?_
    refine lv_aload_n hx hb dX3_two_53 rfl (lv_at hl 0 rfl) ?_
    refine gf_X3_house  hx hb hts hown hK hM tw_114 dX3_two_54 ?_
    refine gf_X0_paneCount wt_h1 hx hb hts hown hK hM tw_26 dX3_two_57 ?_
    refine wq_icmp_ge (tgt := 110) hx hb dX3_two_60 (by decide) hf (fun hf => ?_) (fun hf => ?_)
    · refine lv_bipush (v := -9) hx hb dX3_two_110 (by decide) ?_
      exact wt_iret hx hb hr hlk hK hM hf dX3_two_112
    refine lv_iconst (v := 0) hx hb dX3_two_63 (by decide) ?_
    refine lv_istore (lv' := [(7, .int (0 : Int32)), (0, .ref (B + 0)), (6, .int x6)]) hx hb dX3_two_64 hl (by decide) rfl (fun ls hl => ?_)
    exact w_X3_two_66 C ih _ _ _ _ _ _ hf hM (lv_sub hl [1, 2, 0] rfl)
set_option maxHeartbeats 4000000 in
set_option maxRecDepth 100000 in
theorem w_X3_two_0 (C : wt_C p s m args meth c RX3 cX3_two 8 (some .int) D tI tII) {F : Nat} {x1 : Int32} {x2 : Int32} {x3 : Int32} {x4 : Int32} {σ : Mem} {r : Int32} {σ' : Mem} {H : Heap} {locs : List Loc} {ls : Array Slot} (hf : f_X3_two F x1 x2 x3 x4 σ = some (r, σ')) (hM : wt_St D tI tII B σ s H locs) (hl : lv_has ls 8 [(0, .ref (B + 0)), (1, .int x1), (2, .int x2), (3, .int x3), (4, .int x4)]) : W p l e rm_X3_two s m args below meth c H locs 0 0 (MQ below (wt_Qi D tI tII B r σ') args s 0 0 (fun q => B ≤ q)) (F0 m 0 ls []) := by
  obtain ⟨hx, hb, hts, hown, hml, hr, hlk, hK⟩ := id C
  replace hf := Eq.trans f_X3_two_e.symm hf
  refine lv_aload_n hx hb dX3_two_0 rfl (lv_at hl 0 rfl) ?_
  refine lv_iload_n hx hb dX3_two_1 rfl (lv_at hl 1 rfl) ?_
  refine lv_iload_n hx hb dX3_two_2 rfl (lv_at hl 2 rfl) ?_
  refine wt_callVi (As := [.int x1, .int x2]) (rest := []) hx hb hml hts hown hK hM wt_rc_X3 cw_X3_89 hd_X3_noPair rfl ⟨qz_b rfl, qz_b rfl⟩ ⟨rfl, rfl⟩ hl.1 rfl (qz_b rfl) dX3_two_3 hf (fun _ _ h9 => c_X3_noPair h9) (fun r3 s4 H locs hf hM => ?_)
  refine lv_iload_n hx hb dX3_two_6 rfl (lv_at hl 3 rfl) ?_
  refine wt_callSi (As := [.int x3]) (rest := [.int r3]) hx hb hml hts hown hK hM cw_X3_160 hd_X3_noHour rfl ⟨qz_b rfl, qz_b rfl⟩ ⟨rfl, rfl⟩ hl.1 rfl (qz_b rfl) dX3_two_7 hf (fun _ _ h9 => c_X3_noHour h9) (fun r5 s6 H locs hf hM => ?_)
  refine wt_callSi (As := [.int r3, .int r5]) (rest := []) hx hb hml hts hown hK hM cw_X3_85 hd_X3_firstOf rfl ⟨qz_b rfl, qz_b rfl⟩ ⟨rfl, rfl⟩ hl.1 rfl (qz_b rfl) dX3_two_10 hf (fun _ _ h9 => c_X3_firstOf h9) (fun r7 s8 H locs hf hM => ?_)
  refine lv_iload hx hb dX3_two_13 (lv_at hl 4 rfl) ?_
  refine lv_iconst (v := 0) hx hb dX3_two_15 (by decide) ?_
  refine lv_sipush (v := 999) hx hb dX3_two_16 (by decide) ?_
  refine wt_callSi (As := [.int x4, .int (0 : Int32), .int (999 : Int32)]) (rest := [.int r7]) hx hb hml hts hown hK hM cw_X3_81 hd_X3_outside rfl ⟨qz_b rfl, qz_b rfl⟩ ⟨rfl, rfl⟩ hl.1 rfl (qz_b rfl) dX3_two_19 hf (fun _ _ h9 => c_X3_outside h9) (fun r9 s10 H locs hf hM => ?_)
  refine wt_callSi (As := [.int r7, .int r9]) (rest := []) hx hb hml hts hown hK hM cw_X3_85 hd_X3_firstOf rfl ⟨qz_b rfl, qz_b rfl⟩ ⟨rfl, rfl⟩ hl.1 rfl (qz_b rfl) dX3_two_22 hf (fun _ _ h9 => c_X3_firstOf h9) (fun r11 s12 H locs hf hM => ?_)
  refine lv_istore (lv' := [(5, .int r11), (0, .ref (B + 0)), (1, .int x1), (2, .int x2), (3, .int x3), (4, .int x4)]) hx hb dX3_two_25 hl (by decide) rfl (fun ls hl => ?_)
  refine lv_iload hx hb dX3_two_27 (lv_at hl 0 rfl) ?_
  refine wq_if_eq (tgt := 39) hx hb dX3_two_29 (by decide) hf (fun hf => ?_) (fun hf => ?_)
  · refine lv_aload_n hx hb dX3_two_39 rfl (lv_at hl 1 rfl) ?_
    refine lv_iload_n hx hb dX3_two_40 rfl (lv_at hl 2 rfl) ?_
    refine lv_iload_n hx hb dX3_two_41 rfl (lv_at hl 3 rfl) ?_
    refine lv_iload_n hx hb dX3_two_42 rfl (lv_at hl 4 rfl) ?_
    refine lv_iload hx hb dX3_two_43 (lv_at hl 5 rfl) ?_
    refine wt_callVv (As := [.int x1, .int x2, .int x3, .int x4]) (rest := []) hx hb hml hts hown hK hM wt_rc_X3 cw_X3_268 hd_X3_fillPays rfl ⟨qz_b rfl, qz_b rfl⟩ ⟨rfl, rfl⟩ hl.1 rfl (qz_b rfl) dX3_two_45 hf (fun _ _ h9 => c_X3_fillPays h9) (fun r13 s14 H locs hf hM => ?_)
    refine lv_iconst (v := 0) hx hb dX3_two_48 (by decide) ?_
    refine lv_istore (lv' := [(6, .int (0 : Int32)), (5, .int r11), (0, .ref (B + 0)), (1, .int x1), (2, .int x2), (3, .int x3), (4, .int x4)]) hx hb dX3_two_49 hl (by decide) rfl (fun ls hl => ?_)
    exact w_X3_two_51 C _ _ _ _ _ _ hf hM (lv_sub hl [2, 0] rfl)
  refine lv_aload_n hx hb dX3_two_32 rfl (lv_at hl 1 rfl) ?_
  refine lv_iload hx hb dX3_two_33 (lv_at hl 0 rfl) ?_
  refine wt_callVi (As := [.int r11]) (rest := []) hx hb hml hts hown hK hM wt_rc_X3 cw_X3_61 hd_X3_refuse rfl ⟨qz_b rfl, qz_b rfl⟩ ⟨rfl, rfl⟩ hl.1 rfl (qz_b rfl) dX3_two_35 hf (fun _ _ h9 => c_X3_refuse h9) (fun r15 s16 H locs hf hM => ?_)
  exact wt_iret hx hb hr hlk hK hM hf dX3_two_38
end
set_option maxHeartbeats 4000000 in
set_option maxRecDepth 100000 in
theorem c_X3_two {l : Launch} {D : va_G} {tI tII : ClassId} {B F : Nat} {x1 : Int32} {x2 : Int32} {x3 : Int32} {x4 : Int32} {σ σ' : Mem} {r : Int32} (hf : f_X3_two F x1 x2 x3 x4 σ = some (r, σ')) : wt_Mi l yX3_two cX3_two 8 (some .int) rm_X3_two [.ref (B + 0), .int x1, .int x2, .int x3, .int x4] D tI tII B σ r σ' := by
  refine Met.ofW (cc := cX3_two) (maxL := 8) (ret := (some .int)) (by decide) rfl ?_
  intro p e s m args below meth c s₁ B9 hml hv
  obtain ⟨rfl, hP, hK⟩ := hv
  have hl := lv_entry ([.ref (B + 0), .int x1, .int x2, .int x3, .int x4]) (n := 8) (qz_b rfl)
  rw [lg_entry_eq]
  generalize (lg_sl ([.ref (B + 0), .int x1, .int x2, .int x3, .int x4]) ++ List.replicate (8 - (lg_sl ([.ref (B + 0), .int x1, .int x2, .int x3, .int x4])).length) Slot.unset).toArray = ls at hl ⊢
  exact w_X3_two_0 (wt_C_of B9 hml hK) hf ⟨hP, va_S.rf⟩ hl
section
variable {p : Program} {l : Launch} {e : Env} {s : State} {m : MethodId} {args : Array Value} {below : List Frame} {meth : Method} {c : Code} {D : va_G} {tI tII : ClassId} {B : Nat}
set_option maxHeartbeats 4000000 in
set_option maxRecDepth 100000 in
theorem w_X3_inRow_0 (C : wt_C p s m args meth c RX3 cX3_inRow 1 (some .int) D tI tII) {F : Nat} {x0 : Int32} {σ : Mem} {r : Int32} {σ' : Mem} {H : Heap} {locs : List Loc} {ls : Array Slot} (hf : f_X3_inRow F x0 σ = some (r, σ')) (hM : wt_St D tI tII B σ s H locs) (hl : lv_has ls 1 [(0, .int x0)]) : W p l e rm_X3_inRow s m args below meth c H locs 0 0 (MQ below (wt_Qi D tI tII B r σ') args s 0 0 (fun q => B ≤ q)) (F0 m 0 ls []) := by
  obtain ⟨hx, hb, hts, hown, hml, hr, hlk, hK⟩ := id C
  replace hf := Eq.trans f_X3_inRow_e.symm hf
  refine lv_iload_n hx hb dX3_inRow_0 rfl (lv_at hl 0 rfl) ?_
  refine lv_bipush (v := -9) hx hb dX3_inRow_1 (by decide) ?_
  refine wq_icmp_ne (tgt := 11) hx hb dX3_inRow_3 (by decide) hf (fun hf => ?_) (fun hf => ?_)
  · refine lv_iload_n hx hb dX3_inRow_11 rfl (lv_at hl 0 rfl) ?_
    exact wt_iret hx hb hr hlk hK hM hf dX3_inRow_12
  refine lv_bipush (v := 99) hx hb dX3_inRow_6 (by decide) ?_
  refine lv_goto (tgt := 12) hx hb dX3_inRow_8 (by decide) ?_
  exact wt_iret hx hb hr hlk hK hM hf dX3_inRow_12
end
set_option maxHeartbeats 4000000 in
set_option maxRecDepth 100000 in
theorem c_X3_inRow {l : Launch} {D : va_G} {tI tII : ClassId} {B F : Nat} {x0 : Int32} {σ σ' : Mem} {r : Int32} (hf : f_X3_inRow F x0 σ = some (r, σ')) : wt_Mi l yX3_inRow cX3_inRow 1 (some .int) rm_X3_inRow [.int x0] D tI tII B σ r σ' := by
  refine Met.ofW (cc := cX3_inRow) (maxL := 1) (ret := (some .int)) (by decide) rfl ?_
  intro p e s m args below meth c s₁ B9 hml hv
  obtain ⟨rfl, hP, hK⟩ := hv
  have hl := lv_entry ([.int x0]) (n := 1) (qz_b rfl)
  rw [lg_entry_eq]
  generalize (lg_sl ([.int x0]) ++ List.replicate (1 - (lg_sl ([.int x0])).length) Slot.unset).toArray = ls at hl ⊢
  exact w_X3_inRow_0 (wt_C_of B9 hml hK) hf ⟨hP, va_S.rf⟩ hl
section
variable {p : Program} {l : Launch} {e : Env} {s : State} {m : MethodId} {args : Array Value} {below : List Frame} {meth : Method} {c : Code} {D : va_G} {tI tII : ClassId} {B : Nat}
set_option maxHeartbeats 4000000 in
set_option maxRecDepth 100000 in
theorem w_X3_rowTells_45 (C : wt_C p s m args meth c RX3 cX3_rowTells 3 (some .boolean) D tI tII) {F : Nat} {σ : Mem} {r : Int32} {σ' : Mem} {H : Heap} {locs : List Loc} {ls : Array Slot} (hf : j_X3_rowTells_45 F σ = some (r, σ')) (hM : wt_St D tI tII B σ s H locs) (hl : lv_has ls 3 []) : W p l e rm_X3_rowTells s m args below meth c H locs 0 0 (MQ below (wt_Qi D tI tII B r σ') args s 0 0 (fun q => B ≤ q)) (F0 m 45 ls []) := by
  obtain ⟨hx, hb, hts, hown, hml, hr, hlk, hK⟩ := id C
  replace hf := Eq.trans j_X3_rowTells_45_e.symm hf
  refine lv_iconst (v := 1) hx hb dX3_rowTells_45 (by decide) ?_
  exact wt_zret hx hb hr hlk hK hM (by decide) hf dX3_rowTells_46
set_option maxHeartbeats 4000000 in
set_option maxRecDepth 100000 in
theorem w_X3_rowTells_2 (C : wt_C p s m args meth c RX3 cX3_rowTells 3 (some .boolean) D tI tII) {F : Nat} {x1 : Int32} {r : Int32} {σ' : Mem} : ∀ (N : Nat) (x2 : Int32) (σ : Mem) (H : Heap) (locs : List Loc) (ls : Array Slot), lp_X3_rowTells_2 F x1 N x2 σ = some (r, σ') → wt_St D tI tII B σ s H locs → lv_has ls 3 [(0, .ref (B + 0)), (1, .int x1), (2, .int x2)] → W p l e rm_X3_rowTells s m args below meth c H locs 0 0 (MQ below (wt_Qi D tI tII B r σ') args s 0 0 (fun q => B ≤ q)) (F0 m 2 ls []) := by
  obtain ⟨hx, hb, hts, hown, hml, hr, hlk, hK⟩ := id C
  intro N
  induction N with
  | zero => intro x2 σ H locs ls hf; exact wt_none (show (none : Option (Int32 × Mem)) = some (r, σ') from hf)
  | succ N ih =>
    intro x2 σ H locs ls hf hM hl
    replace hf := Eq.trans lp_X3_rowTells_2_s.symm hf
    refine lv_iload_n hx hb dX3_rowTells_2 rfl (lv_at hl 2 rfl) ?_
    refine lv_aload_n hx hb dX3_rowTells_3 rfl (lv_at hl 0 rfl) ?_
    refine gf_X3_rowSize  hx hb hts hown hK hM tw_121 dX3_rowTells_4 ?_
    refine wq_icmp_ge (tgt := 45) hx hb dX3_rowTells_7 (by decide) hf (fun hf => ?_) (fun hf => ?_)
    · exact w_X3_rowTells_45 C hf hM (lv_sub hl [] rfl)
    refine lv_iload_n hx hb dX3_rowTells_10 rfl (lv_at hl 2 rfl) ?_
    refine lv_bipush (v := 8) hx hb dX3_rowTells_11 (by decide) ?_
    refine wq_icmp_ge (tgt := 45) hx hb dX3_rowTells_13 (by decide) hf (fun hf => ?_) (fun hf => ?_)
    · exact w_X3_rowTells_45 C hf hM (lv_sub hl [] rfl)
    refine lv_aload_n hx hb dX3_rowTells_16 rfl (lv_at hl 0 rfl) ?_
    refine gf_X3_rowNumbers  hx hb hts hown hK hM tw_120 dX3_rowTells_17 ?_
    refine lv_iload_n hx hb dX3_rowTells_20 rfl (lv_at hl 2 rfl) ?_
    obtain ⟨i1, hf⟩ := wt_chk_of hf
    refine wt_ild hx hb hK hM wt_a85 i1 dX3_rowTells_21 ?_
    refine lv_aload_n hx hb dX3_rowTells_22 rfl (lv_at hl 0 rfl) ?_
    refine gf_X3_mind  hx hb hts hown hK hM tw_115 dX3_rowTells_23 ?_
    refine lv_iload_n hx hb dX3_rowTells_26 rfl (lv_at hl 2 rfl) ?_
    refine lv_iload_n hx hb dX3_rowTells_27 rfl (lv_at hl 1 rfl) ?_
    refine wt_callVi (As := [.int x2, .int x1]) (rest := [.int (σ 85 (Int32.toNatClampNeg x2))]) hx hb hml hts hown hK hM (wt_rc_X0 wt_h24) cw_X3_223 hd_X0_holder rfl ⟨qz_b rfl, qz_b rfl⟩ ⟨rfl, rfl⟩ hl.1 rfl (qz_b rfl) dX3_rowTells_28 hf (fun _ _ h9 => c_X0_holder wt_h24 h9) (fun r2 s3 H locs hf hM => ?_)
    refine wt_callSi (As := [.int r2]) (rest := [.int (σ 85 (Int32.toNatClampNeg x2))]) hx hb hml hts hown hK hM cw_X3_281 hd_X3_inRow rfl ⟨qz_b rfl, qz_b rfl⟩ ⟨rfl, rfl⟩ hl.1 rfl (qz_b rfl) dX3_rowTells_31 hf (fun _ _ h9 => c_X3_inRow h9) (fun r4 s5 H locs hf hM => ?_)
    refine wq_icmp_eq (tgt := 39) hx hb dX3_rowTells_34 (by decide) hf (fun hf => ?_) (fun hf => ?_)
    · refine lv_iinc (v := (x2 + (1 : Int32))) (lv' := [(2, .int (x2 + (1 : Int32))), (0, .ref (B + 0)), (1, .int x1)]) hx hb dX3_rowTells_39 hl (k := 2) rfl rfl (by decide) rfl (fun ls hl => ?_)
      refine lv_goto (tgt := 2) hx hb dX3_rowTells_42 (by decide) ?_
      exact ih _ _ _ _ _ hf hM (lv_sub hl [1, 2, 0] rfl)
    refine lv_iconst (v := 0) hx hb dX3_rowTells_37 (by decide) ?_
    exact wt_zret hx hb hr hlk hK hM (by decide) hf dX3_rowTells_38
set_option maxHeartbeats 4000000 in
set_option maxRecDepth 100000 in
theorem w_X3_rowTells_0 (C : wt_C p s m args meth c RX3 cX3_rowTells 3 (some .boolean) D tI tII) {F : Nat} {x1 : Int32} {σ : Mem} {r : Int32} {σ' : Mem} {H : Heap} {locs : List Loc} {ls : Array Slot} (hf : f_X3_rowTells F x1 σ = some (r, σ')) (hM : wt_St D tI tII B σ s H locs) (hl : lv_has ls 3 [(0, .ref (B + 0)), (1, .int x1)]) : W p l e rm_X3_rowTells s m args below meth c H locs 0 0 (MQ below (wt_Qi D tI tII B r σ') args s 0 0 (fun q => B ≤ q)) (F0 m 0 ls []) := by
  obtain ⟨hx, hb, hts, hown, hml, hr, hlk, hK⟩ := id C
  replace hf := Eq.trans f_X3_rowTells_e.symm hf
  refine lv_iconst (v := 0) hx hb dX3_rowTells_0 (by decide) ?_
  refine lv_istore_n (lv' := [(2, .int (0 : Int32)), (0, .ref (B + 0)), (1, .int x1)]) hx hb dX3_rowTells_1 rfl hl (by decide) rfl (fun ls hl => ?_)
  exact w_X3_rowTells_2 C _ _ _ _ _ _ hf hM (lv_sub hl [1, 2, 0] rfl)
end
set_option maxHeartbeats 4000000 in
set_option maxRecDepth 100000 in
theorem c_X3_rowTells {l : Launch} {D : va_G} {tI tII : ClassId} {B F : Nat} {x1 : Int32} {σ σ' : Mem} {r : Int32} (hf : f_X3_rowTells F x1 σ = some (r, σ')) : wt_Mi l yX3_rowTells cX3_rowTells 3 (some .boolean) rm_X3_rowTells [.ref (B + 0), .int x1] D tI tII B σ r σ' := by
  refine Met.ofW (cc := cX3_rowTells) (maxL := 3) (ret := (some .boolean)) (by decide) rfl ?_
  intro p e s m args below meth c s₁ B9 hml hv
  obtain ⟨rfl, hP, hK⟩ := hv
  have hl := lv_entry ([.ref (B + 0), .int x1]) (n := 3) (qz_b rfl)
  rw [lg_entry_eq]
  generalize (lg_sl ([.ref (B + 0), .int x1]) ++ List.replicate (3 - (lg_sl ([.ref (B + 0), .int x1])).length) Slot.unset).toArray = ls at hl ⊢
  exact w_X3_rowTells_0 (wt_C_of B9 hml hK) hf ⟨hP, va_S.rf⟩ hl
section
variable {p : Program} {l : Launch} {e : Env} {s : State} {m : MethodId} {args : Array Value} {below : List Frame} {meth : Method} {c : Code} {D : va_G} {tI tII : ClassId} {B : Nat}
set_option maxHeartbeats 4000000 in
set_option maxRecDepth 100000 in
theorem w_X3_whichLaw_65 (C : wt_C p s m args meth c RX3 cX3_whichLaw 4 (some .int) D tI tII) {F : Nat} {k30 : Int32 → Int32 → Mem → Option (Int32 × Mem)} {x2 : Int32} {x3 : Int32} {σ : Mem} {r : Int32} {σ' : Mem} {H : Heap} {locs : List Loc} {ls : Array Slot} (hk30 : ∀ (x2 : Int32) (x3 : Int32) (σ : Mem) (H : Heap) (locs : List Loc) (ls : Array Slot), k30 x2 x3 σ = some (r, σ') → wt_St D tI tII B σ s H locs → lv_has ls 4 [(0, .ref (B + 0)), (2, .int x2), (3, .int x3)] → W p l e rm_X3_whichLaw s m args below meth c H locs 0 0 (MQ below (wt_Qi D tI tII B r σ') args s 0 0 (fun q => B ≤ q)) (F0 m 30 ls [])) (hf : j_X3_whichLaw_65 F k30 x2 x3 σ = some (r, σ')) (hM : wt_St D tI tII B σ s H locs) (hl : lv_has ls 4 [(0, .ref (B + 0)), (2, .int x2), (3, .int x3)]) : W p l e rm_X3_whichLaw s m args below meth c H locs 0 0 (MQ below (wt_Qi D tI tII B r σ') args s 0 0 (fun q => B ≤ q)) (F0 m 65 ls []) := by
  obtain ⟨hx, hb, hts, hown, hml, hr, hlk, hK⟩ := id C
  replace hf := Eq.trans j_X3_whichLaw_65_e.symm hf
  refine lv_iinc (v := (x3 + (1 : Int32))) (lv' := [(3, .int (x3 + (1 : Int32))), (0, .ref (B + 0)), (2, .int x2)]) hx hb dX3_whichLaw_65 hl (k := 2) rfl rfl (by decide) rfl (fun ls hl => ?_)
  refine lv_goto (tgt := 30) hx hb dX3_whichLaw_68 (by decide) ?_
  exact hk30 _ _ _ _ _ _ hf hM (lv_sub hl [1, 2, 0] rfl)
set_option maxHeartbeats 4000000 in
set_option maxRecDepth 100000 in
theorem w_X3_whichLaw_30 (C : wt_C p s m args meth c RX3 cX3_whichLaw 4 (some .int) D tI tII) {F : Nat} {r : Int32} {σ' : Mem} : ∀ (N : Nat) (x2 : Int32) (x3 : Int32) (σ : Mem) (H : Heap) (locs : List Loc) (ls : Array Slot), lp_X3_whichLaw_30 F N x2 x3 σ = some (r, σ') → wt_St D tI tII B σ s H locs → lv_has ls 4 [(0, .ref (B + 0)), (2, .int x2), (3, .int x3)] → W p l e rm_X3_whichLaw s m args below meth c H locs 0 0 (MQ below (wt_Qi D tI tII B r σ') args s 0 0 (fun q => B ≤ q)) (F0 m 30 ls []) := by
  obtain ⟨hx, hb, hts, hown, hml, hr, hlk, hK⟩ := id C
  intro N
  induction N with
  | zero => intro x2 x3 σ H locs ls hf; exact wt_none (show (none : Option (Int32 × Mem)) = some (r, σ') from hf)
  | succ N ih =>
    intro x2 x3 σ H locs ls hf hM hl
    replace hf := Eq.trans lp_X3_whichLaw_30_s.symm hf
    refine lv_iload_n hx hb dX3_whichLaw_30 rfl (lv_at hl 2 rfl) ?_
    refine lv_iconst (v := 3) hx hb dX3_whichLaw_31 (by decide) ?_
    refine wq_icmp_ge (tgt := 71) hx hb dX3_whichLaw_32 (by decide) hf (fun hf => ?_) (fun hf => ?_)
    · refine lv_iload_n hx hb dX3_whichLaw_71 rfl (lv_at hl 1 rfl) ?_
      exact wt_iret hx hb hr hlk hK hM hf dX3_whichLaw_72
    refine lv_aload_n hx hb dX3_whichLaw_35 rfl (lv_at hl 0 rfl) ?_
    refine gf_X3_mind  hx hb hts hown hK hM tw_115 dX3_whichLaw_36 ?_
    refine lv_iload_n hx hb dX3_whichLaw_39 rfl (lv_at hl 2 rfl) ?_
    refine wt_callVi (As := [.int x3]) (rest := []) hx hb hml hts hown hK hM (wt_rc_X0 wt_h24) cw_X3_196 hd_X0_rule rfl ⟨qz_b rfl, qz_b rfl⟩ ⟨rfl, rfl⟩ hl.1 rfl (qz_b rfl) dX3_whichLaw_40 hf (fun _ _ h9 => c_X0_rule wt_h24 h9) (fun r1 s2 H locs hf hM => ?_)
    refine lv_pop hx hb dX3_whichLaw_43 rfl ?_
    refine lv_aload_n hx hb dX3_whichLaw_44 rfl (lv_at hl 0 rfl) ?_
    refine gf_X3_mind  hx hb hts hown hK hM tw_115 dX3_whichLaw_45 ?_
    refine wt_callVv (As := []) (rest := []) hx hb hml hts hown hK hM (wt_rc_X0 wt_h24) cw_X3_141 hd_X0_reckon rfl ⟨qz_b rfl, qz_b rfl⟩ ⟨rfl, rfl⟩ hl.1 rfl (qz_b rfl) dX3_whichLaw_48 hf (fun _ _ h9 => c_X0_reckon wt_h24 h9) (fun r3 s4 H locs hf hM => ?_)
    refine lv_aload_n hx hb dX3_whichLaw_51 rfl (lv_at hl 0 rfl) ?_
    refine lv_iconst (v := 0) hx hb dX3_whichLaw_52 (by decide) ?_
    refine wt_callVi (As := [.int (0 : Int32)]) (rest := []) hx hb hml hts hown hK hM wt_rc_X3 cw_X3_278 hd_X3_rowTells rfl ⟨qz_b rfl, qz_b rfl⟩ ⟨rfl, rfl⟩ hl.1 rfl (qz_b rfl) dX3_whichLaw_53 hf (fun _ _ h9 => c_X3_rowTells h9) (fun r5 s6 H locs hf hM => ?_)
    refine wq_if_eq (tgt := 65) hx hb dX3_whichLaw_56 (by decide) hf (fun hf => ?_) (fun hf => ?_)
    · exact w_X3_whichLaw_65 C ih hf hM hl
    refine lv_iload_n hx hb dX3_whichLaw_59 rfl (lv_at hl 1 rfl) ?_
    refine lv_iconst (v := 1) hx hb dX3_whichLaw_60 (by decide) ?_
    refine lv_iload_n hx hb dX3_whichLaw_61 rfl (lv_at hl 2 rfl) ?_
    refine lv_ishl hx hb dX3_whichLaw_62 ?_
    refine lv_ior hx hb dX3_whichLaw_63 ?_
    refine wt_leti hf (fun z7 hf => ?_)
    refine lv_istore_n (lv' := [(2, .int z7), (0, .ref (B + 0)), (3, .int x3)]) hx hb dX3_whichLaw_64 rfl hl (by decide) rfl (fun ls hl => ?_)
    exact w_X3_whichLaw_65 C ih hf hM (lv_sub hl [1, 0, 2] rfl)
set_option maxHeartbeats 4000000 in
set_option maxRecDepth 100000 in
theorem w_X3_whichLaw_0 (C : wt_C p s m args meth c RX3 cX3_whichLaw 4 (some .int) D tI tII) {F : Nat} {σ : Mem} {r : Int32} {σ' : Mem} {H : Heap} {locs : List Loc} {ls : Array Slot} (hf : f_X3_whichLaw F σ = some (r, σ')) (hM : wt_St D tI tII B σ s H locs) (hl : lv_has ls 4 [(0, .ref (B + 0))]) : W p l e rm_X3_whichLaw s m args below meth c H locs 0 0 (MQ below (wt_Qi D tI tII B r σ') args s 0 0 (fun q => B ≤ q)) (F0 m 0 ls []) := by
  obtain ⟨hx, hb, hts, hown, hml, hr, hlk, hK⟩ := id C
  replace hf := Eq.trans f_X3_whichLaw_e.symm hf
  refine lv_aload_n hx hb dX3_whichLaw_0 rfl (lv_at hl 0 rfl) ?_
  refine wt_callVi (As := []) (rest := []) hx hb hml hts hown hK hM wt_rc_X3 cw_X3_275 hd_X3_longRow rfl ⟨qz_b rfl, qz_b rfl⟩ ⟨rfl, rfl⟩ hl.1 rfl (qz_b rfl) dX3_whichLaw_1 hf (fun _ _ h9 => c_X3_longRow h9) (fun r8 s9 H locs hf hM => ?_)
  refine lv_istore_n (lv' := [(1, .int r8), (0, .ref (B + 0))]) hx hb dX3_whichLaw_4 rfl hl (by decide) rfl (fun ls hl => ?_)
  refine lv_iload_n hx hb dX3_whichLaw_5 rfl (lv_at hl 0 rfl) ?_
  refine wq_if_eq (tgt := 15) hx hb dX3_whichLaw_6 (by decide) hf (fun hf => ?_) (fun hf => ?_)
  · refine lv_aload_n hx hb dX3_whichLaw_15 rfl (lv_at hl 1 rfl) ?_
    refine gf_X3_mind  hx hb hts hown hK hM tw_115 dX3_whichLaw_16 ?_
    refine lv_aload_n hx hb dX3_whichLaw_19 rfl (lv_at hl 1 rfl) ?_
    refine gf_X3_house  hx hb hts hown hK hM tw_114 dX3_whichLaw_20 ?_
    refine wt_callVv (As := [.ref (B + 1)]) (rest := []) hx hb hml hts hown hK hM (wt_rc_X0 wt_h24) cw_X3_106 hd_X0_takeFrom rfl ⟨qz_b rfl, qz_b rfl⟩ ⟨rfl, rfl⟩ hl.1 rfl (qz_b rfl) dX3_whichLaw_23 hf (fun _ _ h9 => c_X0_takeFrom wt_h24 wt_h1 h9) (fun r10 s11 H locs hf hM => ?_)
    refine lv_iconst (v := 0) hx hb dX3_whichLaw_26 (by decide) ?_
    refine lv_istore_n (lv' := [(2, .int (0 : Int32)), (1, .int r8), (0, .ref (B + 0))]) hx hb dX3_whichLaw_27 rfl hl (by decide) rfl (fun ls hl => ?_)
    refine lv_iconst (v := 0) hx hb dX3_whichLaw_28 (by decide) ?_
    refine lv_istore_n (lv' := [(3, .int (0 : Int32)), (2, .int (0 : Int32)), (1, .int r8), (0, .ref (B + 0))]) hx hb dX3_whichLaw_29 rfl hl (by decide) rfl (fun ls hl => ?_)
    exact w_X3_whichLaw_30 C _ _ _ _ _ _ _ hf hM (lv_sub hl [3, 1, 0] rfl)
  refine lv_aload_n hx hb dX3_whichLaw_9 rfl (lv_at hl 1 rfl) ?_
  refine lv_iload_n hx hb dX3_whichLaw_10 rfl (lv_at hl 0 rfl) ?_
  refine wt_callVi (As := [.int r8]) (rest := []) hx hb hml hts hown hK hM wt_rc_X3 cw_X3_61 hd_X3_refuse rfl ⟨qz_b rfl, qz_b rfl⟩ ⟨rfl, rfl⟩ hl.1 rfl (qz_b rfl) dX3_whichLaw_11 hf (fun _ _ h9 => c_X3_refuse h9) (fun r12 s13 H locs hf hM => ?_)
  exact wt_iret hx hb hr hlk hK hM hf dX3_whichLaw_14
end
set_option maxHeartbeats 4000000 in
set_option maxRecDepth 100000 in
theorem c_X3_whichLaw {l : Launch} {D : va_G} {tI tII : ClassId} {B F : Nat} {σ σ' : Mem} {r : Int32} (hf : f_X3_whichLaw F σ = some (r, σ')) : wt_Mi l yX3_whichLaw cX3_whichLaw 4 (some .int) rm_X3_whichLaw [.ref (B + 0)] D tI tII B σ r σ' := by
  refine Met.ofW (cc := cX3_whichLaw) (maxL := 4) (ret := (some .int)) (by decide) rfl ?_
  intro p e s m args below meth c s₁ B9 hml hv
  obtain ⟨rfl, hP, hK⟩ := hv
  have hl := lv_entry ([.ref (B + 0)]) (n := 4) (qz_b rfl)
  rw [lg_entry_eq]
  generalize (lg_sl ([.ref (B + 0)]) ++ List.replicate (4 - (lg_sl ([.ref (B + 0)])).length) Slot.unset).toArray = ls at hl ⊢
  exact w_X3_whichLaw_0 (wt_C_of B9 hml hK) hf ⟨hP, va_S.rf⟩ hl
section
variable {p : Program} {l : Launch} {e : Env} {s : State} {m : MethodId} {args : Array Value} {below : List Frame} {meth : Method} {c : Code} {D : va_G} {tI tII : ClassId} {B : Nat}
set_option maxHeartbeats 4000000 in
set_option maxRecDepth 100000 in
theorem w_X3_whichKind_124 (C : wt_C p s m args meth c RX3 cX3_whichKind 8 (some .int) D tI tII) {F : Nat} {k64 : Int32 → Int32 → Mem → Option (Int32 × Mem)} {x1 : Int32} {x2 : Int32} {x3 : Int32} {x5 : Int32} {x6 : Int32} {x7 : Int32} {σ : Mem} {r : Int32} {σ' : Mem} {H : Heap} {locs : List Loc} {ls : Array Slot} (hk64 : ∀ (x5 : Int32) (x7 : Int32) (σ : Mem) (H : Heap) (locs : List Loc) (ls : Array Slot), k64 x5 x7 σ = some (r, σ') → wt_St D tI tII B σ s H locs → lv_has ls 8 [(0, .ref (B + 0)), (1, .int x1), (2, .int x2), (3, .int x3), (5, .int x5), (6, .int x6), (7, .int x7)] → W p l e rm_X3_whichKind s m args below meth c H locs 0 0 (MQ below (wt_Qi D tI tII B r σ') args s 0 0 (fun q => B ≤ q)) (F0 m 64 ls [])) (hf : j_X3_whichKind_124 F k64 x1 x2 x3 x5 x6 x7 σ = some (r, σ')) (hM : wt_St D tI tII B σ s H locs) (hl : lv_has ls 8 [(0, .ref (B + 0)), (1, .int x1), (2, .int x2), (3, .int x3), (5, .int x5), (6, .int x6), (7, .int x7)]) : W p l e rm_X3_whichKind s m args below meth c H locs 0 0 (MQ below (wt_Qi D tI tII B r σ') args s 0 0 (fun q => B ≤ q)) (F0 m 124 ls []) := by
  obtain ⟨hx, hb, hts, hown, hml, hr, hlk, hK⟩ := id C
  replace hf := Eq.trans j_X3_whichKind_124_e.symm hf
  refine lv_iinc (v := (x7 + (1 : Int32))) (lv' := [(7, .int (x7 + (1 : Int32))), (0, .ref (B + 0)), (1, .int x1), (2, .int x2), (3, .int x3), (5, .int x5), (6, .int x6)]) hx hb dX3_whichKind_124 hl (k := 6) rfl rfl (by decide) rfl (fun ls hl => ?_)
  refine lv_goto (tgt := 64) hx hb dX3_whichKind_127 (by decide) ?_
  exact hk64 _ _ _ _ _ _ hf hM (lv_sub hl [1, 2, 3, 4, 5, 6, 0] rfl)
set_option maxHeartbeats 4000000 in
set_option maxRecDepth 100000 in
theorem w_X3_whichKind_100 (C : wt_C p s m args meth c RX3 cX3_whichKind 8 (some .int) D tI tII) {F : Nat} {k64 : Int32 → Int32 → Mem → Option (Int32 × Mem)} {x1 : Int32} {x2 : Int32} {x3 : Int32} {x5 : Int32} {x6 : Int32} {x7 : Int32} {σ : Mem} {r : Int32} {σ' : Mem} {H : Heap} {locs : List Loc} {ls : Array Slot} (hk64 : ∀ (x5 : Int32) (x7 : Int32) (σ : Mem) (H : Heap) (locs : List Loc) (ls : Array Slot), k64 x5 x7 σ = some (r, σ') → wt_St D tI tII B σ s H locs → lv_has ls 8 [(0, .ref (B + 0)), (1, .int x1), (2, .int x2), (3, .int x3), (5, .int x5), (6, .int x6), (7, .int x7)] → W p l e rm_X3_whichKind s m args below meth c H locs 0 0 (MQ below (wt_Qi D tI tII B r σ') args s 0 0 (fun q => B ≤ q)) (F0 m 64 ls [])) (hf : j_X3_whichKind_100 F k64 x1 x2 x3 x5 x6 x7 σ = some (r, σ')) (hM : wt_St D tI tII B σ s H locs) (hl : lv_has ls 8 [(0, .ref (B + 0)), (1, .int x1), (2, .int x2), (3, .int x3), (5, .int x5), (6, .int x6), (7, .int x7)]) : W p l e rm_X3_whichKind s m args below meth c H locs 0 0 (MQ below (wt_Qi D tI tII B r σ') args s 0 0 (fun q => B ≤ q)) (F0 m 100 ls []) := by
  obtain ⟨hx, hb, hts, hown, hml, hr, hlk, hK⟩ := id C
  replace hf := Eq.trans j_X3_whichKind_100_e.symm hf
  refine lv_aload_n hx hb dX3_whichKind_100 rfl (lv_at hl 0 rfl) ?_
  refine gf_X3_mind  hx hb hts hown hK hM tw_115 dX3_whichKind_101 ?_
  refine wt_callVv (As := []) (rest := []) hx hb hml hts hown hK hM (wt_rc_X0 wt_h24) cw_X3_141 hd_X0_reckon rfl ⟨qz_b rfl, qz_b rfl⟩ ⟨rfl, rfl⟩ hl.1 rfl (qz_b rfl) dX3_whichKind_104 hf (fun _ _ h9 => c_X0_reckon wt_h24 h9) (fun r1 s2 H locs hf hM => ?_)
  refine lv_aload_n hx hb dX3_whichKind_107 rfl (lv_at hl 0 rfl) ?_
  refine lv_iload_n hx hb dX3_whichKind_108 rfl (lv_at hl 2 rfl) ?_
  refine wt_callVi (As := [.int x2]) (rest := []) hx hb hml hts hown hK hM wt_rc_X3 cw_X3_278 hd_X3_rowTells rfl ⟨qz_b rfl, qz_b rfl⟩ ⟨rfl, rfl⟩ hl.1 rfl (qz_b rfl) dX3_whichKind_109 hf (fun _ _ h9 => c_X3_rowTells h9) (fun r3 s4 H locs hf hM => ?_)
  refine wq_if_eq (tgt := 124) hx hb dX3_whichKind_112 (by decide) hf (fun hf => ?_) (fun hf => ?_)
  · exact w_X3_whichKind_124 C hk64 hf hM hl
  refine lv_iload hx hb dX3_whichKind_115 (lv_at hl 4 rfl) ?_
  refine lv_iconst (v := 1) hx hb dX3_whichKind_117 (by decide) ?_
  refine lv_iload hx hb dX3_whichKind_118 (lv_at hl 6 rfl) ?_
  refine lv_ishl hx hb dX3_whichKind_120 ?_
  refine lv_ior hx hb dX3_whichKind_121 ?_
  refine wt_leti hf (fun z5 hf => ?_)
  refine lv_istore (lv' := [(5, .int z5), (0, .ref (B + 0)), (1, .int x1), (2, .int x2), (3, .int x3), (6, .int x6), (7, .int x7)]) hx hb dX3_whichKind_122 hl (by decide) rfl (fun ls hl => ?_)
  exact w_X3_whichKind_124 C hk64 hf hM (lv_sub hl [1, 2, 3, 4, 0, 5, 6] rfl)
set_option maxHeartbeats 4000000 in
set_option maxRecDepth 100000 in
theorem w_X3_whichKind_64 (C : wt_C p s m args meth c RX3 cX3_whichKind 8 (some .int) D tI tII) {F : Nat} {x1 : Int32} {x2 : Int32} {x3 : Int32} {x6 : Int32} {r : Int32} {σ' : Mem} : ∀ (N : Nat) (x5 : Int32) (x7 : Int32) (σ : Mem) (H : Heap) (locs : List Loc) (ls : Array Slot), lp_X3_whichKind_64 F x1 x2 x3 x6 N x5 x7 σ = some (r, σ') → wt_St D tI tII B σ s H locs → lv_has ls 8 [(0, .ref (B + 0)), (1, .int x1), (2, .int x2), (3, .int x3), (5, .int x5), (6, .int x6), (7, .int x7)] → W p l e rm_X3_whichKind s m args below meth c H locs 0 0 (MQ below (wt_Qi D tI tII B r σ') args s 0 0 (fun q => B ≤ q)) (F0 m 64 ls []) := by
  obtain ⟨hx, hb, hts, hown, hml, hr, hlk, hK⟩ := id C
  intro N
  induction N with
  | zero => intro x5 x7 σ H locs ls hf; exact wt_none (show (none : Option (Int32 × Mem)) = some (r, σ') from hf)
  | succ N ih =>
    intro x5 x7 σ H locs ls hf hM hl
    replace hf := Eq.trans lp_X3_whichKind_64_s.symm hf
    refine lv_iload hx hb dX3_whichKind_64 (lv_at hl 6 rfl) ?_
    refine lv_iload hx hb dX3_whichKind_66 (lv_at hl 5 rfl) ?_
    refine wq_icmp_gt (tgt := 130) hx hb dX3_whichKind_68 (by decide) hf (fun hf => ?_) (fun hf => ?_)
    · refine lv_iload hx hb dX3_whichKind_130 (lv_at hl 4 rfl) ?_
      exact wt_iret hx hb hr hlk hK hM hf dX3_whichKind_132
    refine lv_iload_n hx hb dX3_whichKind_71 rfl (lv_at hl 3 rfl) ?_
    refine wq_if_ne (tgt := 89) hx hb dX3_whichKind_72 (by decide) hf (fun hf => ?_) (fun hf => ?_)
    · refine lv_aload_n hx hb dX3_whichKind_89 rfl (lv_at hl 0 rfl) ?_
      refine gf_X3_mind  hx hb hts hown hK hM tw_115 dX3_whichKind_90 ?_
      refine gf_X0_figures wt_h24 hx hb hts hown hK hM tw_35 dX3_whichKind_93 ?_
      refine lv_iload_n hx hb dX3_whichKind_96 rfl (lv_at hl 1 rfl) ?_
      refine lv_iload hx hb dX3_whichKind_97 (lv_at hl 6 rfl) ?_
      obtain ⟨i6, hf⟩ := wt_chk_of hf
      refine wt_ist hx hb hK hM (wt_aH_3 wt_h24) i6 dX3_whichKind_99 hf (fun s7 H locs hf hM => ?_)
      exact w_X3_whichKind_100 C ih hf hM hl
    refine lv_aload_n hx hb dX3_whichKind_75 rfl (lv_at hl 0 rfl) ?_
    refine gf_X3_mind  hx hb hts hown hK hM tw_115 dX3_whichKind_76 ?_
    refine gf_X0_kinds wt_h24 hx hb hts hown hK hM tw_33 dX3_whichKind_79 ?_
    refine lv_iload_n hx hb dX3_whichKind_82 rfl (lv_at hl 1 rfl) ?_
    refine lv_iload hx hb dX3_whichKind_83 (lv_at hl 6 rfl) ?_
    obtain ⟨i8, hf⟩ := wt_chk_of hf
    refine wt_ist hx hb hK hM (wt_aH_2 wt_h24) i8 dX3_whichKind_85 hf (fun s9 H locs hf hM => ?_)
    refine lv_goto (tgt := 100) hx hb dX3_whichKind_86 (by decide) ?_
    exact w_X3_whichKind_100 C ih hf hM hl
set_option maxHeartbeats 4000000 in
set_option maxRecDepth 100000 in
theorem w_X3_whichKind_59 (C : wt_C p s m args meth c RX3 cX3_whichKind 8 (some .int) D tI tII) {F : Nat} {x1 : Int32} {x2 : Int32} {x3 : Int32} {x5 : Int32} {t0 : Int32} {σ : Mem} {r : Int32} {σ' : Mem} {H : Heap} {locs : List Loc} {ls : Array Slot} (hf : j_X3_whichKind_59 F x1 x2 x3 x5 t0 σ = some (r, σ')) (hM : wt_St D tI tII B σ s H locs) (hl : lv_has ls 8 [(0, .ref (B + 0)), (1, .int x1), (2, .int x2), (3, .int x3), (5, .int x5)]) : W p l e rm_X3_whichKind s m args below meth c H locs 0 0 (MQ below (wt_Qi D tI tII B r σ') args s 0 0 (fun q => B ≤ q)) (F0 m 59 ls [.int t0]) := by
  obtain ⟨hx, hb, hts, hown, hml, hr, hlk, hK⟩ := id C
  replace hf := Eq.trans j_X3_whichKind_59_e.symm hf
  refine lv_istore (lv' := [(6, .int t0), (0, .ref (B + 0)), (1, .int x1), (2, .int x2), (3, .int x3), (5, .int x5)]) hx hb dX3_whichKind_59 hl (by decide) rfl (fun ls hl => ?_)
  refine lv_iconst (v := 0) hx hb dX3_whichKind_61 (by decide) ?_
  refine lv_istore (lv' := [(7, .int (0 : Int32)), (6, .int t0), (0, .ref (B + 0)), (1, .int x1), (2, .int x2), (3, .int x3), (5, .int x5)]) hx hb dX3_whichKind_62 hl (by decide) rfl (fun ls hl => ?_)
  exact w_X3_whichKind_64 C _ _ _ _ _ _ _ hf hM (lv_sub hl [2, 3, 4, 5, 6, 1, 0] rfl)
set_option maxHeartbeats 4000000 in
set_option maxRecDepth 100000 in
theorem w_X3_whichKind_0 (C : wt_C p s m args meth c RX3 cX3_whichKind 8 (some .int) D tI tII) {F : Nat} {x1 : Int32} {x2 : Int32} {x3 : Int32} {σ : Mem} {r : Int32} {σ' : Mem} {H : Heap} {locs : List Loc} {ls : Array Slot} (hf : f_X3_whichKind F x1 x2 x3 σ = some (r, σ')) (hM : wt_St D tI tII B σ s H locs) (hl : lv_has ls 8 [(0, .ref (B + 0)), (1, .int x1), (2, .int x2), (3, .int x3)]) : W p l e rm_X3_whichKind s m args below meth c H locs 0 0 (MQ below (wt_Qi D tI tII B r σ') args s 0 0 (fun q => B ≤ q)) (F0 m 0 ls []) := by
  obtain ⟨hx, hb, hts, hown, hml, hr, hlk, hK⟩ := id C
  replace hf := Eq.trans f_X3_whichKind_e.symm hf
  refine lv_aload_n hx hb dX3_whichKind_0 rfl (lv_at hl 0 rfl) ?_
  refine lv_iload_n hx hb dX3_whichKind_1 rfl (lv_at hl 1 rfl) ?_
  refine lv_iload_n hx hb dX3_whichKind_2 rfl (lv_at hl 2 rfl) ?_
  refine wt_callVi (As := [.int x1, .int x2]) (rest := []) hx hb hml hts hown hK hM wt_rc_X3 cw_X3_226 hd_X3_noLookerFar rfl ⟨qz_b rfl, qz_b rfl⟩ ⟨rfl, rfl⟩ hl.1 rfl (qz_b rfl) dX3_whichKind_3 hf (fun _ _ h9 => c_X3_noLookerFar h9) (fun r10 s11 H locs hf hM => ?_)
  refine lv_iload_n hx hb dX3_whichKind_6 rfl (lv_at hl 3 rfl) ?_
  refine lv_iconst (v := 2) hx hb dX3_whichKind_7 (by decide) ?_
  refine wt_callSi (As := [.int x3, .int (2 : Int32)]) (rest := [.int r10]) hx hb hml hts hown hK hM cw_X3_123 hd_X3_notBelow rfl ⟨qz_b rfl, qz_b rfl⟩ ⟨rfl, rfl⟩ hl.1 rfl (qz_b rfl) dX3_whichKind_8 hf (fun _ _ h9 => c_X3_notBelow h9) (fun r12 s13 H locs hf hM => ?_)
  refine lv_aload_n hx hb dX3_whichKind_11 rfl (lv_at hl 0 rfl) ?_
  refine wt_callVi (As := []) (rest := [.int r12, .int r10]) hx hb hml hts hown hK hM wt_rc_X3 cw_X3_275 hd_X3_longRow rfl ⟨qz_b rfl, qz_b rfl⟩ ⟨rfl, rfl⟩ hl.1 rfl (qz_b rfl) dX3_whichKind_12 hf (fun _ _ h9 => c_X3_longRow h9) (fun r14 s15 H locs hf hM => ?_)
  refine wt_callSi (As := [.int r12, .int r14]) (rest := [.int r10]) hx hb hml hts hown hK hM cw_X3_85 hd_X3_firstOf rfl ⟨qz_b rfl, qz_b rfl⟩ ⟨rfl, rfl⟩ hl.1 rfl (qz_b rfl) dX3_whichKind_15 hf (fun _ _ h9 => c_X3_firstOf h9) (fun r16 s17 H locs hf hM => ?_)
  refine wt_callSi (As := [.int r10, .int r16]) (rest := []) hx hb hml hts hown hK hM cw_X3_85 hd_X3_firstOf rfl ⟨qz_b rfl, qz_b rfl⟩ ⟨rfl, rfl⟩ hl.1 rfl (qz_b rfl) dX3_whichKind_18 hf (fun _ _ h9 => c_X3_firstOf h9) (fun r18 s19 H locs hf hM => ?_)
  refine lv_istore (lv' := [(4, .int r18), (0, .ref (B + 0)), (1, .int x1), (2, .int x2), (3, .int x3)]) hx hb dX3_whichKind_21 hl (by decide) rfl (fun ls hl => ?_)
  refine lv_iload hx hb dX3_whichKind_23 (lv_at hl 0 rfl) ?_
  refine wq_if_eq (tgt := 35) hx hb dX3_whichKind_25 (by decide) hf (fun hf => ?_) (fun hf => ?_)
  · refine lv_aload_n hx hb dX3_whichKind_35 rfl (lv_at hl 1 rfl) ?_
    refine gf_X3_mind  hx hb hts hown hK hM tw_115 dX3_whichKind_36 ?_
    refine lv_aload_n hx hb dX3_whichKind_39 rfl (lv_at hl 1 rfl) ?_
    refine gf_X3_house  hx hb hts hown hK hM tw_114 dX3_whichKind_40 ?_
    refine wt_callVv (As := [.ref (B + 1)]) (rest := []) hx hb hml hts hown hK hM (wt_rc_X0 wt_h24) cw_X3_106 hd_X0_takeFrom rfl ⟨qz_b rfl, qz_b rfl⟩ ⟨rfl, rfl⟩ hl.1 rfl (qz_b rfl) dX3_whichKind_43 hf (fun _ _ h9 => c_X0_takeFrom wt_h24 wt_h1 h9) (fun r20 s21 H locs hf hM => ?_)
    refine lv_iconst (v := 0) hx hb dX3_whichKind_46 (by decide) ?_
    refine lv_istore (lv' := [(5, .int (0 : Int32)), (4, .int r18), (0, .ref (B + 0)), (1, .int x1), (2, .int x2), (3, .int x3)]) hx hb dX3_whichKind_47 hl (by decide) rfl (fun ls hl => ?_)
    refine lv_iload_n hx hb dX3_whichKind_49 rfl (lv_at hl 5 rfl) ?_
    refine wq_if_ne (tgt := 57) hx hb dX3_whichKind_50 (by decide) hf (fun hf => ?_) (fun hf => ?_)
    · refine lv_bipush (v := 9) hx hb dX3_whichKind_57 (by decide) ?_
      exact w_X3_whichKind_59 C hf hM (lv_sub hl [2, 3, 4, 5, 0] rfl)
    refine lv_iconst (v := 5) hx hb dX3_whichKind_53 (by decide) ?_
    refine lv_goto (tgt := 59) hx hb dX3_whichKind_54 (by decide) ?_
    exact w_X3_whichKind_59 C hf hM (lv_sub hl [2, 3, 4, 5, 0] rfl)
  refine lv_aload_n hx hb dX3_whichKind_28 rfl (lv_at hl 1 rfl) ?_
  refine lv_iload hx hb dX3_whichKind_29 (lv_at hl 0 rfl) ?_
  refine wt_callVi (As := [.int r18]) (rest := []) hx hb hml hts hown hK hM wt_rc_X3 cw_X3_61 hd_X3_refuse rfl ⟨qz_b rfl, qz_b rfl⟩ ⟨rfl, rfl⟩ hl.1 rfl (qz_b rfl) dX3_whichKind_31 hf (fun _ _ h9 => c_X3_refuse h9) (fun r22 s23 H locs hf hM => ?_)
  exact wt_iret hx hb hr hlk hK hM hf dX3_whichKind_34
end
set_option maxHeartbeats 4000000 in
set_option maxRecDepth 100000 in
theorem c_X3_whichKind {l : Launch} {D : va_G} {tI tII : ClassId} {B F : Nat} {x1 : Int32} {x2 : Int32} {x3 : Int32} {σ σ' : Mem} {r : Int32} (hf : f_X3_whichKind F x1 x2 x3 σ = some (r, σ')) : wt_Mi l yX3_whichKind cX3_whichKind 8 (some .int) rm_X3_whichKind [.ref (B + 0), .int x1, .int x2, .int x3] D tI tII B σ r σ' := by
  refine Met.ofW (cc := cX3_whichKind) (maxL := 8) (ret := (some .int)) (by decide) rfl ?_
  intro p e s m args below meth c s₁ B9 hml hv
  obtain ⟨rfl, hP, hK⟩ := hv
  have hl := lv_entry ([.ref (B + 0), .int x1, .int x2, .int x3]) (n := 8) (qz_b rfl)
  rw [lg_entry_eq]
  generalize (lg_sl ([.ref (B + 0), .int x1, .int x2, .int x3]) ++ List.replicate (8 - (lg_sl ([.ref (B + 0), .int x1, .int x2, .int x3])).length) Slot.unset).toArray = ls at hl ⊢
  exact w_X3_whichKind_0 (wt_C_of B9 hml hK) hf ⟨hP, va_S.rf⟩ hl
section
variable {p : Program} {l : Launch} {e : Env} {s : State} {m : MethodId} {args : Array Value} {below : List Frame} {meth : Method} {c : Code} {D : va_G} {tI tII : ClassId} {B : Nat}
set_option maxHeartbeats 4000000 in
set_option maxRecDepth 100000 in
theorem w_X3_ownsWell_0 (C : wt_C p s m args meth c RX3 cX3_ownsWell 5 (some .boolean) D tI tII) {F : Nat} {x1 : Int32} {x2 : Int32} {x3 : Int32} {x4 : Int32} {σ : Mem} {r : Int32} {σ' : Mem} {H : Heap} {locs : List Loc} {ls : Array Slot} (hf : f_X3_ownsWell F x1 x2 x3 x4 σ = some (r, σ')) (hM : wt_St D tI tII B σ s H locs) (hl : lv_has ls 5 [(0, .ref (B + 0)), (1, .int x1), (2, .int x2), (3, .int x3), (4, .int x4)]) : W p l e rm_X3_ownsWell s m args below meth c H locs 0 0 (MQ below (wt_Qi D tI tII B r σ') args s 0 0 (fun q => B ≤ q)) (F0 m 0 ls []) := by
  obtain ⟨hx, hb, hts, hown, hml, hr, hlk, hK⟩ := id C
  replace hf := Eq.trans f_X3_ownsWell_e.symm hf
  refine lv_aload_n hx hb dX3_ownsWell_0 rfl (lv_at hl 0 rfl) ?_
  refine gf_X3_mind  hx hb hts hown hK hM tw_115 dX3_ownsWell_1 ?_
  refine gf_X0_counts wt_h24 hx hb hts hown hK hM tw_39 dX3_ownsWell_4 ?_
  refine lv_iload_n hx hb dX3_ownsWell_7 rfl (lv_at hl 1 rfl) ?_
  obtain ⟨i1, hf⟩ := wt_chk_of hf
  refine wt_ald hx hb hK hM (wt_aaH_10 wt_h24) i1 dX3_ownsWell_8 ?_
  refine lv_iload_n hx hb dX3_ownsWell_9 rfl (lv_at hl 2 rfl) ?_
  refine lv_aload_n hx hb dX3_ownsWell_10 rfl (lv_at hl 0 rfl) ?_
  refine gf_X3_house  hx hb hts hown hK hM tw_114 dX3_ownsWell_11 ?_
  refine lv_iload_n hx hb dX3_ownsWell_14 rfl (lv_at hl 1 rfl) ?_
  refine lv_iload_n hx hb dX3_ownsWell_15 rfl (lv_at hl 2 rfl) ?_
  refine lv_iload hx hb dX3_ownsWell_16 (lv_at hl 4 rfl) ?_
  refine wt_callVi (As := [.int x1, .int x2, .int x4]) (rest := [.int x2, .ref (B + (24 + 11 + Int32.toNatClampNeg x1))]) hx hb hml hts hown hK hM (wt_rc_X0 wt_h1) cw_X3_287 hd_X0_behind rfl ⟨qz_b rfl, qz_b rfl⟩ ⟨rfl, rfl⟩ hl.1 rfl (qz_b rfl) dX3_ownsWell_18 hf (fun _ _ h9 => c_X0_behind wt_h1 h9) (fun r2 s3 H locs hf hM => ?_)
  obtain ⟨i4, hf⟩ := wt_chk_of hf
  refine wt_ist hx hb hK hM (wt_rH_10 wt_h24 i1) i4 dX3_ownsWell_21 hf (fun s5 H locs hf hM => ?_)
  refine lv_aload_n hx hb dX3_ownsWell_22 rfl (lv_at hl 0 rfl) ?_
  refine gf_X3_mind  hx hb hts hown hK hM tw_115 dX3_ownsWell_23 ?_
  refine gf_X0_gains wt_h24 hx hb hts hown hK hM tw_47 dX3_ownsWell_26 ?_
  refine lv_iload_n hx hb dX3_ownsWell_29 rfl (lv_at hl 1 rfl) ?_
  refine wt_ald hx hb hK hM (wt_aaH_17 wt_h24) i1 dX3_ownsWell_30 ?_
  refine lv_iload_n hx hb dX3_ownsWell_31 rfl (lv_at hl 2 rfl) ?_
  refine lv_iconst (v := 0) hx hb dX3_ownsWell_32 (by decide) ?_
  refine wt_ist hx hb hK hM (wt_rH_17 wt_h24 i1) i4 dX3_ownsWell_33 hf (fun s6 H locs hf hM => ?_)
  refine lv_aload_n hx hb dX3_ownsWell_34 rfl (lv_at hl 0 rfl) ?_
  refine gf_X3_mind  hx hb hts hown hK hM tw_115 dX3_ownsWell_35 ?_
  refine lv_iload_n hx hb dX3_ownsWell_38 rfl (lv_at hl 2 rfl) ?_
  refine lv_iload_n hx hb dX3_ownsWell_39 rfl (lv_at hl 3 rfl) ?_
  refine wt_callVi (As := [.int x2, .int x3]) (rest := []) hx hb hml hts hown hK hM (wt_rc_X0 wt_h24) cw_X3_223 hd_X0_holder rfl ⟨qz_b rfl, qz_b rfl⟩ ⟨rfl, rfl⟩ hl.1 rfl (qz_b rfl) dX3_ownsWell_40 hf (fun _ _ h9 => c_X0_holder wt_h24 h9) (fun r7 s8 H locs hf hM => ?_)
  refine lv_iload_n hx hb dX3_ownsWell_43 rfl (lv_at hl 1 rfl) ?_
  refine wq_icmp_ne (tgt := 51) hx hb dX3_ownsWell_44 (by decide) hf (fun hf => ?_) (fun hf => ?_)
  · refine lv_iconst (v := 0) hx hb dX3_ownsWell_51 (by decide) ?_
    exact wt_zret hx hb hr hlk hK hM (by decide) hf dX3_ownsWell_52
  refine lv_iconst (v := 1) hx hb dX3_ownsWell_47 (by decide) ?_
  refine lv_goto (tgt := 52) hx hb dX3_ownsWell_48 (by decide) ?_
  exact wt_zret hx hb hr hlk hK hM (by decide) hf dX3_ownsWell_52
end
set_option maxHeartbeats 4000000 in
set_option maxRecDepth 100000 in
theorem c_X3_ownsWell {l : Launch} {D : va_G} {tI tII : ClassId} {B F : Nat} {x1 : Int32} {x2 : Int32} {x3 : Int32} {x4 : Int32} {σ σ' : Mem} {r : Int32} (hf : f_X3_ownsWell F x1 x2 x3 x4 σ = some (r, σ')) : wt_Mi l yX3_ownsWell cX3_ownsWell 5 (some .boolean) rm_X3_ownsWell [.ref (B + 0), .int x1, .int x2, .int x3, .int x4] D tI tII B σ r σ' := by
  refine Met.ofW (cc := cX3_ownsWell) (maxL := 5) (ret := (some .boolean)) (by decide) rfl ?_
  intro p e s m args below meth c s₁ B9 hml hv
  obtain ⟨rfl, hP, hK⟩ := hv
  have hl := lv_entry ([.ref (B + 0), .int x1, .int x2, .int x3, .int x4]) (n := 5) (qz_b rfl)
  rw [lg_entry_eq]
  generalize (lg_sl ([.ref (B + 0), .int x1, .int x2, .int x3, .int x4]) ++ List.replicate (5 - (lg_sl ([.ref (B + 0), .int x1, .int x2, .int x3, .int x4])).length) Slot.unset).toArray = ls at hl ⊢
  exact w_X3_ownsWell_0 (wt_C_of B9 hml hK) hf ⟨hP, va_S.rf⟩ hl
section
variable {p : Program} {l : Launch} {e : Env} {s : State} {m : MethodId} {args : Array Value} {below : List Frame} {meth : Method} {c : Code} {D : va_G} {tI tII : ClassId} {B : Nat}
set_option maxHeartbeats 4000000 in
set_option maxRecDepth 100000 in
theorem w_X3_ill_181 (C : wt_C p s m args meth c RX3 cX3_ill 14 (some .long) D tI tII) {F : Nat} {k117 : Int64 → Int64 → Int64 → Int32 → Mem → Option (Int64 × Mem)} {x1 : Int32} {x2 : Int32} {x3 : Int32} {x4 : Int32} {x5 : Int32} {y7 : Int64} {y11 : Int64} {x13 : Int32} {t0 : Int64} {σ : Mem} {r : Int64} {σ' : Mem} {H : Heap} {locs : List Loc} {ls : Array Slot} (hk117 : ∀ (y7 : Int64) (y9 : Int64) (y11 : Int64) (x13 : Int32) (σ : Mem) (H : Heap) (locs : List Loc) (ls : Array Slot), k117 y7 y9 y11 x13 σ = some (r, σ') → wt_St D tI tII B σ s H locs → lv_has ls 14 [(0, .ref (B + 0)), (1, .int x1), (2, .int x2), (3, .int x3), (4, .int x4), (5, .int x5), (7, .long y7), (9, .long y9), (11, .long y11), (13, .int x13)] → W p l e rm_X3_ill s m args below meth c H locs 0 0 (MQ below (wt_Ql D tI tII B r σ') args s 0 0 (fun q => B ≤ q)) (F0 m 117 ls [])) (hf : j_X3_ill_181 F k117 x1 x2 x3 x4 x5 y7 y11 x13 t0 σ = some (r, σ')) (hM : wt_St D tI tII B σ s H locs) (hl : lv_has ls 14 [(0, .ref (B + 0)), (1, .int x1), (2, .int x2), (3, .int x3), (4, .int x4), (5, .int x5), (7, .long y7), (11, .long y11), (13, .int x13)]) : W p l e rm_X3_ill s m args below meth c H locs 0 0 (MQ below (wt_Ql D tI tII B r σ') args s 0 0 (fun q => B ≤ q)) (F0 m 181 ls [.long t0]) := by
  obtain ⟨hx, hb, hts, hown, hml, hr, hlk, hK⟩ := id C
  replace hf := Eq.trans j_X3_ill_181_e.symm hf
  refine lv_lstore (lv' := [(9, .long t0), (0, .ref (B + 0)), (1, .int x1), (2, .int x2), (3, .int x3), (4, .int x4), (5, .int x5), (7, .long y7), (11, .long y11), (13, .int x13)]) hx hb dX3_ill_181 hl (by decide) rfl (fun ls hl => ?_)
  refine lv_iinc (v := (x13 + (1 : Int32))) (lv' := [(13, .int (x13 + (1 : Int32))), (9, .long t0), (0, .ref (B + 0)), (1, .int x1), (2, .int x2), (3, .int x3), (4, .int x4), (5, .int x5), (7, .long y7), (11, .long y11)]) hx hb dX3_ill_183 hl (k := 9) rfl rfl (by decide) rfl (fun ls hl => ?_)
  refine lv_goto (tgt := 117) hx hb dX3_ill_186 (by decide) ?_
  exact hk117 _ _ _ _ _ _ _ _ hf hM (lv_sub hl [2, 3, 4, 5, 6, 7, 8, 1, 9, 0] rfl)
set_option maxHeartbeats 4000000 in
set_option maxRecDepth 100000 in
theorem w_X3_ill_142 (C : wt_C p s m args meth c RX3 cX3_ill 14 (some .long) D tI tII) {F : Nat} {k117 : Int64 → Int64 → Int64 → Int32 → Mem → Option (Int64 × Mem)} {x1 : Int32} {x2 : Int32} {x3 : Int32} {x4 : Int32} {x5 : Int32} {y7 : Int64} {y9 : Int64} {y11 : Int64} {x13 : Int32} {σ : Mem} {r : Int64} {σ' : Mem} {H : Heap} {locs : List Loc} {ls : Array Slot} (hk117 : ∀ (y7 : Int64) (y9 : Int64) (y11 : Int64) (x13 : Int32) (σ : Mem) (H : Heap) (locs : List Loc) (ls : Array Slot), k117 y7 y9 y11 x13 σ = some (r, σ') → wt_St D tI tII B σ s H locs → lv_has ls 14 [(0, .ref (B + 0)), (1, .int x1), (2, .int x2), (3, .int x3), (4, .int x4), (5, .int x5), (7, .long y7), (9, .long y9), (11, .long y11), (13, .int x13)] → W p l e rm_X3_ill s m args below meth c H locs 0 0 (MQ below (wt_Ql D tI tII B r σ') args s 0 0 (fun q => B ≤ q)) (F0 m 117 ls [])) (hf : j_X3_ill_142 F k117 x1 x2 x3 x4 x5 y7 y9 y11 x13 σ = some (r, σ')) (hM : wt_St D tI tII B σ s H locs) (hl : lv_has ls 14 [(0, .ref (B + 0)), (1, .int x1), (2, .int x2), (3, .int x3), (4, .int x4), (5, .int x5), (7, .long y7), (9, .long y9), (11, .long y11), (13, .int x13)]) : W p l e rm_X3_ill s m args below meth c H locs 0 0 (MQ below (wt_Ql D tI tII B r σ') args s 0 0 (fun q => B ≤ q)) (F0 m 142 ls []) := by
  obtain ⟨hx, hb, hts, hown, hml, hr, hlk, hK⟩ := id C
  replace hf := Eq.trans j_X3_ill_142_e.symm hf
  refine lv_lload hx hb dX3_ill_142 (lv_at hl 8 rfl) ?_
  refine lv_iload_n hx hb dX3_ill_144 rfl (lv_at hl 3 rfl) ?_
  refine lv_iload hx hb dX3_ill_145 (lv_at hl 9 rfl) ?_
  refine lv_isub hx hb dX3_ill_147 ?_
  refine lv_i2l (v := (Int32.toInt64 (x3 - x13))) hx hb dX3_ill_148 rfl ?_
  refine lv_lmul hx hb dX3_ill_149 ?_
  refine lv_iload hx hb dX3_ill_150 (lv_at hl 9 rfl) ?_
  refine lv_iconst (v := 1) hx hb dX3_ill_152 (by decide) ?_
  refine lv_iadd hx hb dX3_ill_153 ?_
  refine lv_i2l (v := (Int32.toInt64 (x13 + (1 : Int32)))) hx hb dX3_ill_154 rfl ?_
  obtain ⟨nz155, hf⟩ := wt_nzl_of hf
  refine lv_ldiv hx hb dX3_ill_155 nz155 ?_
  refine lv_iload hx hb dX3_ill_156 (lv_at hl 4 rfl) ?_
  refine lv_iconst (v := 1) hx hb dX3_ill_158 (by decide) ?_
  refine lv_isub hx hb dX3_ill_159 ?_
  refine lv_i2l (v := (Int32.toInt64 (x4 - (1 : Int32)))) hx hb dX3_ill_160 rfl ?_
  refine lv_lmul hx hb dX3_ill_161 ?_
  refine wt_letl hf (fun z1 hf => ?_)
  refine lv_lstore (lv' := [(11, .long z1), (0, .ref (B + 0)), (1, .int x1), (2, .int x2), (3, .int x3), (4, .int x4), (5, .int x5), (7, .long y7), (9, .long y9), (13, .int x13)]) hx hb dX3_ill_162 hl (by decide) rfl (fun ls hl => ?_)
  refine lv_iload hx hb dX3_ill_164 (lv_at hl 9 rfl) ?_
  refine lv_iload_n hx hb dX3_ill_166 rfl (lv_at hl 4 rfl) ?_
  refine wq_icmp_ge (tgt := 179) hx hb dX3_ill_167 (by decide) hf (fun hf => ?_) (fun hf => ?_)
  · refine lv_lload hx hb dX3_ill_179 (lv_at hl 8 rfl) ?_
    exact w_X3_ill_181 C hk117 hf hM (lv_sub hl [1, 2, 3, 4, 5, 6, 7, 0, 9] rfl)
  refine lv_lload hx hb dX3_ill_170 (lv_at hl 8 rfl) ?_
  refine lv_iload hx hb dX3_ill_172 (lv_at hl 5 rfl) ?_
  refine lv_i2l (v := (Int32.toInt64 x4)) hx hb dX3_ill_174 rfl ?_
  refine lv_lmul hx hb dX3_ill_175 ?_
  refine lv_goto (tgt := 181) hx hb dX3_ill_176 (by decide) ?_
  exact w_X3_ill_181 C hk117 hf hM (lv_sub hl [1, 2, 3, 4, 5, 6, 7, 0, 9] rfl)
set_option maxHeartbeats 4000000 in
set_option maxRecDepth 100000 in
theorem w_X3_ill_117 (C : wt_C p s m args meth c RX3 cX3_ill 14 (some .long) D tI tII) {F : Nat} {x1 : Int32} {x2 : Int32} {x3 : Int32} {x4 : Int32} {x5 : Int32} {r : Int64} {σ' : Mem} : ∀ (N : Nat) (y7 : Int64) (y9 : Int64) (y11 : Int64) (x13 : Int32) (σ : Mem) (H : Heap) (locs : List Loc) (ls : Array Slot), lp_X3_ill_117 F x1 x2 x3 x4 x5 N y7 y9 y11 x13 σ = some (r, σ') → wt_St D tI tII B σ s H locs → lv_has ls 14 [(0, .ref (B + 0)), (1, .int x1), (2, .int x2), (3, .int x3), (4, .int x4), (5, .int x5), (7, .long y7), (9, .long y9), (11, .long y11), (13, .int x13)] → W p l e rm_X3_ill s m args below meth c H locs 0 0 (MQ below (wt_Ql D tI tII B r σ') args s 0 0 (fun q => B ≤ q)) (F0 m 117 ls []) := by
  obtain ⟨hx, hb, hts, hown, hml, hr, hlk, hK⟩ := id C
  intro N
  induction N with
  | zero => intro y7 y9 y11 x13 σ H locs ls hf; exact wt_none (show (none : Option (Int64 × Mem)) = some (r, σ') from hf)
  | succ N ih =>
    intro y7 y9 y11 x13 σ H locs ls hf hM hl
    replace hf := Eq.trans lp_X3_ill_117_s.symm hf
    refine lv_iload hx hb dX3_ill_117 (lv_at hl 9 rfl) ?_
    refine lv_iload_n hx hb dX3_ill_119 rfl (lv_at hl 3 rfl) ?_
    refine wq_icmp_gt (tgt := 189) hx hb dX3_ill_120 (by decide) hf (fun hf => ?_) (fun hf => ?_)
    · refine lv_lload hx hb dX3_ill_189 (lv_at hl 6 rfl) ?_
      refine lv_lload hx hb dX3_ill_191 (lv_at hl 7 rfl) ?_
      refine lv_iload hx hb dX3_ill_193 (lv_at hl 5 rfl) ?_
      refine wt_callSl (As := [.long y7, .long y9, .int x5]) (rest := []) hx hb hml hts hown hK hM cw_X3_264 hd_X3_fraction rfl ⟨qz_b rfl, qz_b rfl⟩ ⟨rfl, rfl⟩ hl.1 rfl (qz_b rfl) dX3_ill_195 hf (fun _ _ h9 => c_X3_fraction h9) (fun r2 s3 H locs hf hM => ?_)
      exact wt_lret hx hb hr hlk hK hM hf dX3_ill_198
    refine lv_aload_n hx hb dX3_ill_123 rfl (lv_at hl 0 rfl) ?_
    refine lv_iload_n hx hb dX3_ill_124 rfl (lv_at hl 1 rfl) ?_
    refine lv_iload_n hx hb dX3_ill_125 rfl (lv_at hl 2 rfl) ?_
    refine lv_iload_n hx hb dX3_ill_126 rfl (lv_at hl 3 rfl) ?_
    refine lv_iload hx hb dX3_ill_127 (lv_at hl 9 rfl) ?_
    refine wt_callVi (As := [.int x1, .int x2, .int x3, .int x13]) (rest := []) hx hb hml hts hown hK hM wt_rc_X3 cw_X3_284 hd_X3_ownsWell rfl ⟨qz_b rfl, qz_b rfl⟩ ⟨rfl, rfl⟩ hl.1 rfl (qz_b rfl) dX3_ill_129 hf (fun _ _ h9 => c_X3_ownsWell h9) (fun r4 s5 H locs hf hM => ?_)
    refine wq_if_eq (tgt := 142) hx hb dX3_ill_132 (by decide) hf (fun hf => ?_) (fun hf => ?_)
    · exact w_X3_ill_142 C ih hf hM hl
    refine lv_lload hx hb dX3_ill_135 (lv_at hl 6 rfl) ?_
    refine lv_lload hx hb dX3_ill_137 (lv_at hl 8 rfl) ?_
    refine lv_ladd hx hb dX3_ill_139 ?_
    refine lv_lstore (lv' := [(7, .long (y7 + y11)), (0, .ref (B + 0)), (1, .int x1), (2, .int x2), (3, .int x3), (4, .int x4), (5, .int x5), (9, .long y9), (11, .long y11), (13, .int x13)]) hx hb dX3_ill_140 hl (by decide) rfl (fun ls hl => ?_)
    exact w_X3_ill_142 C ih hf hM (lv_sub hl [1, 2, 3, 4, 5, 6, 0, 7, 8, 9] rfl)
set_option maxHeartbeats 4000000 in
set_option maxRecDepth 100000 in
theorem w_X3_ill_55 (C : wt_C p s m args meth c RX3 cX3_ill 14 (some .long) D tI tII) {F : Nat} {x1 : Int32} {x2 : Int32} {x3 : Int32} {x4 : Int32} {x5 : Int32} {x6 : Int32} {σ : Mem} {r : Int64} {σ' : Mem} {H : Heap} {locs : List Loc} {ls : Array Slot} (hf : j_X3_ill_55 F x1 x2 x3 x4 x5 x6 σ = some (r, σ')) (hM : wt_St D tI tII B σ s H locs) (hl : lv_has ls 14 [(0, .ref (B + 0)), (1, .int x1), (2, .int x2), (3, .int x3), (4, .int x4), (5, .int x5), (6, .int x6)]) : W p l e rm_X3_ill s m args below meth c H locs 0 0 (MQ below (wt_Ql D tI tII B r σ') args s 0 0 (fun q => B ≤ q)) (F0 m 55 ls []) := by
  obtain ⟨hx, hb, hts, hown, hml, hr, hlk, hK⟩ := id C
  replace hf := Eq.trans j_X3_ill_55_e.symm hf
  refine lv_iload hx hb dX3_ill_55 (lv_at hl 6 rfl) ?_
  refine lv_iload hx hb dX3_ill_57 (lv_at hl 5 rfl) ?_
  refine lv_iconst (v := 2) hx hb dX3_ill_59 (by decide) ?_
  refine wt_callSi (As := [.int x5, .int (2 : Int32)]) (rest := [.int x6]) hx hb hml hts hown hK hM cw_X3_123 hd_X3_notBelow rfl ⟨qz_b rfl, qz_b rfl⟩ ⟨rfl, rfl⟩ hl.1 rfl (qz_b rfl) dX3_ill_60 hf (fun _ _ h9 => c_X3_notBelow h9) (fun r6 s7 H locs hf hM => ?_)
  refine wt_callSi (As := [.int x6, .int r6]) (rest := []) hx hb hml hts hown hK hM cw_X3_85 hd_X3_firstOf rfl ⟨qz_b rfl, qz_b rfl⟩ ⟨rfl, rfl⟩ hl.1 rfl (qz_b rfl) dX3_ill_63 hf (fun _ _ h9 => c_X3_firstOf h9) (fun r8 s9 H locs hf hM => ?_)
  refine lv_istore (lv' := [(6, .int r8), (0, .ref (B + 0)), (1, .int x1), (2, .int x2), (3, .int x3), (4, .int x4), (5, .int x5)]) hx hb dX3_ill_66 hl (by decide) rfl (fun ls hl => ?_)
  refine lv_iload hx hb dX3_ill_68 (lv_at hl 0 rfl) ?_
  refine wq_if_eq (tgt := 80) hx hb dX3_ill_70 (by decide) hf (fun hf => ?_) (fun hf => ?_)
  · refine lv_aload_n hx hb dX3_ill_80 rfl (lv_at hl 1 rfl) ?_
    refine gf_X3_house  hx hb hts hown hK hM tw_114 dX3_ill_81 ?_
    refine wt_callVv (As := []) (rest := []) hx hb hml hts hown hK hM (wt_rc_X0 wt_h1) cw_X3_141 hd_X0_reckon rfl ⟨qz_b rfl, qz_b rfl⟩ ⟨rfl, rfl⟩ hl.1 rfl (qz_b rfl) dX3_ill_84 hf (fun _ _ h9 => c_X0_reckon wt_h1 h9) (fun r10 s11 H locs hf hM => ?_)
    refine lv_aload_n hx hb dX3_ill_87 rfl (lv_at hl 1 rfl) ?_
    refine gf_X3_mind  hx hb hts hown hK hM tw_115 dX3_ill_88 ?_
    refine lv_aload_n hx hb dX3_ill_91 rfl (lv_at hl 1 rfl) ?_
    refine gf_X3_house  hx hb hts hown hK hM tw_114 dX3_ill_92 ?_
    refine wt_callVv (As := [.ref (B + 1)]) (rest := []) hx hb hml hts hown hK hM (wt_rc_X0 wt_h24) cw_X3_106 hd_X0_takeFrom rfl ⟨qz_b rfl, qz_b rfl⟩ ⟨rfl, rfl⟩ hl.1 rfl (qz_b rfl) dX3_ill_95 hf (fun _ _ h9 => c_X0_takeFrom wt_h24 wt_h1 h9) (fun r12 s13 H locs hf hM => ?_)
    refine lv_aload_n hx hb dX3_ill_98 rfl (lv_at hl 1 rfl) ?_
    refine gf_X3_mind  hx hb hts hown hK hM tw_115 dX3_ill_99 ?_
    refine wt_callVv (As := []) (rest := []) hx hb hml hts hown hK hM (wt_rc_X0 wt_h24) cw_X3_141 hd_X0_reckon rfl ⟨qz_b rfl, qz_b rfl⟩ ⟨rfl, rfl⟩ hl.1 rfl (qz_b rfl) dX3_ill_102 hf (fun _ _ h9 => c_X0_reckon wt_h24 h9) (fun r14 s15 H locs hf hM => ?_)
    refine lv_lconst (v := 0) hx hb dX3_ill_105 (by decide) ?_
    refine lv_lstore (lv' := [(7, .long (0 : Int64)), (6, .int r8), (0, .ref (B + 0)), (1, .int x1), (2, .int x2), (3, .int x3), (4, .int x4), (5, .int x5)]) hx hb dX3_ill_106 hl (by decide) rfl (fun ls hl => ?_)
    refine lv_lconst (v := 1) hx hb dX3_ill_108 (by decide) ?_
    refine lv_lstore (lv' := [(9, .long (1 : Int64)), (7, .long (0 : Int64)), (6, .int r8), (0, .ref (B + 0)), (1, .int x1), (2, .int x2), (3, .int x3), (4, .int x4), (5, .int x5)]) hx hb dX3_ill_109 hl (by decide) rfl (fun ls hl => ?_)
    refine lv_lconst (v := 1) hx hb dX3_ill_111 (by decide) ?_
    refine lv_lstore (lv' := [(11, .long (1 : Int64)), (9, .long (1 : Int64)), (7, .long (0 : Int64)), (6, .int r8), (0, .ref (B + 0)), (1, .int x1), (2, .int x2), (3, .int x3), (4, .int x4), (5, .int x5)]) hx hb dX3_ill_112 hl (by decide) rfl (fun ls hl => ?_)
    refine lv_iconst (v := 0) hx hb dX3_ill_114 (by decide) ?_
    refine lv_istore (lv' := [(13, .int (0 : Int32)), (11, .long (1 : Int64)), (9, .long (1 : Int64)), (7, .long (0 : Int64)), (6, .int r8), (0, .ref (B + 0)), (1, .int x1), (2, .int x2), (3, .int x3), (4, .int x4), (5, .int x5)]) hx hb dX3_ill_115 hl (by decide) rfl (fun ls hl => ?_)
    exact w_X3_ill_117 C _ _ _ _ _ _ _ _ _ hf hM (lv_sub hl [5, 6, 7, 8, 9, 10, 3, 2, 1, 0] rfl)
  refine lv_aload_n hx hb dX3_ill_73 rfl (lv_at hl 1 rfl) ?_
  refine lv_iload hx hb dX3_ill_74 (lv_at hl 0 rfl) ?_
  refine wt_callVl (As := [.int r8]) (rest := []) hx hb hml hts hown hK hM wt_rc_X3 cw_X3_260 hd_X3_refuseLong rfl ⟨qz_b rfl, qz_b rfl⟩ ⟨rfl, rfl⟩ hl.1 rfl (qz_b rfl) dX3_ill_76 hf (fun _ _ h9 => c_X3_refuseLong h9) (fun r16 s17 H locs hf hM => ?_)
  exact wt_lret hx hb hr hlk hK hM hf dX3_ill_79
set_option maxHeartbeats 4000000 in
set_option maxRecDepth 100000 in
theorem w_X3_ill_51 (C : wt_C p s m args meth c RX3 cX3_ill 14 (some .long) D tI tII) {F : Nat} {x1 : Int32} {x2 : Int32} {x3 : Int32} {x4 : Int32} {x5 : Int32} {σ : Mem} {r : Int64} {σ' : Mem} {H : Heap} {locs : List Loc} {ls : Array Slot} (hf : j_X3_ill_51 F x1 x2 x3 x4 x5 σ = some (r, σ')) (hM : wt_St D tI tII B σ s H locs) (hl : lv_has ls 14 [(0, .ref (B + 0)), (1, .int x1), (2, .int x2), (3, .int x3), (4, .int x4), (5, .int x5)]) : W p l e rm_X3_ill s m args below meth c H locs 0 0 (MQ below (wt_Ql D tI tII B r σ') args s 0 0 (fun q => B ≤ q)) (F0 m 51 ls []) := by
  obtain ⟨hx, hb, hts, hown, hml, hr, hlk, hK⟩ := id C
  replace hf := Eq.trans j_X3_ill_51_e.symm hf
  refine lv_bipush (v := -6) hx hb dX3_ill_51 (by decide) ?_
  refine lv_istore (lv' := [(6, .int (-6 : Int32)), (0, .ref (B + 0)), (1, .int x1), (2, .int x2), (3, .int x3), (4, .int x4), (5, .int x5)]) hx hb dX3_ill_53 hl (by decide) rfl (fun ls hl => ?_)
  exact w_X3_ill_55 C hf hM (lv_sub hl [1, 2, 3, 4, 5, 6, 0] rfl)
set_option maxHeartbeats 4000000 in
set_option maxRecDepth 100000 in
theorem w_X3_ill_33 (C : wt_C p s m args meth c RX3 cX3_ill 14 (some .long) D tI tII) {F : Nat} {x1 : Int32} {x2 : Int32} {x3 : Int32} {x4 : Int32} {x5 : Int32} {x6 : Int32} {σ : Mem} {r : Int64} {σ' : Mem} {H : Heap} {locs : List Loc} {ls : Array Slot} (hf : j_X3_ill_33 F x1 x2 x3 x4 x5 x6 σ = some (r, σ')) (hM : wt_St D tI tII B σ s H locs) (hl : lv_has ls 14 [(0, .ref (B + 0)), (1, .int x1), (2, .int x2), (3, .int x3), (4, .int x4), (5, .int x5), (6, .int x6)]) : W p l e rm_X3_ill s m args below meth c H locs 0 0 (MQ below (wt_Ql D tI tII B r σ') args s 0 0 (fun q => B ≤ q)) (F0 m 33 ls []) := by
  obtain ⟨hx, hb, hts, hown, hml, hr, hlk, hK⟩ := id C
  replace hf := Eq.trans j_X3_ill_33_e.symm hf
  refine lv_iload hx hb dX3_ill_33 (lv_at hl 6 rfl) ?_
  refine wq_if_ne (tgt := 55) hx hb dX3_ill_35 (by decide) hf (fun hf => ?_) (fun hf => ?_)
  · exact w_X3_ill_55 C hf hM hl
  refine lv_iload_n hx hb dX3_ill_38 rfl (lv_at hl 3 rfl) ?_
  refine lv_bipush (v := 8) hx hb dX3_ill_39 (by decide) ?_
  refine wq_icmp_gt (tgt := 51) hx hb dX3_ill_41 (by decide) hf (fun hf => ?_) (fun hf => ?_)
  · exact w_X3_ill_51 C hf hM (lv_sub hl [0, 1, 2, 3, 4, 5] rfl)
  refine lv_iload hx hb dX3_ill_44 (lv_at hl 4 rfl) ?_
  refine lv_bipush (v := 20) hx hb dX3_ill_46 (by decide) ?_
  refine wq_icmp_le (tgt := 55) hx hb dX3_ill_48 (by decide) hf (fun hf => ?_) (fun hf => ?_)
  · exact w_X3_ill_55 C hf hM hl
  exact w_X3_ill_51 C hf hM (lv_sub hl [0, 1, 2, 3, 4, 5] rfl)
set_option maxHeartbeats 4000000 in
set_option maxRecDepth 100000 in
theorem w_X3_ill_29 (C : wt_C p s m args meth c RX3 cX3_ill 14 (some .long) D tI tII) {F : Nat} {x1 : Int32} {x2 : Int32} {x3 : Int32} {x4 : Int32} {x5 : Int32} {σ : Mem} {r : Int64} {σ' : Mem} {H : Heap} {locs : List Loc} {ls : Array Slot} (hf : j_X3_ill_29 F x1 x2 x3 x4 x5 σ = some (r, σ')) (hM : wt_St D tI tII B σ s H locs) (hl : lv_has ls 14 [(0, .ref (B + 0)), (1, .int x1), (2, .int x2), (3, .int x3), (4, .int x4), (5, .int x5)]) : W p l e rm_X3_ill s m args below meth c H locs 0 0 (MQ below (wt_Ql D tI tII B r σ') args s 0 0 (fun q => B ≤ q)) (F0 m 29 ls []) := by
  obtain ⟨hx, hb, hts, hown, hml, hr, hlk, hK⟩ := id C
  replace hf := Eq.trans j_X3_ill_29_e.symm hf
  refine lv_bipush (v := -4) hx hb dX3_ill_29 (by decide) ?_
  refine lv_istore (lv' := [(6, .int (-4 : Int32)), (0, .ref (B + 0)), (1, .int x1), (2, .int x2), (3, .int x3), (4, .int x4), (5, .int x5)]) hx hb dX3_ill_31 hl (by decide) rfl (fun ls hl => ?_)
  exact w_X3_ill_33 C hf hM (lv_sub hl [1, 2, 3, 4, 5, 6, 0] rfl)
set_option maxHeartbeats 4000000 in
set_option maxRecDepth 100000 in
theorem w_X3_ill_0 (C : wt_C p s m args meth c RX3 cX3_ill 14 (some .long) D tI tII) {F : Nat} {x1 : Int32} {x2 : Int32} {x3 : Int32} {x4 : Int32} {x5 : Int32} {σ : Mem} {r : Int64} {σ' : Mem} {H : Heap} {locs : List Loc} {ls : Array Slot} (hf : f_X3_ill F x1 x2 x3 x4 x5 σ = some (r, σ')) (hM : wt_St D tI tII B σ s H locs) (hl : lv_has ls 14 [(0, .ref (B + 0)), (1, .int x1), (2, .int x2), (3, .int x3), (4, .int x4), (5, .int x5)]) : W p l e rm_X3_ill s m args below meth c H locs 0 0 (MQ below (wt_Ql D tI tII B r σ') args s 0 0 (fun q => B ≤ q)) (F0 m 0 ls []) := by
  obtain ⟨hx, hb, hts, hown, hml, hr, hlk, hK⟩ := id C
  replace hf := Eq.trans f_X3_ill_e.symm hf
  refine lv_aload_n hx hb dX3_ill_0 rfl (lv_at hl 0 rfl) ?_
  refine lv_iload_n hx hb dX3_ill_1 rfl (lv_at hl 1 rfl) ?_
  refine wt_callVi (As := [.int x1]) (rest := []) hx hb hml hts hown hK hM wt_rc_X3 cw_X3_78 hd_X3_noLooker rfl ⟨qz_b rfl, qz_b rfl⟩ ⟨rfl, rfl⟩ hl.1 rfl (qz_b rfl) dX3_ill_2 hf (fun _ _ h9 => c_X3_noLooker h9) (fun r18 s19 H locs hf hM => ?_)
  refine lv_iload_n hx hb dX3_ill_5 rfl (lv_at hl 2 rfl) ?_
  refine wt_callSi (As := [.int x2]) (rest := [.int r18]) hx hb hml hts hown hK hM cw_X3_174 hd_X3_noView rfl ⟨qz_b rfl, qz_b rfl⟩ ⟨rfl, rfl⟩ hl.1 rfl (qz_b rfl) dX3_ill_6 hf (fun _ _ h9 => c_X3_noView h9) (fun r20 s21 H locs hf hM => ?_)
  refine wt_callSi (As := [.int r18, .int r20]) (rest := []) hx hb hml hts hown hK hM cw_X3_85 hd_X3_firstOf rfl ⟨qz_b rfl, qz_b rfl⟩ ⟨rfl, rfl⟩ hl.1 rfl (qz_b rfl) dX3_ill_9 hf (fun _ _ h9 => c_X3_firstOf h9) (fun r22 s23 H locs hf hM => ?_)
  refine lv_istore (lv' := [(6, .int r22), (0, .ref (B + 0)), (1, .int x1), (2, .int x2), (3, .int x3), (4, .int x4), (5, .int x5)]) hx hb dX3_ill_12 hl (by decide) rfl (fun ls hl => ?_)
  refine lv_iload hx hb dX3_ill_14 (lv_at hl 0 rfl) ?_
  refine wq_if_ne (tgt := 33) hx hb dX3_ill_16 (by decide) hf (fun hf => ?_) (fun hf => ?_)
  · exact w_X3_ill_33 C hf hM (lv_sub hl [1, 2, 3, 4, 5, 6, 0] rfl)
  refine lv_iload_n hx hb dX3_ill_19 rfl (lv_at hl 4 rfl) ?_
  refine wq_if_lt (tgt := 29) hx hb dX3_ill_20 (by decide) hf (fun hf => ?_) (fun hf => ?_)
  · exact w_X3_ill_29 C hf hM (lv_sub hl [1, 2, 3, 4, 5, 6] rfl)
  refine lv_iload hx hb dX3_ill_23 (lv_at hl 5 rfl) ?_
  refine lv_iconst (v := 2) hx hb dX3_ill_25 (by decide) ?_
  refine wq_icmp_ge (tgt := 33) hx hb dX3_ill_26 (by decide) hf (fun hf => ?_) (fun hf => ?_)
  · exact w_X3_ill_33 C hf hM (lv_sub hl [1, 2, 3, 4, 5, 6, 0] rfl)
  exact w_X3_ill_29 C hf hM (lv_sub hl [1, 2, 3, 4, 5, 6] rfl)
end
set_option maxHeartbeats 4000000 in
set_option maxRecDepth 100000 in
theorem c_X3_ill {l : Launch} {D : va_G} {tI tII : ClassId} {B F : Nat} {x1 : Int32} {x2 : Int32} {x3 : Int32} {x4 : Int32} {x5 : Int32} {σ σ' : Mem} {r : Int64} (hf : f_X3_ill F x1 x2 x3 x4 x5 σ = some (r, σ')) : wt_Ml l yX3_ill cX3_ill 14 (some .long) rm_X3_ill [.ref (B + 0), .int x1, .int x2, .int x3, .int x4, .int x5] D tI tII B σ r σ' := by
  refine Met.ofW (cc := cX3_ill) (maxL := 14) (ret := (some .long)) (by decide) rfl ?_
  intro p e s m args below meth c s₁ B9 hml hv
  obtain ⟨rfl, hP, hK⟩ := hv
  have hl := lv_entry ([.ref (B + 0), .int x1, .int x2, .int x3, .int x4, .int x5]) (n := 14) (qz_b rfl)
  rw [lg_entry_eq]
  generalize (lg_sl ([.ref (B + 0), .int x1, .int x2, .int x3, .int x4, .int x5]) ++ List.replicate (14 - (lg_sl ([.ref (B + 0), .int x1, .int x2, .int x3, .int x4, .int x5])).length) Slot.unset).toArray = ls at hl ⊢
  exact w_X3_ill_0 (wt_C_of B9 hml hK) hf ⟨hP, va_S.rf⟩ hl
section
variable {p : Program} {l : Launch} {e : Env} {s : State} {m : MethodId} {args : Array Value} {below : List Frame} {meth : Method} {c : Code} {D : va_G} {tI tII : ClassId} {B : Nat}
set_option maxHeartbeats 4000000 in
set_option maxRecDepth 100000 in
theorem w_X3_busy_56 (C : wt_C p s m args meth c RX3 cX3_busy 7 (some .int) D tI tII) {F : Nat} {k24 : Int32 → Int32 → Int32 → Mem → Option (Int32 × Mem)} {x1 : Int32} {x3 : Int32} {x4 : Int32} {x5 : Int32} {σ : Mem} {r : Int32} {σ' : Mem} {H : Heap} {locs : List Loc} {ls : Array Slot} (hk24 : ∀ (x3 : Int32) (x4 : Int32) (x5 : Int32) (σ : Mem) (H : Heap) (locs : List Loc) (ls : Array Slot), k24 x3 x4 x5 σ = some (r, σ') → wt_St D tI tII B σ s H locs → lv_has ls 7 [(0, .ref (B + 0)), (1, .int x1), (3, .int x3), (4, .int x4), (5, .int x5)] → W p l e rm_X3_busy s m args below meth c H locs 0 0 (MQ below (wt_Qi D tI tII B r σ') args s 0 0 (fun q => B ≤ q)) (F0 m 24 ls [])) (hf : j_X3_busy_56 F k24 x1 x3 x4 x5 σ = some (r, σ')) (hM : wt_St D tI tII B σ s H locs) (hl : lv_has ls 7 [(0, .ref (B + 0)), (1, .int x1), (3, .int x3), (4, .int x4), (5, .int x5)]) : W p l e rm_X3_busy s m args below meth c H locs 0 0 (MQ below (wt_Qi D tI tII B r σ') args s 0 0 (fun q => B ≤ q)) (F0 m 56 ls []) := by
  obtain ⟨hx, hb, hts, hown, hml, hr, hlk, hK⟩ := id C
  replace hf := Eq.trans j_X3_busy_56_e.symm hf
  refine lv_iinc (v := (x5 + (1 : Int32))) (lv' := [(5, .int (x5 + (1 : Int32))), (0, .ref (B + 0)), (1, .int x1), (3, .int x3), (4, .int x4)]) hx hb dX3_busy_56 hl (k := 4) rfl rfl (by decide) rfl (fun ls hl => ?_)
  refine lv_goto (tgt := 24) hx hb dX3_busy_59 (by decide) ?_
  exact hk24 _ _ _ _ _ _ _ hf hM (lv_sub hl [1, 2, 3, 4, 0] rfl)
set_option maxHeartbeats 4000000 in
set_option maxRecDepth 100000 in
theorem w_X3_busy_24 (C : wt_C p s m args meth c RX3 cX3_busy 7 (some .int) D tI tII) {F : Nat} {x1 : Int32} {r : Int32} {σ' : Mem} : ∀ (N : Nat) (x3 : Int32) (x4 : Int32) (x5 : Int32) (σ : Mem) (H : Heap) (locs : List Loc) (ls : Array Slot), lp_X3_busy_24 F x1 N x3 x4 x5 σ = some (r, σ') → wt_St D tI tII B σ s H locs → lv_has ls 7 [(0, .ref (B + 0)), (1, .int x1), (3, .int x3), (4, .int x4), (5, .int x5)] → W p l e rm_X3_busy s m args below meth c H locs 0 0 (MQ below (wt_Qi D tI tII B r σ') args s 0 0 (fun q => B ≤ q)) (F0 m 24 ls []) := by
  obtain ⟨hx, hb, hts, hown, hml, hr, hlk, hK⟩ := id C
  intro N
  induction N with
  | zero => intro x3 x4 x5 σ H locs ls hf; exact wt_none (show (none : Option (Int32 × Mem)) = some (r, σ') from hf)
  | succ N ih =>
    intro x3 x4 x5 σ H locs ls hf hM hl
    replace hf := Eq.trans lp_X3_busy_24_s.symm hf
    refine lv_iload hx hb dX3_busy_24 (lv_at hl 4 rfl) ?_
    refine lv_bipush (v := 24) hx hb dX3_busy_26 (by decide) ?_
    refine wq_icmp_ge (tgt := 62) hx hb dX3_busy_28 (by decide) hf (fun hf => ?_) (fun hf => ?_)
    · refine lv_iload_n hx hb dX3_busy_62 rfl (lv_at hl 1 rfl) ?_
      refine wq_if_ne (tgt := 70) hx hb dX3_busy_63 (by decide) hf (fun hf => ?_) (fun hf => ?_)
      · refine lv_iload hx hb dX3_busy_70 (lv_at hl 3 rfl) ?_
        exact wt_iret hx hb hr hlk hK hM hf dX3_busy_72
      refine lv_iload_n hx hb dX3_busy_66 rfl (lv_at hl 2 rfl) ?_
      refine lv_goto (tgt := 72) hx hb dX3_busy_67 (by decide) ?_
      exact wt_iret hx hb hr hlk hK hM hf dX3_busy_72
    refine lv_aload_n hx hb dX3_busy_31 rfl (lv_at hl 0 rfl) ?_
    refine gf_X3_house  hx hb hts hown hK hM tw_114 dX3_busy_32 ?_
    refine lv_iload hx hb dX3_busy_35 (lv_at hl 4 rfl) ?_
    refine wt_callVi (As := [.int x5]) (rest := []) hx hb hml hts hown hK hM (wt_rc_X0 wt_h1) cw_X3_293 hd_X0_standingIn rfl ⟨qz_b rfl, qz_b rfl⟩ ⟨rfl, rfl⟩ hl.1 rfl (qz_b rfl) dX3_busy_37 hf (fun _ _ h9 => c_X0_standingIn wt_h1 h9) (fun r1 s2 H locs hf hM => ?_)
    refine lv_istore (lv' := [(6, .int r1), (0, .ref (B + 0)), (1, .int x1), (3, .int x3), (4, .int x4), (5, .int x5)]) hx hb dX3_busy_40 hl (by decide) rfl (fun ls hl => ?_)
    refine lv_iload hx hb dX3_busy_42 (lv_at hl 0 rfl) ?_
    refine lv_iload hx hb dX3_busy_44 (lv_at hl 4 rfl) ?_
    refine wq_icmp_le (tgt := 56) hx hb dX3_busy_46 (by decide) hf (fun hf => ?_) (fun hf => ?_)
    · exact w_X3_busy_56 C ih hf hM (lv_sub hl [1, 2, 3, 4, 5] rfl)
    refine lv_iload hx hb dX3_busy_49 (lv_at hl 0 rfl) ?_
    refine lv_istore (lv' := [(4, .int r1), (6, .int r1), (0, .ref (B + 0)), (1, .int x1), (3, .int x3), (5, .int x5)]) hx hb dX3_busy_51 hl (by decide) rfl (fun ls hl => ?_)
    refine lv_iload hx hb dX3_busy_53 (lv_at hl 5 rfl) ?_
    refine lv_istore_n (lv' := [(3, .int x5), (4, .int r1), (6, .int r1), (0, .ref (B + 0)), (1, .int x1), (5, .int x5)]) hx hb dX3_busy_55 rfl hl (by decide) rfl (fun ls hl => ?_)
    exact w_X3_busy_56 C ih hf hM (lv_sub hl [3, 4, 0, 1, 5] rfl)
set_option maxHeartbeats 4000000 in
set_option maxRecDepth 100000 in
theorem w_X3_busy_0 (C : wt_C p s m args meth c RX3 cX3_busy 7 (some .int) D tI tII) {F : Nat} {x1 : Int32} {σ : Mem} {r : Int32} {σ' : Mem} {H : Heap} {locs : List Loc} {ls : Array Slot} (hf : f_X3_busy F x1 σ = some (r, σ')) (hM : wt_St D tI tII B σ s H locs) (hl : lv_has ls 7 [(0, .ref (B + 0)), (1, .int x1)]) : W p l e rm_X3_busy s m args below meth c H locs 0 0 (MQ below (wt_Qi D tI tII B r σ') args s 0 0 (fun q => B ≤ q)) (F0 m 0 ls []) := by
  obtain ⟨hx, hb, hts, hown, hml, hr, hlk, hK⟩ := id C
  replace hf := Eq.trans f_X3_busy_e.symm hf
  refine lv_iload_n hx hb dX3_busy_0 rfl (lv_at hl 1 rfl) ?_
  refine lv_iconst (v := 2) hx hb dX3_busy_1 (by decide) ?_
  refine wt_callSi (As := [.int x1, .int (2 : Int32)]) (rest := []) hx hb hml hts hown hK hM cw_X3_123 hd_X3_notBelow rfl ⟨qz_b rfl, qz_b rfl⟩ ⟨rfl, rfl⟩ hl.1 rfl (qz_b rfl) dX3_busy_2 hf (fun _ _ h9 => c_X3_notBelow h9) (fun r3 s4 H locs hf hM => ?_)
  refine lv_istore_n (lv' := [(2, .int r3), (0, .ref (B + 0)), (1, .int x1)]) hx hb dX3_busy_5 rfl hl (by decide) rfl (fun ls hl => ?_)
  refine lv_iload_n hx hb dX3_busy_6 rfl (lv_at hl 0 rfl) ?_
  refine wq_if_eq (tgt := 16) hx hb dX3_busy_7 (by decide) hf (fun hf => ?_) (fun hf => ?_)
  · refine lv_iconst (v := 0) hx hb dX3_busy_16 (by decide) ?_
    refine lv_istore_n (lv' := [(3, .int (0 : Int32)), (2, .int r3), (0, .ref (B + 0)), (1, .int x1)]) hx hb dX3_busy_17 rfl hl (by decide) rfl (fun ls hl => ?_)
    refine lv_iconst (v := 0) hx hb dX3_busy_18 (by decide) ?_
    refine lv_istore (lv' := [(4, .int (0 : Int32)), (3, .int (0 : Int32)), (2, .int r3), (0, .ref (B + 0)), (1, .int x1)]) hx hb dX3_busy_19 hl (by decide) rfl (fun ls hl => ?_)
    refine lv_iconst (v := 0) hx hb dX3_busy_21 (by decide) ?_
    refine lv_istore (lv' := [(5, .int (0 : Int32)), (4, .int (0 : Int32)), (3, .int (0 : Int32)), (2, .int r3), (0, .ref (B + 0)), (1, .int x1)]) hx hb dX3_busy_22 hl (by decide) rfl (fun ls hl => ?_)
    exact w_X3_busy_24 C _ _ _ _ _ _ _ _ hf hM (lv_sub hl [4, 5, 2, 1, 0] rfl)
  refine lv_aload_n hx hb dX3_busy_10 rfl (lv_at hl 1 rfl) ?_
  refine lv_iload_n hx hb dX3_busy_11 rfl (lv_at hl 0 rfl) ?_
  refine wt_callVi (As := [.int r3]) (rest := []) hx hb hml hts hown hK hM wt_rc_X3 cw_X3_61 hd_X3_refuse rfl ⟨qz_b rfl, qz_b rfl⟩ ⟨rfl, rfl⟩ hl.1 rfl (qz_b rfl) dX3_busy_12 hf (fun _ _ h9 => c_X3_refuse h9) (fun r5 s6 H locs hf hM => ?_)
  exact wt_iret hx hb hr hlk hK hM hf dX3_busy_15
end
set_option maxHeartbeats 4000000 in
set_option maxRecDepth 100000 in
theorem c_X3_busy {l : Launch} {D : va_G} {tI tII : ClassId} {B F : Nat} {x1 : Int32} {σ σ' : Mem} {r : Int32} (hf : f_X3_busy F x1 σ = some (r, σ')) : wt_Mi l yX3_busy cX3_busy 7 (some .int) rm_X3_busy [.ref (B + 0), .int x1] D tI tII B σ r σ' := by
  refine Met.ofW (cc := cX3_busy) (maxL := 7) (ret := (some .int)) (by decide) rfl ?_
  intro p e s m args below meth c s₁ B9 hml hv
  obtain ⟨rfl, hP, hK⟩ := hv
  have hl := lv_entry ([.ref (B + 0), .int x1]) (n := 7) (qz_b rfl)
  rw [lg_entry_eq]
  generalize (lg_sl ([.ref (B + 0), .int x1]) ++ List.replicate (7 - (lg_sl ([.ref (B + 0), .int x1])).length) Slot.unset).toArray = ls at hl ⊢
  exact w_X3_busy_0 (wt_C_of B9 hml hK) hf ⟨hP, va_S.rf⟩ hl
