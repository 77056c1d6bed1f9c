theorem dX4_ownerLooked_0 : decode cX4_ownerLooked 0 = .ok (.bipush (-9), 2) := qz_s1 .bipush 247 qo_16 (by decide +kernel) rfl
theorem dX4_ownerLooked_2 : decode cX4_ownerLooked 2 = .ok (.istore_n 1, 1) := qd_p qo_60 (by decide +kernel)
theorem dX4_ownerLooked_3 : decode cX4_ownerLooked 3 = .ok (.iconst 0, 1) := qd_p qo_3 (by decide +kernel)
theorem dX4_ownerLooked_4 : decode cX4_ownerLooked 4 = .ok (.istore_n 2, 1) := qd_p qo_61 (by decide +kernel)
theorem dX4_ownerLooked_5 : decode cX4_ownerLooked 5 = .ok (.iconst 0, 1) := qd_p qo_3 (by decide +kernel)
theorem dX4_ownerLooked_6 : decode cX4_ownerLooked 6 = .ok (.istore_n 3, 1) := qd_p qo_62 (by decide +kernel)
theorem dX4_ownerLooked_7 : decode cX4_ownerLooked 7 = .ok (.iconst 1, 1) := qd_p qo_4 (by decide +kernel)
theorem dX4_ownerLooked_8 : decode cX4_ownerLooked 8 = .ok (.istore 4, 2) := qz_1 .istore 4 qo_54 (by decide +kernel)
theorem dX4_ownerLooked_10 : decode cX4_ownerLooked 10 = .ok (.iconst 0, 1) := qd_p qo_3 (by decide +kernel)
theorem dX4_ownerLooked_11 : decode cX4_ownerLooked 11 = .ok (.istore 5, 2) := qz_1 .istore 5 qo_54 (by decide +kernel)
theorem dX4_ownerLooked_13 : decode cX4_ownerLooked 13 = .ok (.iload 5, 2) := qz_1 .iload 5 qo_21 (by decide +kernel)
theorem dX4_ownerLooked_15 : decode cX4_ownerLooked 15 = .ok (.aload_n 0, 1) := qd_p qo_42 (by decide +kernel)
theorem dX4_ownerLooked_16 : decode cX4_ownerLooked 16 = .ok (.getfield 74, 3) := qz_2 .getfield 0 74 qo_180 (by decide +kernel) rfl
theorem dX4_ownerLooked_19 : decode cX4_ownerLooked 19 = .ok (.if_icmp .ge 94, 3) := qz_s2 (.if_icmp .ge) 0 94 qo_162 (by decide +kernel) rfl
theorem dX4_ownerLooked_22 : decode cX4_ownerLooked 22 = .ok (.aload_n 0, 1) := qd_p qo_42 (by decide +kernel)
theorem dX4_ownerLooked_23 : decode cX4_ownerLooked 23 = .ok (.getfield 34, 3) := qz_2 .getfield 0 34 qo_180 (by decide +kernel) rfl
theorem dX4_ownerLooked_26 : decode cX4_ownerLooked 26 = .ok (.iload 5, 2) := qz_1 .iload 5 qo_21 (by decide +kernel)
theorem dX4_ownerLooked_28 : decode cX4_ownerLooked 28 = .ok (.iaload, 1) := qd_p qo_46 (by decide +kernel)
theorem dX4_ownerLooked_29 : decode cX4_ownerLooked 29 = .ok (.iload_n 2, 1) := qd_p qo_28 (by decide +kernel)
theorem dX4_ownerLooked_30 : decode cX4_ownerLooked 30 = .ok (.if_icmp .gt 19, 3) := qz_s2 (.if_icmp .gt) 0 19 qo_163 (by decide +kernel) rfl
theorem dX4_ownerLooked_33 : decode cX4_ownerLooked 33 = .ok (.iload 4, 2) := qz_1 .iload 4 qo_21 (by decide +kernel)
theorem dX4_ownerLooked_35 : decode cX4_ownerLooked 35 = .ok (.ifCond .eq 18, 3) := qz_s2 (.ifCond .eq) 0 18 qo_153 (by decide +kernel) rfl
theorem dX4_ownerLooked_38 : decode cX4_ownerLooked 38 = .ok (.aload_n 0, 1) := qd_p qo_42 (by decide +kernel)
theorem dX4_ownerLooked_39 : decode cX4_ownerLooked 39 = .ok (.getfield 34, 3) := qz_2 .getfield 0 34 qo_180 (by decide +kernel) rfl
theorem dX4_ownerLooked_42 : decode cX4_ownerLooked 42 = .ok (.iload 5, 2) := qz_1 .iload 5 qo_21 (by decide +kernel)
theorem dX4_ownerLooked_44 : decode cX4_ownerLooked 44 = .ok (.iaload, 1) := qd_p qo_46 (by decide +kernel)
theorem dX4_ownerLooked_45 : decode cX4_ownerLooked 45 = .ok (.iload_n 2, 1) := qd_p qo_28 (by decide +kernel)
theorem dX4_ownerLooked_46 : decode cX4_ownerLooked 46 = .ok (.if_icmp .ge 7, 3) := qz_s2 (.if_icmp .ge) 0 7 qo_162 (by decide +kernel) rfl
theorem dX4_ownerLooked_49 : decode cX4_ownerLooked 49 = .ok (.iconst 1, 1) := qd_p qo_4 (by decide +kernel)
theorem dX4_ownerLooked_50 : decode cX4_ownerLooked 50 = .ok (.goto 4, 3) := qz_s2 .goto 0 4 qo_167 (by decide +kernel) rfl
theorem dX4_ownerLooked_53 : decode cX4_ownerLooked 53 = .ok (.iconst 0, 1) := qd_p qo_3 (by decide +kernel)
theorem dX4_ownerLooked_54 : decode cX4_ownerLooked 54 = .ok (.istore 4, 2) := qz_1 .istore 4 qo_54 (by decide +kernel)
theorem dX4_ownerLooked_56 : decode cX4_ownerLooked 56 = .ok (.aload_n 0, 1) := qd_p qo_42 (by decide +kernel)
theorem dX4_ownerLooked_57 : decode cX4_ownerLooked 57 = .ok (.getfield 34, 3) := qz_2 .getfield 0 34 qo_180 (by decide +kernel) rfl
theorem dX4_ownerLooked_60 : decode cX4_ownerLooked 60 = .ok (.iload 5, 2) := qz_1 .iload 5 qo_21 (by decide +kernel)
theorem dX4_ownerLooked_62 : decode cX4_ownerLooked 62 = .ok (.iaload, 1) := qd_p qo_46 (by decide +kernel)
theorem dX4_ownerLooked_63 : decode cX4_ownerLooked 63 = .ok (.iload_n 2, 1) := qd_p qo_28 (by decide +kernel)
theorem dX4_ownerLooked_64 : decode cX4_ownerLooked 64 = .ok (.if_icmp .le 8, 3) := qz_s2 (.if_icmp .le) 0 8 qo_164 (by decide +kernel) rfl
theorem dX4_ownerLooked_67 : decode cX4_ownerLooked 67 = .ok (.iload 5, 2) := qz_1 .iload 5 qo_21 (by decide +kernel)
theorem dX4_ownerLooked_69 : decode cX4_ownerLooked 69 = .ok (.goto 4, 3) := qz_s2 .goto 0 4 qo_167 (by decide +kernel) rfl
theorem dX4_ownerLooked_72 : decode cX4_ownerLooked 72 = .ok (.iload_n 1, 1) := qd_p qo_27 (by decide +kernel)
theorem dX4_ownerLooked_73 : decode cX4_ownerLooked 73 = .ok (.istore_n 1, 1) := qd_p qo_60 (by decide +kernel)
theorem dX4_ownerLooked_74 : decode cX4_ownerLooked 74 = .ok (.aload_n 0, 1) := qd_p qo_42 (by decide +kernel)
theorem dX4_ownerLooked_75 : decode cX4_ownerLooked 75 = .ok (.getfield 34, 3) := qz_2 .getfield 0 34 qo_180 (by decide +kernel) rfl
theorem dX4_ownerLooked_78 : decode cX4_ownerLooked 78 = .ok (.iload 5, 2) := qz_1 .iload 5 qo_21 (by decide +kernel)
theorem dX4_ownerLooked_80 : decode cX4_ownerLooked 80 = .ok (.iaload, 1) := qd_p qo_46 (by decide +kernel)
theorem dX4_ownerLooked_81 : decode cX4_ownerLooked 81 = .ok (.iload_n 2, 1) := qd_p qo_28 (by decide +kernel)
theorem dX4_ownerLooked_82 : decode cX4_ownerLooked 82 = .ok (.if_icmp .le 13, 3) := qz_s2 (.if_icmp .le) 0 13 qo_164 (by decide +kernel) rfl
theorem dX4_ownerLooked_85 : decode cX4_ownerLooked 85 = .ok (.aload_n 0, 1) := qd_p qo_42 (by decide +kernel)
theorem dX4_ownerLooked_86 : decode cX4_ownerLooked 86 = .ok (.getfield 34, 3) := qz_2 .getfield 0 34 qo_180 (by decide +kernel) rfl
theorem dX4_ownerLooked_89 : decode cX4_ownerLooked 89 = .ok (.iload 5, 2) := qz_1 .iload 5 qo_21 (by decide +kernel)
theorem dX4_ownerLooked_91 : decode cX4_ownerLooked 91 = .ok (.iaload, 1) := qd_p qo_46 (by decide +kernel)
theorem dX4_ownerLooked_92 : decode cX4_ownerLooked 92 = .ok (.goto 4, 3) := qz_s2 .goto 0 4 qo_167 (by decide +kernel) rfl
theorem dX4_ownerLooked_95 : decode cX4_ownerLooked 95 = .ok (.iload_n 2, 1) := qd_p qo_28 (by decide +kernel)
theorem dX4_ownerLooked_96 : decode cX4_ownerLooked 96 = .ok (.istore_n 2, 1) := qd_p qo_61 (by decide +kernel)
theorem dX4_ownerLooked_97 : decode cX4_ownerLooked 97 = .ok (.iload_n 3, 1) := qd_p qo_29 (by decide +kernel)
theorem dX4_ownerLooked_98 : decode cX4_ownerLooked 98 = .ok (.aload_n 0, 1) := qd_p qo_42 (by decide +kernel)
theorem dX4_ownerLooked_99 : decode cX4_ownerLooked 99 = .ok (.getfield 34, 3) := qz_2 .getfield 0 34 qo_180 (by decide +kernel) rfl
theorem dX4_ownerLooked_102 : decode cX4_ownerLooked 102 = .ok (.iload 5, 2) := qz_1 .iload 5 qo_21 (by decide +kernel)
theorem dX4_ownerLooked_104 : decode cX4_ownerLooked 104 = .ok (.iaload, 1) := qd_p qo_46 (by decide +kernel)
theorem dX4_ownerLooked_105 : decode cX4_ownerLooked 105 = .ok (.iadd, 1) := qd_p qo_96 (by decide +kernel)
theorem dX4_ownerLooked_106 : decode cX4_ownerLooked 106 = .ok (.istore_n 3, 1) := qd_p qo_62 (by decide +kernel)
theorem dX4_ownerLooked_107 : decode cX4_ownerLooked 107 = .ok (.iinc 5 1, 3) := qd_i (x := 5) (y := 1) qo_132 (by decide +kernel) rfl
theorem dX4_ownerLooked_110 : decode cX4_ownerLooked 110 = .ok (.goto (-97), 3) := qz_s2 .goto 255 159 qo_167 (by decide +kernel) rfl
theorem dX4_ownerLooked_113 : decode cX4_ownerLooked 113 = .ok (.iload_n 1, 1) := qd_p qo_27 (by decide +kernel)
theorem dX4_ownerLooked_114 : decode cX4_ownerLooked 114 = .ok (.ifCond .lt 42, 3) := qz_s2 (.ifCond .lt) 0 42 qo_155 (by decide +kernel) rfl
theorem dX4_ownerLooked_117 : decode cX4_ownerLooked 117 = .ok (.aload_n 0, 1) := qd_p qo_42 (by decide +kernel)
theorem dX4_ownerLooked_118 : decode cX4_ownerLooked 118 = .ok (.getfield 115, 3) := qz_2 .getfield 0 115 qo_180 (by decide +kernel) rfl
theorem dX4_ownerLooked_121 : decode cX4_ownerLooked 121 = .ok (.ifCond .eq 31, 3) := qz_s2 (.ifCond .eq) 0 31 qo_153 (by decide +kernel) rfl
theorem dX4_ownerLooked_124 : decode cX4_ownerLooked 124 = .ok (.aload_n 0, 1) := qd_p qo_42 (by decide +kernel)
theorem dX4_ownerLooked_125 : decode cX4_ownerLooked 125 = .ok (.getfield 115, 3) := qz_2 .getfield 0 115 qo_180 (by decide +kernel) rfl
theorem dX4_ownerLooked_128 : decode cX4_ownerLooked 128 = .ok (.iconst 1, 1) := qd_p qo_4 (by decide +kernel)
theorem dX4_ownerLooked_129 : decode cX4_ownerLooked 129 = .ok (.if_icmp .ne 8, 3) := qz_s2 (.if_icmp .ne) 0 8 qo_160 (by decide +kernel) rfl
theorem dX4_ownerLooked_132 : decode cX4_ownerLooked 132 = .ok (.iload 4, 2) := qz_1 .iload 4 qo_21 (by decide +kernel)
theorem dX4_ownerLooked_134 : decode cX4_ownerLooked 134 = .ok (.ifCond .ne 18, 3) := qz_s2 (.ifCond .ne) 0 18 qo_154 (by decide +kernel) rfl
theorem dX4_ownerLooked_137 : decode cX4_ownerLooked 137 = .ok (.aload_n 0, 1) := qd_p qo_42 (by decide +kernel)
theorem dX4_ownerLooked_138 : decode cX4_ownerLooked 138 = .ok (.getfield 115, 3) := qz_2 .getfield 0 115 qo_180 (by decide +kernel) rfl
theorem dX4_ownerLooked_141 : decode cX4_ownerLooked 141 = .ok (.iconst 2, 1) := qd_p qo_5 (by decide +kernel)
theorem dX4_ownerLooked_142 : decode cX4_ownerLooked 142 = .ok (.if_icmp .ne 14, 3) := qz_s2 (.if_icmp .ne) 0 14 qo_160 (by decide +kernel) rfl
theorem dX4_ownerLooked_145 : decode cX4_ownerLooked 145 = .ok (.iconst 2, 1) := qd_p qo_5 (by decide +kernel)
theorem dX4_ownerLooked_146 : decode cX4_ownerLooked 146 = .ok (.iload_n 2, 1) := qd_p qo_28 (by decide +kernel)
theorem dX4_ownerLooked_147 : decode cX4_ownerLooked 147 = .ok (.imul, 1) := qd_p qo_104 (by decide +kernel)
theorem dX4_ownerLooked_148 : decode cX4_ownerLooked 148 = .ok (.iload_n 3, 1) := qd_p qo_29 (by decide +kernel)
theorem dX4_ownerLooked_149 : decode cX4_ownerLooked 149 = .ok (.if_icmp .le 7, 3) := qz_s2 (.if_icmp .le) 0 7 qo_164 (by decide +kernel) rfl
theorem dX4_ownerLooked_152 : decode cX4_ownerLooked 152 = .ok (.iconst 1, 1) := qd_p qo_4 (by decide +kernel)
theorem dX4_ownerLooked_153 : decode cX4_ownerLooked 153 = .ok (.goto 4, 3) := qz_s2 .goto 0 4 qo_167 (by decide +kernel) rfl
theorem dX4_ownerLooked_156 : decode cX4_ownerLooked 156 = .ok (.iconst 0, 1) := qd_p qo_3 (by decide +kernel)
theorem dX4_ownerLooked_157 : decode cX4_ownerLooked 157 = .ok (.istore 5, 2) := qz_1 .istore 5 qo_54 (by decide +kernel)
theorem dX4_ownerLooked_159 : decode cX4_ownerLooked 159 = .ok (.iload 5, 2) := qz_1 .iload 5 qo_21 (by decide +kernel)
theorem dX4_ownerLooked_161 : decode cX4_ownerLooked 161 = .ok (.ifCond .eq 7, 3) := qz_s2 (.ifCond .eq) 0 7 qo_153 (by decide +kernel) rfl
theorem dX4_ownerLooked_164 : decode cX4_ownerLooked 164 = .ok (.iload_n 1, 1) := qd_p qo_27 (by decide +kernel)
theorem dX4_ownerLooked_165 : decode cX4_ownerLooked 165 = .ok (.goto 5, 3) := qz_s2 .goto 0 5 qo_167 (by decide +kernel) rfl
theorem dX4_ownerLooked_168 : decode cX4_ownerLooked 168 = .ok (.bipush (-9), 2) := qz_s1 .bipush 247 qo_16 (by decide +kernel) rfl
theorem dX4_ownerLooked_170 : decode cX4_ownerLooked 170 = .ok (.ireturn, 1) := qd_p qo_172 (by decide +kernel)
theorem dX4_ownerIn_0 : decode cX4_ownerIn 0 = .ok (.iconst 0, 1) := qd_p qo_3 (by decide +kernel)
theorem dX4_ownerIn_1 : decode cX4_ownerIn 1 = .ok (.istore_n 3, 1) := qd_p qo_62 (by decide +kernel)
theorem dX4_ownerIn_2 : decode cX4_ownerIn 2 = .ok (.iload_n 3, 1) := qd_p qo_29 (by decide +kernel)
theorem dX4_ownerIn_3 : decode cX4_ownerIn 3 = .ok (.aload_n 0, 1) := qd_p qo_42 (by decide +kernel)
theorem dX4_ownerIn_4 : decode cX4_ownerIn 4 = .ok (.getfield 74, 3) := qz_2 .getfield 0 74 qo_180 (by decide +kernel) rfl
theorem dX4_ownerIn_7 : decode cX4_ownerIn 7 = .ok (.if_icmp .ge 43, 3) := qz_s2 (.if_icmp .ge) 0 43 qo_162 (by decide +kernel) rfl
theorem dX4_ownerIn_10 : decode cX4_ownerIn 10 = .ok (.aload_n 0, 1) := qd_p qo_42 (by decide +kernel)
theorem dX4_ownerIn_11 : decode cX4_ownerIn 11 = .ok (.getfield 34, 3) := qz_2 .getfield 0 34 qo_180 (by decide +kernel) rfl
theorem dX4_ownerIn_14 : decode cX4_ownerIn 14 = .ok (.iload_n 3, 1) := qd_p qo_29 (by decide +kernel)
theorem dX4_ownerIn_15 : decode cX4_ownerIn 15 = .ok (.aload_n 0, 1) := qd_p qo_42 (by decide +kernel)
theorem dX4_ownerIn_16 : decode cX4_ownerIn 16 = .ok (.getfield 25, 3) := qz_2 .getfield 0 25 qo_180 (by decide +kernel) rfl
theorem dX4_ownerIn_19 : decode cX4_ownerIn 19 = .ok (.bipush 8, 2) := qz_s1 .bipush 8 qo_16 (by decide +kernel) rfl
theorem dX4_ownerIn_21 : decode cX4_ownerIn 21 = .ok (.iload_n 3, 1) := qd_p qo_29 (by decide +kernel)
theorem dX4_ownerIn_22 : decode cX4_ownerIn 22 = .ok (.imul, 1) := qd_p qo_104 (by decide +kernel)
theorem dX4_ownerIn_23 : decode cX4_ownerIn 23 = .ok (.iload_n 1, 1) := qd_p qo_27 (by decide +kernel)
theorem dX4_ownerIn_24 : decode cX4_ownerIn 24 = .ok (.iadd, 1) := qd_p qo_96 (by decide +kernel)
theorem dX4_ownerIn_25 : decode cX4_ownerIn 25 = .ok (.iaload, 1) := qd_p qo_46 (by decide +kernel)
theorem dX4_ownerIn_26 : decode cX4_ownerIn 26 = .ok (.iload_n 2, 1) := qd_p qo_28 (by decide +kernel)
theorem dX4_ownerIn_27 : decode cX4_ownerIn 27 = .ok (.aload_n 0, 1) := qd_p qo_42 (by decide +kernel)
theorem dX4_ownerIn_28 : decode cX4_ownerIn 28 = .ok (.getfield 31, 3) := qz_2 .getfield 0 31 qo_180 (by decide +kernel) rfl
theorem dX4_ownerIn_31 : decode cX4_ownerIn 31 = .ok (.bipush 8, 2) := qz_s1 .bipush 8 qo_16 (by decide +kernel) rfl
theorem dX4_ownerIn_33 : decode cX4_ownerIn 33 = .ok (.iload_n 3, 1) := qd_p qo_29 (by decide +kernel)
theorem dX4_ownerIn_34 : decode cX4_ownerIn 34 = .ok (.imul, 1) := qd_p qo_104 (by decide +kernel)
theorem dX4_ownerIn_35 : decode cX4_ownerIn 35 = .ok (.iload_n 1, 1) := qd_p qo_27 (by decide +kernel)
theorem dX4_ownerIn_36 : decode cX4_ownerIn 36 = .ok (.iadd, 1) := qd_p qo_96 (by decide +kernel)
theorem dX4_ownerIn_37 : decode cX4_ownerIn 37 = .ok (.iaload, 1) := qd_p qo_46 (by decide +kernel)
theorem dX4_ownerIn_38 : decode cX4_ownerIn 38 = .ok (.imul, 1) := qd_p qo_104 (by decide +kernel)
theorem dX4_ownerIn_39 : decode cX4_ownerIn 39 = .ok (.iadd, 1) := qd_p qo_96 (by decide +kernel)
theorem dX4_ownerIn_40 : decode cX4_ownerIn 40 = .ok (.invokestatic 118, 3) := qz_2 .invokestatic 0 118 qo_184 (by decide +kernel) rfl
theorem dX4_ownerIn_43 : decode cX4_ownerIn 43 = .ok (.iastore, 1) := qd_p qo_79 (by decide +kernel)
theorem dX4_ownerIn_44 : decode cX4_ownerIn 44 = .ok (.iinc 3 1, 3) := qd_i (x := 3) (y := 1) qo_132 (by decide +kernel) rfl
theorem dX4_ownerIn_47 : decode cX4_ownerIn 47 = .ok (.goto (-45), 3) := qz_s2 .goto 255 211 qo_167 (by decide +kernel) rfl
theorem dX4_ownerIn_50 : decode cX4_ownerIn 50 = .ok (.aload_n 0, 1) := qd_p qo_42 (by decide +kernel)
theorem dX4_ownerIn_51 : decode cX4_ownerIn 51 = .ok (.invokevirtual 122, 3) := qz_2 .invokevirtual 0 122 qo_182 (by decide +kernel) rfl
theorem dX4_ownerIn_54 : decode cX4_ownerIn 54 = .ok (.ireturn, 1) := qd_p qo_172 (by decide +kernel)
theorem dX4_viewsIn_0 : decode cX4_viewsIn 0 = .ok (.iconst 0, 1) := qd_p qo_3 (by decide +kernel)
theorem dX4_viewsIn_1 : decode cX4_viewsIn 1 = .ok (.istore_n 3, 1) := qd_p qo_62 (by decide +kernel)
theorem dX4_viewsIn_2 : decode cX4_viewsIn 2 = .ok (.iconst 0, 1) := qd_p qo_3 (by decide +kernel)
theorem dX4_viewsIn_3 : decode cX4_viewsIn 3 = .ok (.istore 4, 2) := qz_1 .istore 4 qo_54 (by decide +kernel)
theorem dX4_viewsIn_5 : decode cX4_viewsIn 5 = .ok (.iload 4, 2) := qz_1 .iload 4 qo_21 (by decide +kernel)
theorem dX4_viewsIn_7 : decode cX4_viewsIn 7 = .ok (.bipush 8, 2) := qz_s1 .bipush 8 qo_16 (by decide +kernel) rfl
theorem dX4_viewsIn_9 : decode cX4_viewsIn 9 = .ok (.if_icmp .ge 31, 3) := qz_s2 (.if_icmp .ge) 0 31 qo_162 (by decide +kernel) rfl
theorem dX4_viewsIn_12 : decode cX4_viewsIn 12 = .ok (.iload_n 3, 1) := qd_p qo_29 (by decide +kernel)
theorem dX4_viewsIn_13 : decode cX4_viewsIn 13 = .ok (.aload_n 0, 1) := qd_p qo_42 (by decide +kernel)
theorem dX4_viewsIn_14 : decode cX4_viewsIn 14 = .ok (.iload 4, 2) := qz_1 .iload 4 qo_21 (by decide +kernel)
theorem dX4_viewsIn_16 : decode cX4_viewsIn 16 = .ok (.iload_n 2, 1) := qd_p qo_28 (by decide +kernel)
theorem dX4_viewsIn_17 : decode cX4_viewsIn 17 = .ok (.invokevirtual 125, 3) := qz_2 .invokevirtual 0 125 qo_182 (by decide +kernel) rfl
theorem dX4_viewsIn_20 : decode cX4_viewsIn 20 = .ok (.iload_n 1, 1) := qd_p qo_27 (by decide +kernel)
theorem dX4_viewsIn_21 : decode cX4_viewsIn 21 = .ok (.if_icmp .ne 10, 3) := qz_s2 (.if_icmp .ne) 0 10 qo_160 (by decide +kernel) rfl
theorem dX4_viewsIn_24 : decode cX4_viewsIn 24 = .ok (.iconst 1, 1) := qd_p qo_4 (by decide +kernel)
theorem dX4_viewsIn_25 : decode cX4_viewsIn 25 = .ok (.iload 4, 2) := qz_1 .iload 4 qo_21 (by decide +kernel)
theorem dX4_viewsIn_27 : decode cX4_viewsIn 27 = .ok (.ishl, 1) := qd_p qo_120 (by decide +kernel)
theorem dX4_viewsIn_28 : decode cX4_viewsIn 28 = .ok (.goto 4, 3) := qz_s2 .goto 0 4 qo_167 (by decide +kernel) rfl
theorem dX4_viewsIn_31 : decode cX4_viewsIn 31 = .ok (.iconst 0, 1) := qd_p qo_3 (by decide +kernel)
theorem dX4_viewsIn_32 : decode cX4_viewsIn 32 = .ok (.ior, 1) := qd_p qo_128 (by decide +kernel)
theorem dX4_viewsIn_33 : decode cX4_viewsIn 33 = .ok (.istore_n 3, 1) := qd_p qo_62 (by decide +kernel)
theorem dX4_viewsIn_34 : decode cX4_viewsIn 34 = .ok (.iinc 4 1, 3) := qd_i (x := 4) (y := 1) qo_132 (by decide +kernel) rfl
theorem dX4_viewsIn_37 : decode cX4_viewsIn 37 = .ok (.goto (-32), 3) := qz_s2 .goto 255 224 qo_167 (by decide +kernel) rfl
theorem dX4_viewsIn_40 : decode cX4_viewsIn 40 = .ok (.iload_n 3, 1) := qd_p qo_29 (by decide +kernel)
theorem dX4_viewsIn_41 : decode cX4_viewsIn 41 = .ok (.ireturn, 1) := qd_p qo_172 (by decide +kernel)
theorem dX4_worthBy_0 : decode cX4_worthBy 0 = .ok (.iconst 0, 1) := qd_p qo_3 (by decide +kernel)
theorem dX4_worthBy_1 : decode cX4_worthBy 1 = .ok (.istore_n 2, 1) := qd_p qo_61 (by decide +kernel)
theorem dX4_worthBy_2 : decode cX4_worthBy 2 = .ok (.iconst 0, 1) := qd_p qo_3 (by decide +kernel)
theorem dX4_worthBy_3 : decode cX4_worthBy 3 = .ok (.istore_n 3, 1) := qd_p qo_62 (by decide +kernel)
theorem dX4_worthBy_4 : decode cX4_worthBy 4 = .ok (.iload_n 3, 1) := qd_p qo_29 (by decide +kernel)
theorem dX4_worthBy_5 : decode cX4_worthBy 5 = .ok (.bipush 8, 2) := qz_s1 .bipush 8 qo_16 (by decide +kernel) rfl
theorem dX4_worthBy_7 : decode cX4_worthBy 7 = .ok (.if_icmp .ge 30, 3) := qz_s2 (.if_icmp .ge) 0 30 qo_162 (by decide +kernel) rfl
theorem dX4_worthBy_10 : decode cX4_worthBy 10 = .ok (.iload_n 2, 1) := qd_p qo_28 (by decide +kernel)
theorem dX4_worthBy_11 : decode cX4_worthBy 11 = .ok (.iload_n 1, 1) := qd_p qo_27 (by decide +kernel)
theorem dX4_worthBy_12 : decode cX4_worthBy 12 = .ok (.iload_n 3, 1) := qd_p qo_29 (by decide +kernel)
theorem dX4_worthBy_13 : decode cX4_worthBy 13 = .ok (.invokestatic 104, 3) := qz_2 .invokestatic 0 104 qo_184 (by decide +kernel) rfl
theorem dX4_worthBy_16 : decode cX4_worthBy 16 = .ok (.ifCond .eq 12, 3) := qz_s2 (.ifCond .eq) 0 12 qo_153 (by decide +kernel) rfl
theorem dX4_worthBy_19 : decode cX4_worthBy 19 = .ok (.aload_n 0, 1) := qd_p qo_42 (by decide +kernel)
theorem dX4_worthBy_20 : decode cX4_worthBy 20 = .ok (.getfield 7, 3) := qz_2 .getfield 0 7 qo_180 (by decide +kernel) rfl
theorem dX4_worthBy_23 : decode cX4_worthBy 23 = .ok (.iload_n 3, 1) := qd_p qo_29 (by decide +kernel)
theorem dX4_worthBy_24 : decode cX4_worthBy 24 = .ok (.iaload, 1) := qd_p qo_46 (by decide +kernel)
theorem dX4_worthBy_25 : decode cX4_worthBy 25 = .ok (.goto 4, 3) := qz_s2 .goto 0 4 qo_167 (by decide +kernel) rfl
theorem dX4_worthBy_28 : decode cX4_worthBy 28 = .ok (.iconst 0, 1) := qd_p qo_3 (by decide +kernel)
theorem dX4_worthBy_29 : decode cX4_worthBy 29 = .ok (.iadd, 1) := qd_p qo_96 (by decide +kernel)
theorem dX4_worthBy_30 : decode cX4_worthBy 30 = .ok (.istore_n 2, 1) := qd_p qo_61 (by decide +kernel)
theorem dX4_worthBy_31 : decode cX4_worthBy 31 = .ok (.iinc 3 1, 3) := qd_i (x := 3) (y := 1) qo_132 (by decide +kernel) rfl
theorem dX4_worthBy_34 : decode cX4_worthBy 34 = .ok (.goto (-30), 3) := qz_s2 .goto 255 226 qo_167 (by decide +kernel) rfl
theorem dX4_worthBy_37 : decode cX4_worthBy 37 = .ok (.iload_n 2, 1) := qd_p qo_28 (by decide +kernel)
theorem dX4_worthBy_38 : decode cX4_worthBy 38 = .ok (.ireturn, 1) := qd_p qo_172 (by decide +kernel)
theorem dX4_worthIn_0 : decode cX4_worthIn 0 = .ok (.aload_n 0, 1) := qd_p qo_42 (by decide +kernel)
theorem dX4_worthIn_1 : decode cX4_worthIn 1 = .ok (.aload_n 0, 1) := qd_p qo_42 (by decide +kernel)
theorem dX4_worthIn_2 : decode cX4_worthIn 2 = .ok (.iload_n 1, 1) := qd_p qo_27 (by decide +kernel)
theorem dX4_worthIn_3 : decode cX4_worthIn 3 = .ok (.iload_n 2, 1) := qd_p qo_28 (by decide +kernel)
theorem dX4_worthIn_4 : decode cX4_worthIn 4 = .ok (.invokevirtual 128, 3) := qz_2 .invokevirtual 0 128 qo_182 (by decide +kernel) rfl
theorem dX4_worthIn_7 : decode cX4_worthIn 7 = .ok (.invokevirtual 131, 3) := qz_2 .invokevirtual 0 131 qo_182 (by decide +kernel) rfl
theorem dX4_worthIn_10 : decode cX4_worthIn 10 = .ok (.ireturn, 1) := qd_p qo_172 (by decide +kernel)
theorem dX4_worthAnew_0 : decode cX4_worthAnew 0 = .ok (.aload_n 0, 1) := qd_p qo_42 (by decide +kernel)
theorem dX4_worthAnew_1 : decode cX4_worthAnew 1 = .ok (.invokevirtual 134, 3) := qz_2 .invokevirtual 0 134 qo_182 (by decide +kernel) rfl
theorem dX4_worthAnew_4 : decode cX4_worthAnew 4 = .ok (.aload_n 0, 1) := qd_p qo_42 (by decide +kernel)
theorem dX4_worthAnew_5 : decode cX4_worthAnew 5 = .ok (.iload_n 1, 1) := qd_p qo_27 (by decide +kernel)
theorem dX4_worthAnew_6 : decode cX4_worthAnew 6 = .ok (.iload_n 2, 1) := qd_p qo_28 (by decide +kernel)
theorem dX4_worthAnew_7 : decode cX4_worthAnew 7 = .ok (.invokevirtual 137, 3) := qz_2 .invokevirtual 0 137 qo_182 (by decide +kernel) rfl
theorem dX4_worthAnew_10 : decode cX4_worthAnew 10 = .ok (.ireturn, 1) := qd_p qo_172 (by decide +kernel)
theorem dX4_hoursOf_0 : decode cX4_hoursOf 0 = .ok (.iconst 0, 1) := qd_p qo_3 (by decide +kernel)
theorem dX4_hoursOf_1 : decode cX4_hoursOf 1 = .ok (.istore_n 2, 1) := qd_p qo_61 (by decide +kernel)
theorem dX4_hoursOf_2 : decode cX4_hoursOf 2 = .ok (.iconst 0, 1) := qd_p qo_3 (by decide +kernel)
theorem dX4_hoursOf_3 : decode cX4_hoursOf 3 = .ok (.istore_n 3, 1) := qd_p qo_62 (by decide +kernel)
theorem dX4_hoursOf_4 : decode cX4_hoursOf 4 = .ok (.iload_n 3, 1) := qd_p qo_29 (by decide +kernel)
theorem dX4_hoursOf_5 : decode cX4_hoursOf 5 = .ok (.bipush 24, 2) := qz_s1 .bipush 24 qo_16 (by decide +kernel) rfl
theorem dX4_hoursOf_7 : decode cX4_hoursOf 7 = .ok (.if_icmp .ge 31, 3) := qz_s2 (.if_icmp .ge) 0 31 qo_162 (by decide +kernel) rfl
theorem dX4_hoursOf_10 : decode cX4_hoursOf 10 = .ok (.iload_n 2, 1) := qd_p qo_28 (by decide +kernel)
theorem dX4_hoursOf_11 : decode cX4_hoursOf 11 = .ok (.aload_n 0, 1) := qd_p qo_42 (by decide +kernel)
theorem dX4_hoursOf_12 : decode cX4_hoursOf 12 = .ok (.getfield 22, 3) := qz_2 .getfield 0 22 qo_180 (by decide +kernel) rfl
theorem dX4_hoursOf_15 : decode cX4_hoursOf 15 = .ok (.bipush 24, 2) := qz_s1 .bipush 24 qo_16 (by decide +kernel) rfl
theorem dX4_hoursOf_17 : decode cX4_hoursOf 17 = .ok (.iload_n 1, 1) := qd_p qo_27 (by decide +kernel)
theorem dX4_hoursOf_18 : decode cX4_hoursOf 18 = .ok (.imul, 1) := qd_p qo_104 (by decide +kernel)
theorem dX4_hoursOf_19 : decode cX4_hoursOf 19 = .ok (.iload_n 3, 1) := qd_p qo_29 (by decide +kernel)
theorem dX4_hoursOf_20 : decode cX4_hoursOf 20 = .ok (.iadd, 1) := qd_p qo_96 (by decide +kernel)
theorem dX4_hoursOf_21 : decode cX4_hoursOf 21 = .ok (.iaload, 1) := qd_p qo_46 (by decide +kernel)
theorem dX4_hoursOf_22 : decode cX4_hoursOf 22 = .ok (.ifCond .lt 7, 3) := qz_s2 (.ifCond .lt) 0 7 qo_155 (by decide +kernel) rfl
theorem dX4_hoursOf_25 : decode cX4_hoursOf 25 = .ok (.iconst 1, 1) := qd_p qo_4 (by decide +kernel)
theorem dX4_hoursOf_26 : decode cX4_hoursOf 26 = .ok (.goto 4, 3) := qz_s2 .goto 0 4 qo_167 (by decide +kernel) rfl
theorem dX4_hoursOf_29 : decode cX4_hoursOf 29 = .ok (.iconst 0, 1) := qd_p qo_3 (by decide +kernel)
theorem dX4_hoursOf_30 : decode cX4_hoursOf 30 = .ok (.iadd, 1) := qd_p qo_96 (by decide +kernel)
theorem dX4_hoursOf_31 : decode cX4_hoursOf 31 = .ok (.istore_n 2, 1) := qd_p qo_61 (by decide +kernel)
theorem dX4_hoursOf_32 : decode cX4_hoursOf 32 = .ok (.iinc 3 1, 3) := qd_i (x := 3) (y := 1) qo_132 (by decide +kernel) rfl
theorem dX4_hoursOf_35 : decode cX4_hoursOf 35 = .ok (.goto (-31), 3) := qz_s2 .goto 255 225 qo_167 (by decide +kernel) rfl
theorem dX4_hoursOf_38 : decode cX4_hoursOf 38 = .ok (.iload_n 2, 1) := qd_p qo_28 (by decide +kernel)
theorem dX4_hoursOf_39 : decode cX4_hoursOf 39 = .ok (.ireturn, 1) := qd_p qo_172 (by decide +kernel)
theorem dX4_goDays_0 : decode cX4_goDays 0 = .ok (.aload_n 0, 1) := qd_p qo_42 (by decide +kernel)
theorem dX4_goDays_1 : decode cX4_goDays 1 = .ok (.invokevirtual 134, 3) := qz_2 .invokevirtual 0 134 qo_182 (by decide +kernel) rfl
theorem dX4_goDays_4 : decode cX4_goDays 4 = .ok (.iconst 0, 1) := qd_p qo_3 (by decide +kernel)
theorem dX4_goDays_5 : decode cX4_goDays 5 = .ok (.istore_n 2, 1) := qd_p qo_61 (by decide +kernel)
theorem dX4_goDays_6 : decode cX4_goDays 6 = .ok (.iload_n 2, 1) := qd_p qo_28 (by decide +kernel)
theorem dX4_goDays_7 : decode cX4_goDays 7 = .ok (.bipush 8, 2) := qz_s1 .bipush 8 qo_16 (by decide +kernel) rfl
theorem dX4_goDays_9 : decode cX4_goDays 9 = .ok (.aload_n 0, 1) := qd_p qo_42 (by decide +kernel)
theorem dX4_goDays_10 : decode cX4_goDays 10 = .ok (.getfield 74, 3) := qz_2 .getfield 0 74 qo_180 (by decide +kernel) rfl
theorem dX4_goDays_13 : decode cX4_goDays 13 = .ok (.imul, 1) := qd_p qo_104 (by decide +kernel)
theorem dX4_goDays_14 : decode cX4_goDays 14 = .ok (.if_icmp .ge 33, 3) := qz_s2 (.if_icmp .ge) 0 33 qo_162 (by decide +kernel) rfl
theorem dX4_goDays_17 : decode cX4_goDays 17 = .ok (.aload_n 0, 1) := qd_p qo_42 (by decide +kernel)
theorem dX4_goDays_18 : decode cX4_goDays 18 = .ok (.getfield 25, 3) := qz_2 .getfield 0 25 qo_180 (by decide +kernel) rfl
theorem dX4_goDays_21 : decode cX4_goDays 21 = .ok (.iload_n 2, 1) := qd_p qo_28 (by decide +kernel)
theorem dX4_goDays_22 : decode cX4_goDays 22 = .ok (.aload_n 0, 1) := qd_p qo_42 (by decide +kernel)
theorem dX4_goDays_23 : decode cX4_goDays 23 = .ok (.getfield 25, 3) := qz_2 .getfield 0 25 qo_180 (by decide +kernel) rfl
theorem dX4_goDays_26 : decode cX4_goDays 26 = .ok (.iload_n 2, 1) := qd_p qo_28 (by decide +kernel)
theorem dX4_goDays_27 : decode cX4_goDays 27 = .ok (.iaload, 1) := qd_p qo_46 (by decide +kernel)
theorem dX4_goDays_28 : decode cX4_goDays 28 = .ok (.iload_n 1, 1) := qd_p qo_27 (by decide +kernel)
theorem dX4_goDays_29 : decode cX4_goDays 29 = .ok (.aload_n 0, 1) := qd_p qo_42 (by decide +kernel)
theorem dX4_goDays_30 : decode cX4_goDays 30 = .ok (.getfield 31, 3) := qz_2 .getfield 0 31 qo_180 (by decide +kernel) rfl
theorem dX4_goDays_33 : decode cX4_goDays 33 = .ok (.iload_n 2, 1) := qd_p qo_28 (by decide +kernel)
theorem dX4_goDays_34 : decode cX4_goDays 34 = .ok (.iaload, 1) := qd_p qo_46 (by decide +kernel)
theorem dX4_goDays_35 : decode cX4_goDays 35 = .ok (.imul, 1) := qd_p qo_104 (by decide +kernel)
theorem dX4_goDays_36 : decode cX4_goDays 36 = .ok (.iadd, 1) := qd_p qo_96 (by decide +kernel)
theorem dX4_goDays_37 : decode cX4_goDays 37 = .ok (.invokestatic 118, 3) := qz_2 .invokestatic 0 118 qo_184 (by decide +kernel) rfl
theorem dX4_goDays_40 : decode cX4_goDays 40 = .ok (.iastore, 1) := qd_p qo_79 (by decide +kernel)
theorem dX4_goDays_41 : decode cX4_goDays 41 = .ok (.iinc 2 1, 3) := qd_i (x := 2) (y := 1) qo_132 (by decide +kernel) rfl
theorem dX4_goDays_44 : decode cX4_goDays 44 = .ok (.goto (-38), 3) := qz_s2 .goto 255 218 qo_167 (by decide +kernel) rfl
theorem dX4_goDays_47 : decode cX4_goDays 47 = .ok (.aload_n 0, 1) := qd_p qo_42 (by decide +kernel)
theorem dX4_goDays_48 : decode cX4_goDays 48 = .ok (.dup, 1) := qd_p qo_89 (by decide +kernel)
theorem dX4_goDays_49 : decode cX4_goDays 49 = .ok (.getfield 140, 3) := qz_2 .getfield 0 140 qo_180 (by decide +kernel) rfl
theorem dX4_goDays_52 : decode cX4_goDays 52 = .ok (.iload_n 1, 1) := qd_p qo_27 (by decide +kernel)
theorem dX4_goDays_53 : decode cX4_goDays 53 = .ok (.iadd, 1) := qd_p qo_96 (by decide +kernel)
theorem dX4_goDays_54 : decode cX4_goDays 54 = .ok (.putfield 140, 3) := qz_2 .putfield 0 140 qo_181 (by decide +kernel) rfl
theorem dX4_goDays_57 : decode cX4_goDays 57 = .ok (.return_, 1) := qd_p qo_177 (by decide +kernel)
theorem dX4_owned_0 : decode cX4_owned 0 = .ok (.aload_n 0, 1) := qd_p qo_42 (by decide +kernel)
theorem dX4_owned_1 : decode cX4_owned 1 = .ok (.invokevirtual 134, 3) := qz_2 .invokevirtual 0 134 qo_182 (by decide +kernel) rfl
theorem dX4_owned_4 : decode cX4_owned 4 = .ok (.iconst 0, 1) := qd_p qo_3 (by decide +kernel)
theorem dX4_owned_5 : decode cX4_owned 5 = .ok (.istore_n 1, 1) := qd_p qo_60 (by decide +kernel)
theorem dX4_owned_6 : decode cX4_owned 6 = .ok (.iconst 0, 1) := qd_p qo_3 (by decide +kernel)
theorem dX4_owned_7 : decode cX4_owned 7 = .ok (.istore_n 2, 1) := qd_p qo_61 (by decide +kernel)
theorem dX4_owned_8 : decode cX4_owned 8 = .ok (.iload_n 2, 1) := qd_p qo_28 (by decide +kernel)
theorem dX4_owned_9 : decode cX4_owned 9 = .ok (.bipush 8, 2) := qz_s1 .bipush 8 qo_16 (by decide +kernel) rfl
theorem dX4_owned_11 : decode cX4_owned 11 = .ok (.if_icmp .ge 26, 3) := qz_s2 (.if_icmp .ge) 0 26 qo_162 (by decide +kernel) rfl
theorem dX4_owned_14 : decode cX4_owned 14 = .ok (.iload_n 1, 1) := qd_p qo_27 (by decide +kernel)
theorem dX4_owned_15 : decode cX4_owned 15 = .ok (.aload_n 0, 1) := qd_p qo_42 (by decide +kernel)
theorem dX4_owned_16 : decode cX4_owned 16 = .ok (.iload_n 2, 1) := qd_p qo_28 (by decide +kernel)
theorem dX4_owned_17 : decode cX4_owned 17 = .ok (.iconst 0, 1) := qd_p qo_3 (by decide +kernel)
theorem dX4_owned_18 : decode cX4_owned 18 = .ok (.invokevirtual 125, 3) := qz_2 .invokevirtual 0 125 qo_182 (by decide +kernel) rfl
theorem dX4_owned_21 : decode cX4_owned 21 = .ok (.ifCond .ge 7, 3) := qz_s2 (.ifCond .ge) 0 7 qo_156 (by decide +kernel) rfl
theorem dX4_owned_24 : decode cX4_owned 24 = .ok (.iconst 0, 1) := qd_p qo_3 (by decide +kernel)
theorem dX4_owned_25 : decode cX4_owned 25 = .ok (.goto 4, 3) := qz_s2 .goto 0 4 qo_167 (by decide +kernel) rfl
theorem dX4_owned_28 : decode cX4_owned 28 = .ok (.iconst 1, 1) := qd_p qo_4 (by decide +kernel)
theorem dX4_owned_29 : decode cX4_owned 29 = .ok (.iadd, 1) := qd_p qo_96 (by decide +kernel)
theorem dX4_owned_30 : decode cX4_owned 30 = .ok (.istore_n 1, 1) := qd_p qo_60 (by decide +kernel)
theorem dX4_owned_31 : decode cX4_owned 31 = .ok (.iinc 2 1, 3) := qd_i (x := 2) (y := 1) qo_132 (by decide +kernel) rfl
theorem dX4_owned_34 : decode cX4_owned 34 = .ok (.goto (-26), 3) := qz_s2 .goto 255 230 qo_167 (by decide +kernel) rfl
theorem dX4_owned_37 : decode cX4_owned 37 = .ok (.iload_n 1, 1) := qd_p qo_27 (by decide +kernel)
theorem dX4_owned_38 : decode cX4_owned 38 = .ok (.ireturn, 1) := qd_p qo_172 (by decide +kernel)
theorem dX4_feed_0 : decode cX4_feed 0 = .ok (.aload_n 0, 1) := qd_p qo_42 (by decide +kernel)
theorem dX4_feed_1 : decode cX4_feed 1 = .ok (.iconst 0, 1) := qd_p qo_3 (by decide +kernel)
theorem dX4_feed_2 : decode cX4_feed 2 = .ok (.putfield 70, 3) := qz_2 .putfield 0 70 qo_181 (by decide +kernel) rfl
theorem dX4_feed_5 : decode cX4_feed 5 = .ok (.iload_n 1, 1) := qd_p qo_27 (by decide +kernel)
theorem dX4_feed_6 : decode cX4_feed 6 = .ok (.ifCond .ge 10, 3) := qz_s2 (.ifCond .ge) 0 10 qo_156 (by decide +kernel) rfl
theorem dX4_feed_9 : decode cX4_feed 9 = .ok (.aload_n 0, 1) := qd_p qo_42 (by decide +kernel)
theorem dX4_feed_10 : decode cX4_feed 10 = .ok (.bipush (-4), 2) := qz_s1 .bipush 252 qo_16 (by decide +kernel) rfl
theorem dX4_feed_12 : decode cX4_feed 12 = .ok (.invokevirtual 143, 3) := qz_2 .invokevirtual 0 143 qo_182 (by decide +kernel) rfl
theorem dX4_feed_15 : decode cX4_feed 15 = .ok (.ireturn, 1) := qd_p qo_172 (by decide +kernel)
theorem dX4_feed_16 : decode cX4_feed 16 = .ok (.iload_n 1, 1) := qd_p qo_27 (by decide +kernel)
theorem dX4_feed_17 : decode cX4_feed 17 = .ok (.sipush 255, 3) := qz_s2 .sipush 0 255 qo_17 (by decide +kernel) rfl
theorem dX4_feed_20 : decode cX4_feed 20 = .ok (.if_icmp .gt 12, 3) := qz_s2 (.if_icmp .gt) 0 12 qo_163 (by decide +kernel) rfl
theorem dX4_feed_23 : decode cX4_feed 23 = .ok (.aload_n 0, 1) := qd_p qo_42 (by decide +kernel)
theorem dX4_feed_24 : decode cX4_feed 24 = .ok (.getfield 146, 3) := qz_2 .getfield 0 146 qo_180 (by decide +kernel) rfl
theorem dX4_feed_27 : decode cX4_feed 27 = .ok (.bipush 96, 2) := qz_s1 .bipush 96 qo_16 (by decide +kernel) rfl
theorem dX4_feed_29 : decode cX4_feed 29 = .ok (.if_icmp .ne 10, 3) := qz_s2 (.if_icmp .ne) 0 10 qo_160 (by decide +kernel) rfl
theorem dX4_feed_32 : decode cX4_feed 32 = .ok (.aload_n 0, 1) := qd_p qo_42 (by decide +kernel)
theorem dX4_feed_33 : decode cX4_feed 33 = .ok (.bipush (-6), 2) := qz_s1 .bipush 250 qo_16 (by decide +kernel) rfl
theorem dX4_feed_35 : decode cX4_feed 35 = .ok (.invokevirtual 143, 3) := qz_2 .invokevirtual 0 143 qo_182 (by decide +kernel) rfl
theorem dX4_feed_38 : decode cX4_feed 38 = .ok (.ireturn, 1) := qd_p qo_172 (by decide +kernel)
theorem dX4_feed_39 : decode cX4_feed 39 = .ok (.aload_n 0, 1) := qd_p qo_42 (by decide +kernel)
theorem dX4_feed_40 : decode cX4_feed 40 = .ok (.getfield 37, 3) := qz_2 .getfield 0 37 qo_180 (by decide +kernel) rfl
theorem dX4_feed_43 : decode cX4_feed 43 = .ok (.aload_n 0, 1) := qd_p qo_42 (by decide +kernel)
theorem dX4_feed_44 : decode cX4_feed 44 = .ok (.getfield 146, 3) := qz_2 .getfield 0 146 qo_180 (by decide +kernel) rfl
theorem dX4_feed_47 : decode cX4_feed 47 = .ok (.iload_n 1, 1) := qd_p qo_27 (by decide +kernel)
theorem dX4_feed_48 : decode cX4_feed 48 = .ok (.iastore, 1) := qd_p qo_79 (by decide +kernel)
theorem dX4_feed_49 : decode cX4_feed 49 = .ok (.aload_n 0, 1) := qd_p qo_42 (by decide +kernel)
theorem dX4_feed_50 : decode cX4_feed 50 = .ok (.dup, 1) := qd_p qo_89 (by decide +kernel)
theorem dX4_feed_51 : decode cX4_feed 51 = .ok (.getfield 146, 3) := qz_2 .getfield 0 146 qo_180 (by decide +kernel) rfl
theorem dX4_feed_54 : decode cX4_feed 54 = .ok (.iconst 1, 1) := qd_p qo_4 (by decide +kernel)
theorem dX4_feed_55 : decode cX4_feed 55 = .ok (.iadd, 1) := qd_p qo_96 (by decide +kernel)
theorem dX4_feed_56 : decode cX4_feed 56 = .ok (.putfield 146, 3) := qz_2 .putfield 0 146 qo_181 (by decide +kernel) rfl
theorem dX4_feed_59 : decode cX4_feed 59 = .ok (.aload_n 0, 1) := qd_p qo_42 (by decide +kernel)
theorem dX4_feed_60 : decode cX4_feed 60 = .ok (.getfield 146, 3) := qz_2 .getfield 0 146 qo_180 (by decide +kernel) rfl
theorem dX4_feed_63 : decode cX4_feed 63 = .ok (.ireturn, 1) := qd_p qo_172 (by decide +kernel)
theorem dX4_here_0 : decode cX4_here 0 = .ok (.aload_n 0, 1) := qd_p qo_42 (by decide +kernel)
theorem dX4_here_1 : decode cX4_here 1 = .ok (.getfield 149, 3) := qz_2 .getfield 0 149 qo_180 (by decide +kernel) rfl
theorem dX4_here_4 : decode cX4_here 4 = .ok (.aload_n 0, 1) := qd_p qo_42 (by decide +kernel)
theorem dX4_here_5 : decode cX4_here 5 = .ok (.getfield 146, 3) := qz_2 .getfield 0 146 qo_180 (by decide +kernel) rfl
theorem dX4_here_8 : decode cX4_here 8 = .ok (.if_icmp .ge 15, 3) := qz_s2 (.if_icmp .ge) 0 15 qo_162 (by decide +kernel) rfl
theorem dX4_here_11 : decode cX4_here 11 = .ok (.aload_n 0, 1) := qd_p qo_42 (by decide +kernel)
theorem dX4_here_12 : decode cX4_here 12 = .ok (.getfield 37, 3) := qz_2 .getfield 0 37 qo_180 (by decide +kernel) rfl
theorem dX4_here_15 : decode cX4_here 15 = .ok (.aload_n 0, 1) := qd_p qo_42 (by decide +kernel)
theorem dX4_here_16 : decode cX4_here 16 = .ok (.getfield 149, 3) := qz_2 .getfield 0 149 qo_180 (by decide +kernel) rfl
theorem dX4_here_19 : decode cX4_here 19 = .ok (.iaload, 1) := qd_p qo_46 (by decide +kernel)
theorem dX4_here_20 : decode cX4_here 20 = .ok (.goto 4, 3) := qz_s2 .goto 0 4 qo_167 (by decide +kernel) rfl
theorem dX4_here_23 : decode cX4_here 23 = .ok (.iconst (-1), 1) := qd_p qo_2 (by decide +kernel)
theorem dX4_here_24 : decode cX4_here 24 = .ok (.ireturn, 1) := qd_p qo_172 (by decide +kernel)
theorem dX4_readDigits_0 : decode cX4_readDigits 0 = .ok (.iconst 0, 1) := qd_p qo_3 (by decide +kernel)
theorem dX4_readDigits_1 : decode cX4_readDigits 1 = .ok (.istore_n 2, 1) := qd_p qo_61 (by decide +kernel)
theorem dX4_readDigits_2 : decode cX4_readDigits 2 = .ok (.iconst 0, 1) := qd_p qo_3 (by decide +kernel)
theorem dX4_readDigits_3 : decode cX4_readDigits 3 = .ok (.istore_n 3, 1) := qd_p qo_62 (by decide +kernel)
theorem dX4_readDigits_4 : decode cX4_readDigits 4 = .ok (.iload_n 3, 1) := qd_p qo_29 (by decide +kernel)
theorem dX4_readDigits_5 : decode cX4_readDigits 5 = .ok (.iload_n 1, 1) := qd_p qo_27 (by decide +kernel)
theorem dX4_readDigits_6 : decode cX4_readDigits 6 = .ok (.if_icmp .ge 92, 3) := qz_s2 (.if_icmp .ge) 0 92 qo_162 (by decide +kernel) rfl
theorem dX4_readDigits_9 : decode cX4_readDigits 9 = .ok (.aload_n 0, 1) := qd_p qo_42 (by decide +kernel)
theorem dX4_readDigits_10 : decode cX4_readDigits 10 = .ok (.aload_n 0, 1) := qd_p qo_42 (by decide +kernel)
theorem dX4_readDigits_11 : decode cX4_readDigits 11 = .ok (.getfield 152, 3) := qz_2 .getfield 0 152 qo_180 (by decide +kernel) rfl
theorem dX4_readDigits_14 : decode cX4_readDigits 14 = .ok (.ifCond .ne 20, 3) := qz_s2 (.ifCond .ne) 0 20 qo_154 (by decide +kernel) rfl
theorem dX4_readDigits_17 : decode cX4_readDigits 17 = .ok (.aload_n 0, 1) := qd_p qo_42 (by decide +kernel)
theorem dX4_readDigits_18 : decode cX4_readDigits 18 = .ok (.invokevirtual 156, 3) := qz_2 .invokevirtual 0 156 qo_182 (by decide +kernel) rfl
theorem dX4_readDigits_21 : decode cX4_readDigits 21 = .ok (.i2l, 1) := qd_p qo_133 (by decide +kernel)
theorem dX4_readDigits_22 : decode cX4_readDigits 22 = .ok (.ldc2_w 159, 3) := qz_2 .ldc2_w 0 159 qo_20 (by decide +kernel) rfl
theorem dX4_readDigits_25 : decode cX4_readDigits 25 = .ok (.ldc2_w 161, 3) := qz_2 .ldc2_w 0 161 qo_20 (by decide +kernel) rfl
theorem dX4_readDigits_28 : decode cX4_readDigits 28 = .ok (.invokestatic 77, 3) := qz_2 .invokestatic 0 77 qo_184 (by decide +kernel) rfl
theorem dX4_readDigits_31 : decode cX4_readDigits 31 = .ok (.ifCond .ne 7, 3) := qz_s2 (.ifCond .ne) 0 7 qo_154 (by decide +kernel) rfl
theorem dX4_readDigits_34 : decode cX4_readDigits 34 = .ok (.iconst 1, 1) := qd_p qo_4 (by decide +kernel)
theorem dX4_readDigits_35 : decode cX4_readDigits 35 = .ok (.goto 4, 3) := qz_s2 .goto 0 4 qo_167 (by decide +kernel) rfl
theorem dX4_readDigits_38 : decode cX4_readDigits 38 = .ok (.iconst 0, 1) := qd_p qo_3 (by decide +kernel)
theorem dX4_readDigits_39 : decode cX4_readDigits 39 = .ok (.putfield 152, 3) := qz_2 .putfield 0 152 qo_181 (by decide +kernel) rfl
theorem dX4_readDigits_42 : decode cX4_readDigits 42 = .ok (.aload_n 0, 1) := qd_p qo_42 (by decide +kernel)
theorem dX4_readDigits_43 : decode cX4_readDigits 43 = .ok (.getfield 152, 3) := qz_2 .getfield 0 152 qo_180 (by decide +kernel) rfl
theorem dX4_readDigits_46 : decode cX4_readDigits 46 = .ok (.ifCond .eq 7, 3) := qz_s2 (.ifCond .eq) 0 7 qo_153 (by decide +kernel) rfl
theorem dX4_readDigits_49 : decode cX4_readDigits 49 = .ok (.iconst 0, 1) := qd_p qo_3 (by decide +kernel)
theorem dX4_readDigits_50 : decode cX4_readDigits 50 = .ok (.goto 20, 3) := qz_s2 .goto 0 20 qo_167 (by decide +kernel) rfl
theorem dX4_readDigits_53 : decode cX4_readDigits 53 = .ok (.bipush 10, 2) := qz_s1 .bipush 10 qo_16 (by decide +kernel) rfl
theorem dX4_readDigits_55 : decode cX4_readDigits 55 = .ok (.iload_n 2, 1) := qd_p qo_28 (by decide +kernel)
theorem dX4_readDigits_56 : decode cX4_readDigits 56 = .ok (.imul, 1) := qd_p qo_104 (by decide +kernel)
theorem dX4_readDigits_57 : decode cX4_readDigits 57 = .ok (.aload_n 0, 1) := qd_p qo_42 (by decide +kernel)
theorem dX4_readDigits_58 : decode cX4_readDigits 58 = .ok (.getfield 37, 3) := qz_2 .getfield 0 37 qo_180 (by decide +kernel) rfl
theorem dX4_readDigits_61 : decode cX4_readDigits 61 = .ok (.aload_n 0, 1) := qd_p qo_42 (by decide +kernel)
theorem dX4_readDigits_62 : decode cX4_readDigits 62 = .ok (.getfield 149, 3) := qz_2 .getfield 0 149 qo_180 (by decide +kernel) rfl
theorem dX4_readDigits_65 : decode cX4_readDigits 65 = .ok (.iaload, 1) := qd_p qo_46 (by decide +kernel)
theorem dX4_readDigits_66 : decode cX4_readDigits 66 = .ok (.iadd, 1) := qd_p qo_96 (by decide +kernel)
theorem dX4_readDigits_67 : decode cX4_readDigits 67 = .ok (.bipush 48, 2) := qz_s1 .bipush 48 qo_16 (by decide +kernel) rfl
theorem dX4_readDigits_69 : decode cX4_readDigits 69 = .ok (.isub, 1) := qd_p qo_100 (by decide +kernel)
theorem dX4_readDigits_70 : decode cX4_readDigits 70 = .ok (.istore_n 2, 1) := qd_p qo_61 (by decide +kernel)
theorem dX4_readDigits_71 : decode cX4_readDigits 71 = .ok (.aload_n 0, 1) := qd_p qo_42 (by decide +kernel)
theorem dX4_readDigits_72 : decode cX4_readDigits 72 = .ok (.dup, 1) := qd_p qo_89 (by decide +kernel)
theorem dX4_readDigits_73 : decode cX4_readDigits 73 = .ok (.getfield 149, 3) := qz_2 .getfield 0 149 qo_180 (by decide +kernel) rfl
theorem dX4_readDigits_76 : decode cX4_readDigits 76 = .ok (.aload_n 0, 1) := qd_p qo_42 (by decide +kernel)
theorem dX4_readDigits_77 : decode cX4_readDigits 77 = .ok (.getfield 152, 3) := qz_2 .getfield 0 152 qo_180 (by decide +kernel) rfl
theorem dX4_readDigits_80 : decode cX4_readDigits 80 = .ok (.ifCond .eq 7, 3) := qz_s2 (.ifCond .eq) 0 7 qo_153 (by decide +kernel) rfl
theorem dX4_readDigits_83 : decode cX4_readDigits 83 = .ok (.iconst 0, 1) := qd_p qo_3 (by decide +kernel)
theorem dX4_readDigits_84 : decode cX4_readDigits 84 = .ok (.goto 4, 3) := qz_s2 .goto 0 4 qo_167 (by decide +kernel) rfl
theorem dX4_readDigits_87 : decode cX4_readDigits 87 = .ok (.iconst 1, 1) := qd_p qo_4 (by decide +kernel)
theorem dX4_readDigits_88 : decode cX4_readDigits 88 = .ok (.iadd, 1) := qd_p qo_96 (by decide +kernel)
theorem dX4_readDigits_89 : decode cX4_readDigits 89 = .ok (.putfield 149, 3) := qz_2 .putfield 0 149 qo_181 (by decide +kernel) rfl
theorem dX4_readDigits_92 : decode cX4_readDigits 92 = .ok (.iinc 3 1, 3) := qd_i (x := 3) (y := 1) qo_132 (by decide +kernel) rfl
theorem dX4_readDigits_95 : decode cX4_readDigits 95 = .ok (.goto (-91), 3) := qz_s2 .goto 255 165 qo_167 (by decide +kernel) rfl
theorem dX4_readDigits_98 : decode cX4_readDigits 98 = .ok (.iload_n 2, 1) := qd_p qo_28 (by decide +kernel)
theorem dX4_readDigits_99 : decode cX4_readDigits 99 = .ok (.ireturn, 1) := qd_p qo_172 (by decide +kernel)
theorem dX4_isLetter_0 : decode cX4_isLetter 0 = .ok (.iload_n 0, 1) := qd_p qo_26 (by decide +kernel)
theorem dX4_isLetter_1 : decode cX4_isLetter 1 = .ok (.bipush 112, 2) := qz_s1 .bipush 112 qo_16 (by decide +kernel) rfl
theorem dX4_isLetter_3 : decode cX4_isLetter 3 = .ok (.if_icmp .eq 39, 3) := qz_s2 (.if_icmp .eq) 0 39 qo_159 (by decide +kernel) rfl
theorem dX4_isLetter_6 : decode cX4_isLetter 6 = .ok (.iload_n 0, 1) := qd_p qo_26 (by decide +kernel)
theorem dX4_isLetter_7 : decode cX4_isLetter 7 = .ok (.bipush 108, 2) := qz_s1 .bipush 108 qo_16 (by decide +kernel) rfl
theorem dX4_isLetter_9 : decode cX4_isLetter 9 = .ok (.if_icmp .eq 33, 3) := qz_s2 (.if_icmp .eq) 0 33 qo_159 (by decide +kernel) rfl
theorem dX4_isLetter_12 : decode cX4_isLetter 12 = .ok (.iload_n 0, 1) := qd_p qo_26 (by decide +kernel)
theorem dX4_isLetter_13 : decode cX4_isLetter 13 = .ok (.bipush 115, 2) := qz_s1 .bipush 115 qo_16 (by decide +kernel) rfl
theorem dX4_isLetter_15 : decode cX4_isLetter 15 = .ok (.if_icmp .eq 27, 3) := qz_s2 (.if_icmp .eq) 0 27 qo_159 (by decide +kernel) rfl
theorem dX4_isLetter_18 : decode cX4_isLetter 18 = .ok (.iload_n 0, 1) := qd_p qo_26 (by decide +kernel)
theorem dX4_isLetter_19 : decode cX4_isLetter 19 = .ok (.bipush 118, 2) := qz_s1 .bipush 118 qo_16 (by decide +kernel) rfl
theorem dX4_isLetter_21 : decode cX4_isLetter 21 = .ok (.if_icmp .eq 21, 3) := qz_s2 (.if_icmp .eq) 0 21 qo_159 (by decide +kernel) rfl
theorem dX4_isLetter_24 : decode cX4_isLetter 24 = .ok (.iload_n 0, 1) := qd_p qo_26 (by decide +kernel)
theorem dX4_isLetter_25 : decode cX4_isLetter 25 = .ok (.bipush 119, 2) := qz_s1 .bipush 119 qo_16 (by decide +kernel) rfl
theorem dX4_isLetter_27 : decode cX4_isLetter 27 = .ok (.if_icmp .eq 15, 3) := qz_s2 (.if_icmp .eq) 0 15 qo_159 (by decide +kernel) rfl
theorem dX4_isLetter_30 : decode cX4_isLetter 30 = .ok (.iload_n 0, 1) := qd_p qo_26 (by decide +kernel)
theorem dX4_isLetter_31 : decode cX4_isLetter 31 = .ok (.bipush 117, 2) := qz_s1 .bipush 117 qo_16 (by decide +kernel) rfl
theorem dX4_isLetter_33 : decode cX4_isLetter 33 = .ok (.if_icmp .eq 9, 3) := qz_s2 (.if_icmp .eq) 0 9 qo_159 (by decide +kernel) rfl
theorem dX4_isLetter_36 : decode cX4_isLetter 36 = .ok (.iload_n 0, 1) := qd_p qo_26 (by decide +kernel)
theorem dX4_isLetter_37 : decode cX4_isLetter 37 = .ok (.bipush 100, 2) := qz_s1 .bipush 100 qo_16 (by decide +kernel) rfl
theorem dX4_isLetter_39 : decode cX4_isLetter 39 = .ok (.if_icmp .ne 7, 3) := qz_s2 (.if_icmp .ne) 0 7 qo_160 (by decide +kernel) rfl
theorem dX4_isLetter_42 : decode cX4_isLetter 42 = .ok (.iconst 1, 1) := qd_p qo_4 (by decide +kernel)
theorem dX4_isLetter_43 : decode cX4_isLetter 43 = .ok (.goto 4, 3) := qz_s2 .goto 0 4 qo_167 (by decide +kernel) rfl
theorem dX4_isLetter_46 : decode cX4_isLetter 46 = .ok (.iconst 0, 1) := qd_p qo_3 (by decide +kernel)
theorem dX4_isLetter_47 : decode cX4_isLetter 47 = .ok (.ireturn, 1) := qd_p qo_172 (by decide +kernel)
theorem dX4_readNumbers_0 : decode cX4_readNumbers 0 = .ok (.iload_n 1, 1) := qd_p qo_27 (by decide +kernel)
theorem dX4_readNumbers_1 : decode cX4_readNumbers 1 = .ok (.lookupswitch 138 #[(100, 124), (112, 43), (115, 57), (117, 110)], 43) := by decide +kernel
theorem dX4_readNumbers_44 : decode cX4_readNumbers 44 = .ok (.aload_n 0, 1) := qd_p qo_42 (by decide +kernel)
theorem dX4_readNumbers_45 : decode cX4_readNumbers 45 = .ok (.getfield 46, 3) := qz_2 .getfield 0 46 qo_180 (by decide +kernel) rfl
theorem dX4_readNumbers_48 : decode cX4_readNumbers 48 = .ok (.iload_n 2, 1) := qd_p qo_28 (by decide +kernel)
theorem dX4_readNumbers_49 : decode cX4_readNumbers 49 = .ok (.aload_n 0, 1) := qd_p qo_42 (by decide +kernel)
theorem dX4_readNumbers_50 : decode cX4_readNumbers 50 = .ok (.iconst 3, 1) := qd_p qo_6 (by decide +kernel)
theorem dX4_readNumbers_51 : decode cX4_readNumbers 51 = .ok (.invokevirtual 163, 3) := qz_2 .invokevirtual 0 163 qo_182 (by decide +kernel) rfl
theorem dX4_readNumbers_54 : decode cX4_readNumbers 54 = .ok (.iastore, 1) := qd_p qo_79 (by decide +kernel)
theorem dX4_readNumbers_55 : decode cX4_readNumbers 55 = .ok (.goto 108, 3) := qz_s2 .goto 0 108 qo_167 (by decide +kernel) rfl
theorem dX4_readNumbers_58 : decode cX4_readNumbers 58 = .ok (.aload_n 0, 1) := qd_p qo_42 (by decide +kernel)
theorem dX4_readNumbers_59 : decode cX4_readNumbers 59 = .ok (.getfield 46, 3) := qz_2 .getfield 0 46 qo_180 (by decide +kernel) rfl
theorem dX4_readNumbers_62 : decode cX4_readNumbers 62 = .ok (.iload_n 2, 1) := qd_p qo_28 (by decide +kernel)
theorem dX4_readNumbers_63 : decode cX4_readNumbers 63 = .ok (.aload_n 0, 1) := qd_p qo_42 (by decide +kernel)
theorem dX4_readNumbers_64 : decode cX4_readNumbers 64 = .ok (.iconst 1, 1) := qd_p qo_4 (by decide +kernel)
theorem dX4_readNumbers_65 : decode cX4_readNumbers 65 = .ok (.invokevirtual 163, 3) := qz_2 .invokevirtual 0 163 qo_182 (by decide +kernel) rfl
theorem dX4_readNumbers_68 : decode cX4_readNumbers 68 = .ok (.iastore, 1) := qd_p qo_79 (by decide +kernel)
theorem dX4_readNumbers_69 : decode cX4_readNumbers 69 = .ok (.aload_n 0, 1) := qd_p qo_42 (by decide +kernel)
theorem dX4_readNumbers_70 : decode cX4_readNumbers 70 = .ok (.getfield 46, 3) := qz_2 .getfield 0 46 qo_180 (by decide +kernel) rfl
theorem dX4_readNumbers_73 : decode cX4_readNumbers 73 = .ok (.iload_n 2, 1) := qd_p qo_28 (by decide +kernel)
theorem dX4_readNumbers_74 : decode cX4_readNumbers 74 = .ok (.iconst 1, 1) := qd_p qo_4 (by decide +kernel)
theorem dX4_readNumbers_75 : decode cX4_readNumbers 75 = .ok (.iadd, 1) := qd_p qo_96 (by decide +kernel)
theorem dX4_readNumbers_76 : decode cX4_readNumbers 76 = .ok (.aload_n 0, 1) := qd_p qo_42 (by decide +kernel)
theorem dX4_readNumbers_77 : decode cX4_readNumbers 77 = .ok (.iconst 2, 1) := qd_p qo_5 (by decide +kernel)
theorem dX4_readNumbers_78 : decode cX4_readNumbers 78 = .ok (.invokevirtual 163, 3) := qz_2 .invokevirtual 0 163 qo_182 (by decide +kernel) rfl
theorem dX4_readNumbers_81 : decode cX4_readNumbers 81 = .ok (.iastore, 1) := qd_p qo_79 (by decide +kernel)
theorem dX4_readNumbers_82 : decode cX4_readNumbers 82 = .ok (.aload_n 0, 1) := qd_p qo_42 (by decide +kernel)
theorem dX4_readNumbers_83 : decode cX4_readNumbers 83 = .ok (.getfield 46, 3) := qz_2 .getfield 0 46 qo_180 (by decide +kernel) rfl
theorem dX4_readNumbers_86 : decode cX4_readNumbers 86 = .ok (.iload_n 2, 1) := qd_p qo_28 (by decide +kernel)
theorem dX4_readNumbers_87 : decode cX4_readNumbers 87 = .ok (.iconst 2, 1) := qd_p qo_5 (by decide +kernel)
theorem dX4_readNumbers_88 : decode cX4_readNumbers 88 = .ok (.iadd, 1) := qd_p qo_96 (by decide +kernel)
theorem dX4_readNumbers_89 : decode cX4_readNumbers 89 = .ok (.aload_n 0, 1) := qd_p qo_42 (by decide +kernel)
theorem dX4_readNumbers_90 : decode cX4_readNumbers 90 = .ok (.iconst 2, 1) := qd_p qo_5 (by decide +kernel)
theorem dX4_readNumbers_91 : decode cX4_readNumbers 91 = .ok (.invokevirtual 163, 3) := qz_2 .invokevirtual 0 163 qo_182 (by decide +kernel) rfl
theorem dX4_readNumbers_94 : decode cX4_readNumbers 94 = .ok (.iastore, 1) := qd_p qo_79 (by decide +kernel)
theorem dX4_readNumbers_95 : decode cX4_readNumbers 95 = .ok (.aload_n 0, 1) := qd_p qo_42 (by decide +kernel)
theorem dX4_readNumbers_96 : decode cX4_readNumbers 96 = .ok (.getfield 46, 3) := qz_2 .getfield 0 46 qo_180 (by decide +kernel) rfl
theorem dX4_readNumbers_99 : decode cX4_readNumbers 99 = .ok (.iload_n 2, 1) := qd_p qo_28 (by decide +kernel)
theorem dX4_readNumbers_100 : decode cX4_readNumbers 100 = .ok (.iconst 3, 1) := qd_p qo_6 (by decide +kernel)
theorem dX4_readNumbers_101 : decode cX4_readNumbers 101 = .ok (.iadd, 1) := qd_p qo_96 (by decide +kernel)
theorem dX4_readNumbers_102 : decode cX4_readNumbers 102 = .ok (.aload_n 0, 1) := qd_p qo_42 (by decide +kernel)
theorem dX4_readNumbers_103 : decode cX4_readNumbers 103 = .ok (.iconst 1, 1) := qd_p qo_4 (by decide +kernel)
theorem dX4_readNumbers_104 : decode cX4_readNumbers 104 = .ok (.invokevirtual 163, 3) := qz_2 .invokevirtual 0 163 qo_182 (by decide +kernel) rfl
theorem dX4_readNumbers_107 : decode cX4_readNumbers 107 = .ok (.iastore, 1) := qd_p qo_79 (by decide +kernel)
theorem dX4_readNumbers_108 : decode cX4_readNumbers 108 = .ok (.goto 55, 3) := qz_s2 .goto 0 55 qo_167 (by decide +kernel) rfl
theorem dX4_readNumbers_111 : decode cX4_readNumbers 111 = .ok (.aload_n 0, 1) := qd_p qo_42 (by decide +kernel)
theorem dX4_readNumbers_112 : decode cX4_readNumbers 112 = .ok (.getfield 46, 3) := qz_2 .getfield 0 46 qo_180 (by decide +kernel) rfl
theorem dX4_readNumbers_115 : decode cX4_readNumbers 115 = .ok (.iload_n 2, 1) := qd_p qo_28 (by decide +kernel)
theorem dX4_readNumbers_116 : decode cX4_readNumbers 116 = .ok (.aload_n 0, 1) := qd_p qo_42 (by decide +kernel)
theorem dX4_readNumbers_117 : decode cX4_readNumbers 117 = .ok (.iconst 1, 1) := qd_p qo_4 (by decide +kernel)
theorem dX4_readNumbers_118 : decode cX4_readNumbers 118 = .ok (.invokevirtual 163, 3) := qz_2 .invokevirtual 0 163 qo_182 (by decide +kernel) rfl
theorem dX4_readNumbers_121 : decode cX4_readNumbers 121 = .ok (.iastore, 1) := qd_p qo_79 (by decide +kernel)
theorem dX4_readNumbers_122 : decode cX4_readNumbers 122 = .ok (.goto 41, 3) := qz_s2 .goto 0 41 qo_167 (by decide +kernel) rfl
theorem dX4_readNumbers_125 : decode cX4_readNumbers 125 = .ok (.aload_n 0, 1) := qd_p qo_42 (by decide +kernel)
theorem dX4_readNumbers_126 : decode cX4_readNumbers 126 = .ok (.getfield 46, 3) := qz_2 .getfield 0 46 qo_180 (by decide +kernel) rfl
theorem dX4_readNumbers_129 : decode cX4_readNumbers 129 = .ok (.iload_n 2, 1) := qd_p qo_28 (by decide +kernel)
theorem dX4_readNumbers_130 : decode cX4_readNumbers 130 = .ok (.aload_n 0, 1) := qd_p qo_42 (by decide +kernel)
theorem dX4_readNumbers_131 : decode cX4_readNumbers 131 = .ok (.iconst 2, 1) := qd_p qo_5 (by decide +kernel)
theorem dX4_readNumbers_132 : decode cX4_readNumbers 132 = .ok (.invokevirtual 163, 3) := qz_2 .invokevirtual 0 163 qo_182 (by decide +kernel) rfl
theorem dX4_readNumbers_135 : decode cX4_readNumbers 135 = .ok (.iastore, 1) := qd_p qo_79 (by decide +kernel)
theorem dX4_readNumbers_136 : decode cX4_readNumbers 136 = .ok (.goto 27, 3) := qz_s2 .goto 0 27 qo_167 (by decide +kernel) rfl
theorem dX4_readNumbers_139 : decode cX4_readNumbers 139 = .ok (.aload_n 0, 1) := qd_p qo_42 (by decide +kernel)
theorem dX4_readNumbers_140 : decode cX4_readNumbers 140 = .ok (.getfield 46, 3) := qz_2 .getfield 0 46 qo_180 (by decide +kernel) rfl
theorem dX4_readNumbers_143 : decode cX4_readNumbers 143 = .ok (.iload_n 2, 1) := qd_p qo_28 (by decide +kernel)
theorem dX4_readNumbers_144 : decode cX4_readNumbers 144 = .ok (.aload_n 0, 1) := qd_p qo_42 (by decide +kernel)
theorem dX4_readNumbers_145 : decode cX4_readNumbers 145 = .ok (.iconst 1, 1) := qd_p qo_4 (by decide +kernel)
theorem dX4_readNumbers_146 : decode cX4_readNumbers 146 = .ok (.invokevirtual 163, 3) := qz_2 .invokevirtual 0 163 qo_182 (by decide +kernel) rfl
theorem dX4_readNumbers_149 : decode cX4_readNumbers 149 = .ok (.iastore, 1) := qd_p qo_79 (by decide +kernel)
theorem dX4_readNumbers_150 : decode cX4_readNumbers 150 = .ok (.aload_n 0, 1) := qd_p qo_42 (by decide +kernel)
theorem dX4_readNumbers_151 : decode cX4_readNumbers 151 = .ok (.getfield 46, 3) := qz_2 .getfield 0 46 qo_180 (by decide +kernel) rfl
theorem dX4_readNumbers_154 : decode cX4_readNumbers 154 = .ok (.iload_n 2, 1) := qd_p qo_28 (by decide +kernel)
theorem dX4_readNumbers_155 : decode cX4_readNumbers 155 = .ok (.iconst 1, 1) := qd_p qo_4 (by decide +kernel)
theorem dX4_readNumbers_156 : decode cX4_readNumbers 156 = .ok (.iadd, 1) := qd_p qo_96 (by decide +kernel)
theorem dX4_readNumbers_157 : decode cX4_readNumbers 157 = .ok (.aload_n 0, 1) := qd_p qo_42 (by decide +kernel)
theorem dX4_readNumbers_158 : decode cX4_readNumbers 158 = .ok (.iconst 1, 1) := qd_p qo_4 (by decide +kernel)
theorem dX4_readNumbers_159 : decode cX4_readNumbers 159 = .ok (.invokevirtual 163, 3) := qz_2 .invokevirtual 0 163 qo_182 (by decide +kernel) rfl
theorem dX4_readNumbers_162 : decode cX4_readNumbers 162 = .ok (.iastore, 1) := qd_p qo_79 (by decide +kernel)
theorem dX4_readNumbers_163 : decode cX4_readNumbers 163 = .ok (.return_, 1) := qd_p qo_177 (by decide +kernel)
theorem dX4_readStatement_0 : decode cX4_readStatement 0 = .ok (.aload_n 0, 1) := qd_p qo_42 (by decide +kernel)
theorem dX4_readStatement_1 : decode cX4_readStatement 1 = .ok (.getfield 166, 3) := qz_2 .getfield 0 166 qo_180 (by decide +kernel) rfl
theorem dX4_readStatement_4 : decode cX4_readStatement 4 = .ok (.istore_n 1, 1) := qd_p qo_60 (by decide +kernel)
theorem dX4_readStatement_5 : decode cX4_readStatement 5 = .ok (.aload_n 0, 1) := qd_p qo_42 (by decide +kernel)
theorem dX4_readStatement_6 : decode cX4_readStatement 6 = .ok (.invokevirtual 156, 3) := qz_2 .invokevirtual 0 156 qo_182 (by decide +kernel) rfl
theorem dX4_readStatement_9 : decode cX4_readStatement 9 = .ok (.istore_n 2, 1) := qd_p qo_61 (by decide +kernel)
theorem dX4_readStatement_10 : decode cX4_readStatement 10 = .ok (.aload_n 0, 1) := qd_p qo_42 (by decide +kernel)
theorem dX4_readStatement_11 : decode cX4_readStatement 11 = .ok (.getfield 40, 3) := qz_2 .getfield 0 40 qo_180 (by decide +kernel) rfl
theorem dX4_readStatement_14 : decode cX4_readStatement 14 = .ok (.iload_n 1, 1) := qd_p qo_27 (by decide +kernel)
theorem dX4_readStatement_15 : decode cX4_readStatement 15 = .ok (.aload_n 0, 1) := qd_p qo_42 (by decide +kernel)
theorem dX4_readStatement_16 : decode cX4_readStatement 16 = .ok (.getfield 149, 3) := qz_2 .getfield 0 149 qo_180 (by decide +kernel) rfl
theorem dX4_readStatement_19 : decode cX4_readStatement 19 = .ok (.iastore, 1) := qd_p qo_79 (by decide +kernel)
theorem dX4_readStatement_20 : decode cX4_readStatement 20 = .ok (.aload_n 0, 1) := qd_p qo_42 (by decide +kernel)
theorem dX4_readStatement_21 : decode cX4_readStatement 21 = .ok (.getfield 43, 3) := qz_2 .getfield 0 43 qo_180 (by decide +kernel) rfl
theorem dX4_readStatement_24 : decode cX4_readStatement 24 = .ok (.iload_n 1, 1) := qd_p qo_27 (by decide +kernel)
theorem dX4_readStatement_25 : decode cX4_readStatement 25 = .ok (.iload_n 2, 1) := qd_p qo_28 (by decide +kernel)
theorem dX4_readStatement_26 : decode cX4_readStatement 26 = .ok (.iastore, 1) := qd_p qo_79 (by decide +kernel)
theorem dX4_readStatement_27 : decode cX4_readStatement 27 = .ok (.aload_n 0, 1) := qd_p qo_42 (by decide +kernel)
theorem dX4_readStatement_28 : decode cX4_readStatement 28 = .ok (.aload_n 0, 1) := qd_p qo_42 (by decide +kernel)
theorem dX4_readStatement_29 : decode cX4_readStatement 29 = .ok (.getfield 152, 3) := qz_2 .getfield 0 152 qo_180 (by decide +kernel) rfl
theorem dX4_readStatement_32 : decode cX4_readStatement 32 = .ok (.ifCond .ne 10, 3) := qz_s2 (.ifCond .ne) 0 10 qo_154 (by decide +kernel) rfl
theorem dX4_readStatement_35 : decode cX4_readStatement 35 = .ok (.iload_n 2, 1) := qd_p qo_28 (by decide +kernel)
theorem dX4_readStatement_36 : decode cX4_readStatement 36 = .ok (.invokestatic 169, 3) := qz_2 .invokestatic 0 169 qo_184 (by decide +kernel) rfl
theorem dX4_readStatement_39 : decode cX4_readStatement 39 = .ok (.ifCond .ne 7, 3) := qz_s2 (.ifCond .ne) 0 7 qo_154 (by decide +kernel) rfl
theorem dX4_readStatement_42 : decode cX4_readStatement 42 = .ok (.iconst 1, 1) := qd_p qo_4 (by decide +kernel)
theorem dX4_readStatement_43 : decode cX4_readStatement 43 = .ok (.goto 4, 3) := qz_s2 .goto 0 4 qo_167 (by decide +kernel) rfl
theorem dX4_readStatement_46 : decode cX4_readStatement 46 = .ok (.iconst 0, 1) := qd_p qo_3 (by decide +kernel)
theorem dX4_readStatement_47 : decode cX4_readStatement 47 = .ok (.putfield 152, 3) := qz_2 .putfield 0 152 qo_181 (by decide +kernel) rfl
theorem dX4_readStatement_50 : decode cX4_readStatement 50 = .ok (.aload_n 0, 1) := qd_p qo_42 (by decide +kernel)
theorem dX4_readStatement_51 : decode cX4_readStatement 51 = .ok (.dup, 1) := qd_p qo_89 (by decide +kernel)
theorem dX4_readStatement_52 : decode cX4_readStatement 52 = .ok (.getfield 149, 3) := qz_2 .getfield 0 149 qo_180 (by decide +kernel) rfl
theorem dX4_readStatement_55 : decode cX4_readStatement 55 = .ok (.aload_n 0, 1) := qd_p qo_42 (by decide +kernel)
theorem dX4_readStatement_56 : decode cX4_readStatement 56 = .ok (.getfield 152, 3) := qz_2 .getfield 0 152 qo_180 (by decide +kernel) rfl
theorem dX4_readStatement_59 : decode cX4_readStatement 59 = .ok (.ifCond .eq 7, 3) := qz_s2 (.ifCond .eq) 0 7 qo_153 (by decide +kernel) rfl
theorem dX4_readStatement_62 : decode cX4_readStatement 62 = .ok (.iconst 0, 1) := qd_p qo_3 (by decide +kernel)
theorem dX4_readStatement_63 : decode cX4_readStatement 63 = .ok (.goto 4, 3) := qz_s2 .goto 0 4 qo_167 (by decide +kernel) rfl
theorem dX4_readStatement_66 : decode cX4_readStatement 66 = .ok (.iconst 1, 1) := qd_p qo_4 (by decide +kernel)
theorem dX4_readStatement_67 : decode cX4_readStatement 67 = .ok (.iadd, 1) := qd_p qo_96 (by decide +kernel)
theorem dX4_readStatement_68 : decode cX4_readStatement 68 = .ok (.putfield 149, 3) := qz_2 .putfield 0 149 qo_181 (by decide +kernel) rfl
theorem dX4_readStatement_71 : decode cX4_readStatement 71 = .ok (.aload_n 0, 1) := qd_p qo_42 (by decide +kernel)
theorem dX4_readStatement_72 : decode cX4_readStatement 72 = .ok (.getfield 152, 3) := qz_2 .getfield 0 152 qo_180 (by decide +kernel) rfl
theorem dX4_readStatement_75 : decode cX4_readStatement 75 = .ok (.ifCond .ne 11, 3) := qz_s2 (.ifCond .ne) 0 11 qo_154 (by decide +kernel) rfl
theorem dX4_readStatement_78 : decode cX4_readStatement 78 = .ok (.aload_n 0, 1) := qd_p qo_42 (by decide +kernel)
theorem dX4_readStatement_79 : decode cX4_readStatement 79 = .ok (.iload_n 2, 1) := qd_p qo_28 (by decide +kernel)
theorem dX4_readStatement_80 : decode cX4_readStatement 80 = .ok (.iconst 4, 1) := qd_p qo_7 (by decide +kernel)
theorem dX4_readStatement_81 : decode cX4_readStatement 81 = .ok (.iload_n 1, 1) := qd_p qo_27 (by decide +kernel)
theorem dX4_readStatement_82 : decode cX4_readStatement 82 = .ok (.imul, 1) := qd_p qo_104 (by decide +kernel)
theorem dX4_readStatement_83 : decode cX4_readStatement 83 = .ok (.invokevirtual 172, 3) := qz_2 .invokevirtual 0 172 qo_182 (by decide +kernel) rfl
theorem dX4_readStatement_86 : decode cX4_readStatement 86 = .ok (.aload_n 0, 1) := qd_p qo_42 (by decide +kernel)
theorem dX4_readStatement_87 : decode cX4_readStatement 87 = .ok (.aload_n 0, 1) := qd_p qo_42 (by decide +kernel)
theorem dX4_readStatement_88 : decode cX4_readStatement 88 = .ok (.getfield 152, 3) := qz_2 .getfield 0 152 qo_180 (by decide +kernel) rfl
theorem dX4_readStatement_91 : decode cX4_readStatement 91 = .ok (.ifCond .ne 12, 3) := qz_s2 (.ifCond .ne) 0 12 qo_154 (by decide +kernel) rfl
theorem dX4_readStatement_94 : decode cX4_readStatement 94 = .ok (.aload_n 0, 1) := qd_p qo_42 (by decide +kernel)
theorem dX4_readStatement_95 : decode cX4_readStatement 95 = .ok (.invokevirtual 156, 3) := qz_2 .invokevirtual 0 156 qo_182 (by decide +kernel) rfl
theorem dX4_readStatement_98 : decode cX4_readStatement 98 = .ok (.bipush 59, 2) := qz_s1 .bipush 59 qo_16 (by decide +kernel) rfl
theorem dX4_readStatement_100 : decode cX4_readStatement 100 = .ok (.if_icmp .eq 7, 3) := qz_s2 (.if_icmp .eq) 0 7 qo_159 (by decide +kernel) rfl
theorem dX4_readStatement_103 : decode cX4_readStatement 103 = .ok (.iconst 1, 1) := qd_p qo_4 (by decide +kernel)
theorem dX4_readStatement_104 : decode cX4_readStatement 104 = .ok (.goto 4, 3) := qz_s2 .goto 0 4 qo_167 (by decide +kernel) rfl
theorem dX4_readStatement_107 : decode cX4_readStatement 107 = .ok (.iconst 0, 1) := qd_p qo_3 (by decide +kernel)
theorem dX4_readStatement_108 : decode cX4_readStatement 108 = .ok (.putfield 152, 3) := qz_2 .putfield 0 152 qo_181 (by decide +kernel) rfl
theorem dX4_readStatement_111 : decode cX4_readStatement 111 = .ok (.aload_n 0, 1) := qd_p qo_42 (by decide +kernel)
theorem dX4_readStatement_112 : decode cX4_readStatement 112 = .ok (.dup, 1) := qd_p qo_89 (by decide +kernel)
theorem dX4_readStatement_113 : decode cX4_readStatement 113 = .ok (.getfield 149, 3) := qz_2 .getfield 0 149 qo_180 (by decide +kernel) rfl
theorem dX4_readStatement_116 : decode cX4_readStatement 116 = .ok (.aload_n 0, 1) := qd_p qo_42 (by decide +kernel)
theorem dX4_readStatement_117 : decode cX4_readStatement 117 = .ok (.getfield 152, 3) := qz_2 .getfield 0 152 qo_180 (by decide +kernel) rfl
theorem dX4_readStatement_120 : decode cX4_readStatement 120 = .ok (.ifCond .eq 7, 3) := qz_s2 (.ifCond .eq) 0 7 qo_153 (by decide +kernel) rfl
theorem dX4_readStatement_123 : decode cX4_readStatement 123 = .ok (.iconst 0, 1) := qd_p qo_3 (by decide +kernel)
theorem dX4_readStatement_124 : decode cX4_readStatement 124 = .ok (.goto 4, 3) := qz_s2 .goto 0 4 qo_167 (by decide +kernel) rfl
theorem dX4_readStatement_127 : decode cX4_readStatement 127 = .ok (.iconst 1, 1) := qd_p qo_4 (by decide +kernel)
theorem dX4_readStatement_128 : decode cX4_readStatement 128 = .ok (.iadd, 1) := qd_p qo_96 (by decide +kernel)
theorem dX4_readStatement_129 : decode cX4_readStatement 129 = .ok (.putfield 149, 3) := qz_2 .putfield 0 149 qo_181 (by decide +kernel) rfl
theorem dX4_readStatement_132 : decode cX4_readStatement 132 = .ok (.aload_n 0, 1) := qd_p qo_42 (by decide +kernel)
theorem dX4_readStatement_133 : decode cX4_readStatement 133 = .ok (.dup, 1) := qd_p qo_89 (by decide +kernel)
theorem dX4_readStatement_134 : decode cX4_readStatement 134 = .ok (.getfield 166, 3) := qz_2 .getfield 0 166 qo_180 (by decide +kernel) rfl
theorem dX4_readStatement_137 : decode cX4_readStatement 137 = .ok (.iconst 1, 1) := qd_p qo_4 (by decide +kernel)
theorem dX4_readStatement_138 : decode cX4_readStatement 138 = .ok (.iadd, 1) := qd_p qo_96 (by decide +kernel)
theorem dX4_readStatement_139 : decode cX4_readStatement 139 = .ok (.putfield 166, 3) := qz_2 .putfield 0 166 qo_181 (by decide +kernel) rfl
theorem dX4_readStatement_142 : decode cX4_readStatement 142 = .ok (.return_, 1) := qd_p qo_177 (by decide +kernel)
theorem dX4_lookerComes_0 : decode cX4_lookerComes 0 = .ok (.aload_n 0, 1) := qd_p qo_42 (by decide +kernel)
theorem dX4_lookerComes_1 : decode cX4_lookerComes 1 = .ok (.getfield 16, 3) := qz_2 .getfield 0 16 qo_180 (by decide +kernel) rfl
theorem dX4_lookerComes_4 : decode cX4_lookerComes 4 = .ok (.aload_n 0, 1) := qd_p qo_42 (by decide +kernel)
theorem dX4_lookerComes_5 : decode cX4_lookerComes 5 = .ok (.getfield 74, 3) := qz_2 .getfield 0 74 qo_180 (by decide +kernel) rfl
theorem dX4_lookerComes_8 : decode cX4_lookerComes 8 = .ok (.iload_n 1, 1) := qd_p qo_27 (by decide +kernel)
theorem dX4_lookerComes_9 : decode cX4_lookerComes 9 = .ok (.iastore, 1) := qd_p qo_79 (by decide +kernel)
theorem dX4_lookerComes_10 : decode cX4_lookerComes 10 = .ok (.aload_n 0, 1) := qd_p qo_42 (by decide +kernel)
theorem dX4_lookerComes_11 : decode cX4_lookerComes 11 = .ok (.getfield 19, 3) := qz_2 .getfield 0 19 qo_180 (by decide +kernel) rfl
theorem dX4_lookerComes_14 : decode cX4_lookerComes 14 = .ok (.aload_n 0, 1) := qd_p qo_42 (by decide +kernel)
theorem dX4_lookerComes_15 : decode cX4_lookerComes 15 = .ok (.getfield 74, 3) := qz_2 .getfield 0 74 qo_180 (by decide +kernel) rfl
theorem dX4_lookerComes_18 : decode cX4_lookerComes 18 = .ok (.iload_n 2, 1) := qd_p qo_28 (by decide +kernel)
theorem dX4_lookerComes_19 : decode cX4_lookerComes 19 = .ok (.iastore, 1) := qd_p qo_79 (by decide +kernel)
theorem dX4_lookerComes_20 : decode cX4_lookerComes 20 = .ok (.iconst 0, 1) := qd_p qo_3 (by decide +kernel)
theorem dX4_lookerComes_21 : decode cX4_lookerComes 21 = .ok (.istore_n 3, 1) := qd_p qo_62 (by decide +kernel)
theorem dX4_lookerComes_22 : decode cX4_lookerComes 22 = .ok (.iload_n 3, 1) := qd_p qo_29 (by decide +kernel)
theorem dX4_lookerComes_23 : decode cX4_lookerComes 23 = .ok (.bipush 24, 2) := qz_s1 .bipush 24 qo_16 (by decide +kernel) rfl
theorem dX4_lookerComes_25 : decode cX4_lookerComes 25 = .ok (.if_icmp .ge 25, 3) := qz_s2 (.if_icmp .ge) 0 25 qo_162 (by decide +kernel) rfl
theorem dX4_lookerComes_28 : decode cX4_lookerComes 28 = .ok (.aload_n 0, 1) := qd_p qo_42 (by decide +kernel)
theorem dX4_lookerComes_29 : decode cX4_lookerComes 29 = .ok (.getfield 22, 3) := qz_2 .getfield 0 22 qo_180 (by decide +kernel) rfl
theorem dX4_lookerComes_32 : decode cX4_lookerComes 32 = .ok (.bipush 24, 2) := qz_s1 .bipush 24 qo_16 (by decide +kernel) rfl
theorem dX4_lookerComes_34 : decode cX4_lookerComes 34 = .ok (.aload_n 0, 1) := qd_p qo_42 (by decide +kernel)
theorem dX4_lookerComes_35 : decode cX4_lookerComes 35 = .ok (.getfield 74, 3) := qz_2 .getfield 0 74 qo_180 (by decide +kernel) rfl
theorem dX4_lookerComes_38 : decode cX4_lookerComes 38 = .ok (.imul, 1) := qd_p qo_104 (by decide +kernel)
theorem dX4_lookerComes_39 : decode cX4_lookerComes 39 = .ok (.iload_n 3, 1) := qd_p qo_29 (by decide +kernel)
theorem dX4_lookerComes_40 : decode cX4_lookerComes 40 = .ok (.iadd, 1) := qd_p qo_96 (by decide +kernel)
theorem dX4_lookerComes_41 : decode cX4_lookerComes 41 = .ok (.bipush (-9), 2) := qz_s1 .bipush 247 qo_16 (by decide +kernel) rfl
theorem dX4_lookerComes_43 : decode cX4_lookerComes 43 = .ok (.iastore, 1) := qd_p qo_79 (by decide +kernel)
theorem dX4_lookerComes_44 : decode cX4_lookerComes 44 = .ok (.iinc 3 1, 3) := qd_i (x := 3) (y := 1) qo_132 (by decide +kernel) rfl
theorem dX4_lookerComes_47 : decode cX4_lookerComes 47 = .ok (.goto (-25), 3) := qz_s2 .goto 255 231 qo_167 (by decide +kernel) rfl
theorem dX4_lookerComes_50 : decode cX4_lookerComes 50 = .ok (.iconst 0, 1) := qd_p qo_3 (by decide +kernel)
theorem dX4_lookerComes_51 : decode cX4_lookerComes 51 = .ok (.istore_n 3, 1) := qd_p qo_62 (by decide +kernel)
theorem dX4_lookerComes_52 : decode cX4_lookerComes 52 = .ok (.iload_n 3, 1) := qd_p qo_29 (by decide +kernel)
theorem dX4_lookerComes_53 : decode cX4_lookerComes 53 = .ok (.bipush 8, 2) := qz_s1 .bipush 8 qo_16 (by decide +kernel) rfl
theorem dX4_lookerComes_55 : decode cX4_lookerComes 55 = .ok (.if_icmp .ge 24, 3) := qz_s2 (.if_icmp .ge) 0 24 qo_162 (by decide +kernel) rfl
theorem dX4_lookerComes_58 : decode cX4_lookerComes 58 = .ok (.aload_n 0, 1) := qd_p qo_42 (by decide +kernel)
theorem dX4_lookerComes_59 : decode cX4_lookerComes 59 = .ok (.getfield 25, 3) := qz_2 .getfield 0 25 qo_180 (by decide +kernel) rfl
theorem dX4_lookerComes_62 : decode cX4_lookerComes 62 = .ok (.bipush 8, 2) := qz_s1 .bipush 8 qo_16 (by decide +kernel) rfl
theorem dX4_lookerComes_64 : decode cX4_lookerComes 64 = .ok (.aload_n 0, 1) := qd_p qo_42 (by decide +kernel)
theorem dX4_lookerComes_65 : decode cX4_lookerComes 65 = .ok (.getfield 74, 3) := qz_2 .getfield 0 74 qo_180 (by decide +kernel) rfl
theorem dX4_lookerComes_68 : decode cX4_lookerComes 68 = .ok (.imul, 1) := qd_p qo_104 (by decide +kernel)
theorem dX4_lookerComes_69 : decode cX4_lookerComes 69 = .ok (.iload_n 3, 1) := qd_p qo_29 (by decide +kernel)
theorem dX4_lookerComes_70 : decode cX4_lookerComes 70 = .ok (.iadd, 1) := qd_p qo_96 (by decide +kernel)
theorem dX4_lookerComes_71 : decode cX4_lookerComes 71 = .ok (.iconst 0, 1) := qd_p qo_3 (by decide +kernel)
theorem dX4_lookerComes_72 : decode cX4_lookerComes 72 = .ok (.iastore, 1) := qd_p qo_79 (by decide +kernel)
theorem dX4_lookerComes_73 : decode cX4_lookerComes 73 = .ok (.iinc 3 1, 3) := qd_i (x := 3) (y := 1) qo_132 (by decide +kernel) rfl
theorem dX4_lookerComes_76 : decode cX4_lookerComes 76 = .ok (.goto (-24), 3) := qz_s2 .goto 255 232 qo_167 (by decide +kernel) rfl
theorem dX4_lookerComes_79 : decode cX4_lookerComes 79 = .ok (.aload_n 0, 1) := qd_p qo_42 (by decide +kernel)
theorem dX4_lookerComes_80 : decode cX4_lookerComes 80 = .ok (.dup, 1) := qd_p qo_89 (by decide +kernel)
theorem dX4_lookerComes_81 : decode cX4_lookerComes 81 = .ok (.getfield 74, 3) := qz_2 .getfield 0 74 qo_180 (by decide +kernel) rfl
theorem dX4_lookerComes_84 : decode cX4_lookerComes 84 = .ok (.iconst 1, 1) := qd_p qo_4 (by decide +kernel)
theorem dX4_lookerComes_85 : decode cX4_lookerComes 85 = .ok (.iadd, 1) := qd_p qo_96 (by decide +kernel)
theorem dX4_lookerComes_86 : decode cX4_lookerComes 86 = .ok (.putfield 74, 3) := qz_2 .putfield 0 74 qo_181 (by decide +kernel) rfl
theorem dX4_lookerComes_89 : decode cX4_lookerComes 89 = .ok (.return_, 1) := qd_p qo_177 (by decide +kernel)
theorem dX4_stand_0 : decode cX4_stand 0 = .ok (.iload_n 2, 1) := qd_p qo_28 (by decide +kernel)
theorem dX4_stand_1 : decode cX4_stand 1 = .ok (.istore 5, 2) := qz_1 .istore 5 qo_54 (by decide +kernel)
theorem dX4_stand_3 : decode cX4_stand 3 = .ok (.iload 5, 2) := qz_1 .iload 5 qo_21 (by decide +kernel)
theorem dX4_stand_5 : decode cX4_stand 5 = .ok (.iload_n 3, 1) := qd_p qo_29 (by decide +kernel)
theorem dX4_stand_6 : decode cX4_stand 6 = .ok (.if_icmp .gt 35, 3) := qz_s2 (.if_icmp .gt) 0 35 qo_163 (by decide +kernel) rfl
theorem dX4_stand_9 : decode cX4_stand 9 = .ok (.aload_n 0, 1) := qd_p qo_42 (by decide +kernel)
theorem dX4_stand_10 : decode cX4_stand 10 = .ok (.getfield 22, 3) := qz_2 .getfield 0 22 qo_180 (by decide +kernel) rfl
theorem dX4_stand_13 : decode cX4_stand 13 = .ok (.bipush 24, 2) := qz_s1 .bipush 24 qo_16 (by decide +kernel) rfl
theorem dX4_stand_15 : decode cX4_stand 15 = .ok (.iload_n 1, 1) := qd_p qo_27 (by decide +kernel)
theorem dX4_stand_16 : decode cX4_stand 16 = .ok (.imul, 1) := qd_p qo_104 (by decide +kernel)
theorem dX4_stand_17 : decode cX4_stand 17 = .ok (.iload 5, 2) := qz_1 .iload 5 qo_21 (by decide +kernel)
theorem dX4_stand_19 : decode cX4_stand 19 = .ok (.iadd, 1) := qd_p qo_96 (by decide +kernel)
theorem dX4_stand_20 : decode cX4_stand 20 = .ok (.iload 4, 2) := qz_1 .iload 4 qo_21 (by decide +kernel)
theorem dX4_stand_22 : decode cX4_stand 22 = .ok (.bipush 9, 2) := qz_s1 .bipush 9 qo_16 (by decide +kernel) rfl
theorem dX4_stand_24 : decode cX4_stand 24 = .ok (.if_icmp .ne 8, 3) := qz_s2 (.if_icmp .ne) 0 8 qo_160 (by decide +kernel) rfl
theorem dX4_stand_27 : decode cX4_stand 27 = .ok (.bipush (-9), 2) := qz_s1 .bipush 247 qo_16 (by decide +kernel) rfl
theorem dX4_stand_29 : decode cX4_stand 29 = .ok (.goto 5, 3) := qz_s2 .goto 0 5 qo_167 (by decide +kernel) rfl
theorem dX4_stand_32 : decode cX4_stand 32 = .ok (.iload 4, 2) := qz_1 .iload 4 qo_21 (by decide +kernel)
theorem dX4_stand_34 : decode cX4_stand 34 = .ok (.iastore, 1) := qd_p qo_79 (by decide +kernel)
theorem dX4_stand_35 : decode cX4_stand 35 = .ok (.iinc 5 1, 3) := qd_i (x := 5) (y := 1) qo_132 (by decide +kernel) rfl
theorem dX4_stand_38 : decode cX4_stand 38 = .ok (.goto (-35), 3) := qz_s2 .goto 255 221 qo_167 (by decide +kernel) rfl
theorem dX4_stand_41 : decode cX4_stand 41 = .ok (.return_, 1) := qd_p qo_177 (by decide +kernel)
section
variable {p : Program} {l : Launch} {e : Env} {s : State} {m : MethodId} {args : Array Value} {below : List Frame} {meth : Method} {c : Code} {D : va_G} {tI tII : ClassId} {B : Nat}
set_option maxHeartbeats 4000000 in
set_option maxRecDepth 100000 in
theorem w_X4_ownerLooked_96 (C : wt_C p s m args meth c RX4 cX4_ownerLooked 6 (some .int) D tI tII) {F : Nat} {k13 : Int32 → Int32 → Int32 → Int32 → Int32 → Mem → Option (Int32 × Mem)} {x1 : Int32} {x3 : Int32} {x4 : Int32} {x5 : Int32} {t0 : Int32} {σ : Mem} {r : Int32} {σ' : Mem} {H : Heap} {locs : List Loc} {ls : Array Slot} (hk13 : ∀ (x1 : Int32) (x2 : Int32) (x3 : Int32) (x4 : Int32) (x5 : Int32) (σ : Mem) (H : Heap) (locs : List Loc) (ls : Array Slot), k13 x1 x2 x3 x4 x5 σ = some (r, σ') → wt_St D tI tII B σ s H locs → lv_has ls 6 [(0, .ref (B + 101)), (1, .int x1), (2, .int x2), (3, .int x3), (4, .int x4), (5, .int x5)] → W p l e rm_X4_ownerLooked s m args below meth c H locs 0 0 (MQ below (wt_Qi D tI tII B r σ') args s 0 0 (fun q => B ≤ q)) (F0 m 13 ls [])) (hf : j_X4_ownerLooked_96 F k13 x1 x3 x4 x5 t0 σ = some (r, σ')) (hM : wt_St D tI tII B σ s H locs) (hl : lv_has ls 6 [(0, .ref (B + 101)), (1, .int x1), (3, .int x3), (4, .int x4), (5, .int x5)]) : W p l e rm_X4_ownerLooked s m args below meth c H locs 0 0 (MQ below (wt_Qi D tI tII B r σ') args s 0 0 (fun q => B ≤ q)) (F0 m 96 ls [.int t0]) := by
  obtain ⟨hx, hb, hts, hown, hml, hr, hlk, hK⟩ := id C
  replace hf := Eq.trans j_X4_ownerLooked_96_e.symm hf
  refine lv_istore_n (lv' := [(2, .int t0), (0, .ref (B + 101)), (1, .int x1), (3, .int x3), (4, .int x4), (5, .int x5)]) hx hb dX4_ownerLooked_96 rfl hl (by decide) rfl (fun ls hl => ?_)
  refine lv_iload_n hx hb dX4_ownerLooked_97 rfl (lv_at hl 3 rfl) ?_
  refine lv_aload_n hx hb dX4_ownerLooked_98 rfl (lv_at hl 1 rfl) ?_
  refine gf_X4_looked  hx hb hts hown hK hM tw_723 dX4_ownerLooked_99 ?_
  refine lv_iload hx hb dX4_ownerLooked_102 (lv_at hl 5 rfl) ?_
  obtain ⟨i1, hf⟩ := wt_chk_of hf
  refine wt_ild hx hb hK hM wt_a110 i1 dX4_ownerLooked_104 ?_
  refine lv_iadd hx hb dX4_ownerLooked_105 ?_
  refine wt_leti hf (fun z2 hf => ?_)
  refine lv_istore_n (lv' := [(3, .int z2), (2, .int t0), (0, .ref (B + 101)), (1, .int x1), (4, .int x4), (5, .int x5)]) hx hb dX4_ownerLooked_106 rfl hl (by decide) rfl (fun ls hl => ?_)
  refine lv_iinc (v := (x5 + (1 : Int32))) (lv' := [(5, .int (x5 + (1 : Int32))), (3, .int z2), (2, .int t0), (0, .ref (B + 101)), (1, .int x1), (4, .int x4)]) hx hb dX4_ownerLooked_107 hl (k := 5) rfl rfl (by decide) rfl (fun ls hl => ?_)
  refine lv_goto (tgt := 13) hx hb dX4_ownerLooked_110 (by decide) ?_
  exact hk13 _ _ _ _ _ _ _ _ _ hf hM (lv_sub hl [3, 4, 2, 1, 5, 0] rfl)
set_option maxHeartbeats 4000000 in
set_option maxRecDepth 100000 in
theorem w_X4_ownerLooked_73 (C : wt_C p s m args meth c RX4 cX4_ownerLooked 6 (some .int) D tI tII) {F : Nat} {k13 : Int32 → Int32 → Int32 → Int32 → Int32 → Mem → Option (Int32 × Mem)} {x2 : Int32} {x3 : Int32} {x4 : Int32} {x5 : Int32} {t0 : Int32} {σ : Mem} {r : Int32} {σ' : Mem} {H : Heap} {locs : List Loc} {ls : Array Slot} (hk13 : ∀ (x1 : Int32) (x2 : Int32) (x3 : Int32) (x4 : Int32) (x5 : Int32) (σ : Mem) (H : Heap) (locs : List Loc) (ls : Array Slot), k13 x1 x2 x3 x4 x5 σ = some (r, σ') → wt_St D tI tII B σ s H locs → lv_has ls 6 [(0, .ref (B + 101)), (1, .int x1), (2, .int x2), (3, .int x3), (4, .int x4), (5, .int x5)] → W p l e rm_X4_ownerLooked s m args below meth c H locs 0 0 (MQ below (wt_Qi D tI tII B r σ') args s 0 0 (fun q => B ≤ q)) (F0 m 13 ls [])) (hf : j_X4_ownerLooked_73 F k13 x2 x3 x4 x5 t0 σ = some (r, σ')) (hM : wt_St D tI tII B σ s H locs) (hl : lv_has ls 6 [(0, .ref (B + 101)), (2, .int x2), (3, .int x3), (4, .int x4), (5, .int x5)]) : W p l e rm_X4_ownerLooked s m args below meth c H locs 0 0 (MQ below (wt_Qi D tI tII B r σ') args s 0 0 (fun q => B ≤ q)) (F0 m 73 ls [.int t0]) := by
  obtain ⟨hx, hb, hts, hown, hml, hr, hlk, hK⟩ := id C
  replace hf := Eq.trans j_X4_ownerLooked_73_e.symm hf
  refine lv_istore_n (lv' := [(1, .int t0), (0, .ref (B + 101)), (2, .int x2), (3, .int x3), (4, .int x4), (5, .int x5)]) hx hb dX4_ownerLooked_73 rfl hl (by decide) rfl (fun ls hl => ?_)
  refine lv_aload_n hx hb dX4_ownerLooked_74 rfl (lv_at hl 1 rfl) ?_
  refine gf_X4_looked  hx hb hts hown hK hM tw_723 dX4_ownerLooked_75 ?_
  refine lv_iload hx hb dX4_ownerLooked_78 (lv_at hl 5 rfl) ?_
  obtain ⟨i3, hf⟩ := wt_chk_of hf
  refine wt_ild hx hb hK hM wt_a110 i3 dX4_ownerLooked_80 ?_
  refine lv_iload_n hx hb dX4_ownerLooked_81 rfl (lv_at hl 2 rfl) ?_
  refine wq_icmp_le (tgt := 95) hx hb dX4_ownerLooked_82 (by decide) hf (fun hf => ?_) (fun hf => ?_)
  · refine lv_iload_n hx hb dX4_ownerLooked_95 rfl (lv_at hl 2 rfl) ?_
    exact w_X4_ownerLooked_96 C hk13 hf hM (lv_sub hl [1, 0, 3, 4, 5] rfl)
  refine lv_aload_n hx hb dX4_ownerLooked_85 rfl (lv_at hl 1 rfl) ?_
  refine gf_X4_looked  hx hb hts hown hK hM tw_723 dX4_ownerLooked_86 ?_
  refine lv_iload hx hb dX4_ownerLooked_89 (lv_at hl 5 rfl) ?_
  refine wt_ild hx hb hK hM wt_a110 i3 dX4_ownerLooked_91 ?_
  refine lv_goto (tgt := 96) hx hb dX4_ownerLooked_92 (by decide) ?_
  exact w_X4_ownerLooked_96 C hk13 hf hM (lv_sub hl [1, 0, 3, 4, 5] rfl)
set_option maxHeartbeats 4000000 in
set_option maxRecDepth 100000 in
theorem w_X4_ownerLooked_54 (C : wt_C p s m args meth c RX4 cX4_ownerLooked 6 (some .int) D tI tII) {F : Nat} {k13 : Int32 → Int32 → Int32 → Int32 → Int32 → Mem → Option (Int32 × Mem)} {x1 : Int32} {x2 : Int32} {x3 : Int32} {x5 : Int32} {t0 : Int32} {σ : Mem} {r : Int32} {σ' : Mem} {H : Heap} {locs : List Loc} {ls : Array Slot} (hk13 : ∀ (x1 : Int32) (x2 : Int32) (x3 : Int32) (x4 : Int32) (x5 : Int32) (σ : Mem) (H : Heap) (locs : List Loc) (ls : Array Slot), k13 x1 x2 x3 x4 x5 σ = some (r, σ') → wt_St D tI tII B σ s H locs → lv_has ls 6 [(0, .ref (B + 101)), (1, .int x1), (2, .int x2), (3, .int x3), (4, .int x4), (5, .int x5)] → W p l e rm_X4_ownerLooked s m args below meth c H locs 0 0 (MQ below (wt_Qi D tI tII B r σ') args s 0 0 (fun q => B ≤ q)) (F0 m 13 ls [])) (hf : j_X4_ownerLooked_54 F k13 x1 x2 x3 x5 t0 σ = some (r, σ')) (hM : wt_St D tI tII B σ s H locs) (hl : lv_has ls 6 [(0, .ref (B + 101)), (1, .int x1), (2, .int x2), (3, .int x3), (5, .int x5)]) : W p l e rm_X4_ownerLooked s m args below meth c H locs 0 0 (MQ below (wt_Qi D tI tII B r σ') args s 0 0 (fun q => B ≤ q)) (F0 m 54 ls [.int t0]) := by
  obtain ⟨hx, hb, hts, hown, hml, hr, hlk, hK⟩ := id C
  replace hf := Eq.trans j_X4_ownerLooked_54_e.symm hf
  refine lv_istore (lv' := [(4, .int t0), (0, .ref (B + 101)), (1, .int x1), (2, .int x2), (3, .int x3), (5, .int x5)]) hx hb dX4_ownerLooked_54 hl (by decide) rfl (fun ls hl => ?_)
  refine lv_aload_n hx hb dX4_ownerLooked_56 rfl (lv_at hl 1 rfl) ?_
  refine gf_X4_looked  hx hb hts hown hK hM tw_723 dX4_ownerLooked_57 ?_
  refine lv_iload hx hb dX4_ownerLooked_60 (lv_at hl 5 rfl) ?_
  obtain ⟨i4, hf⟩ := wt_chk_of hf
  refine wt_ild hx hb hK hM wt_a110 i4 dX4_ownerLooked_62 ?_
  refine lv_iload_n hx hb dX4_ownerLooked_63 rfl (lv_at hl 3 rfl) ?_
  refine wq_icmp_le (tgt := 72) hx hb dX4_ownerLooked_64 (by decide) hf (fun hf => ?_) (fun hf => ?_)
  · refine lv_iload_n hx hb dX4_ownerLooked_72 rfl (lv_at hl 2 rfl) ?_
    exact w_X4_ownerLooked_73 C hk13 hf hM (lv_sub hl [1, 3, 4, 0, 5] rfl)
  refine lv_iload hx hb dX4_ownerLooked_67 (lv_at hl 5 rfl) ?_
  refine lv_goto (tgt := 73) hx hb dX4_ownerLooked_69 (by decide) ?_
  exact w_X4_ownerLooked_73 C hk13 hf hM (lv_sub hl [1, 3, 4, 0, 5] rfl)
set_option maxHeartbeats 4000000 in
set_option maxRecDepth 100000 in
theorem w_X4_ownerLooked_49 (C : wt_C p s m args meth c RX4 cX4_ownerLooked 6 (some .int) D tI tII) {F : Nat} {k13 : Int32 → Int32 → Int32 → Int32 → Int32 → Mem → Option (Int32 × Mem)} {x1 : Int32} {x2 : Int32} {x3 : Int32} {x5 : Int32} {σ : Mem} {r : Int32} {σ' : Mem} {H : Heap} {locs : List Loc} {ls : Array Slot} (hk13 : ∀ (x1 : Int32) (x2 : Int32) (x3 : Int32) (x4 : Int32) (x5 : Int32) (σ : Mem) (H : Heap) (locs : List Loc) (ls : Array Slot), k13 x1 x2 x3 x4 x5 σ = some (r, σ') → wt_St D tI tII B σ s H locs → lv_has ls 6 [(0, .ref (B + 101)), (1, .int x1), (2, .int x2), (3, .int x3), (4, .int x4), (5, .int x5)] → W p l e rm_X4_ownerLooked s m args below meth c H locs 0 0 (MQ below (wt_Qi D tI tII B r σ') args s 0 0 (fun q => B ≤ q)) (F0 m 13 ls [])) (hf : j_X4_ownerLooked_49 F k13 x1 x2 x3 x5 σ = some (r, σ')) (hM : wt_St D tI tII B σ s H locs) (hl : lv_has ls 6 [(0, .ref (B + 101)), (1, .int x1), (2, .int x2), (3, .int x3), (5, .int x5)]) : W p l e rm_X4_ownerLooked s m args below meth c H locs 0 0 (MQ below (wt_Qi D tI tII B r σ') args s 0 0 (fun q => B ≤ q)) (F0 m 49 ls []) := by
  obtain ⟨hx, hb, hts, hown, hml, hr, hlk, hK⟩ := id C
  replace hf := Eq.trans j_X4_ownerLooked_49_e.symm hf
  refine lv_iconst (v := 1) hx hb dX4_ownerLooked_49 (by decide) ?_
  refine lv_goto (tgt := 54) hx hb dX4_ownerLooked_50 (by decide) ?_
  exact w_X4_ownerLooked_54 C hk13 hf hM hl
set_option maxHeartbeats 4000000 in
set_option maxRecDepth 100000 in
theorem w_X4_ownerLooked_53 (C : wt_C p s m args meth c RX4 cX4_ownerLooked 6 (some .int) D tI tII) {F : Nat} {k13 : Int32 → Int32 → Int32 → Int32 → Int32 → Mem → Option (Int32 × Mem)} {x1 : Int32} {x2 : Int32} {x3 : Int32} {x5 : Int32} {σ : Mem} {r : Int32} {σ' : Mem} {H : Heap} {locs : List Loc} {ls : Array Slot} (hk13 : ∀ (x1 : Int32) (x2 : Int32) (x3 : Int32) (x4 : Int32) (x5 : Int32) (σ : Mem) (H : Heap) (locs : List Loc) (ls : Array Slot), k13 x1 x2 x3 x4 x5 σ = some (r, σ') → wt_St D tI tII B σ s H locs → lv_has ls 6 [(0, .ref (B + 101)), (1, .int x1), (2, .int x2), (3, .int x3), (4, .int x4), (5, .int x5)] → W p l e rm_X4_ownerLooked s m args below meth c H locs 0 0 (MQ below (wt_Qi D tI tII B r σ') args s 0 0 (fun q => B ≤ q)) (F0 m 13 ls [])) (hf : j_X4_ownerLooked_53 F k13 x1 x2 x3 x5 σ = some (r, σ')) (hM : wt_St D tI tII B σ s H locs) (hl : lv_has ls 6 [(0, .ref (B + 101)), (1, .int x1), (2, .int x2), (3, .int x3), (5, .int x5)]) : W p l e rm_X4_ownerLooked s m args below meth c H locs 0 0 (MQ below (wt_Qi D tI tII B r σ') args s 0 0 (fun q => B ≤ q)) (F0 m 53 ls []) := by
  obtain ⟨hx, hb, hts, hown, hml, hr, hlk, hK⟩ := id C
  replace hf := Eq.trans j_X4_ownerLooked_53_e.symm hf
  refine lv_iconst (v := 0) hx hb dX4_ownerLooked_53 (by decide) ?_
  exact w_X4_ownerLooked_54 C hk13 hf hM hl
set_option maxHeartbeats 4000000 in
set_option maxRecDepth 100000 in
theorem w_X4_ownerLooked_157 (C : wt_C p s m args meth c RX4 cX4_ownerLooked 6 (some .int) D tI tII) {F : Nat} {x1 : Int32} {t0 : Int32} {σ : Mem} {r : Int32} {σ' : Mem} {H : Heap} {locs : List Loc} {ls : Array Slot} (hf : j_X4_ownerLooked_157 F x1 t0 σ = some (r, σ')) (hM : wt_St D tI tII B σ s H locs) (hl : lv_has ls 6 [(1, .int x1)]) : W p l e rm_X4_ownerLooked s m args below meth c H locs 0 0 (MQ below (wt_Qi D tI tII B r σ') args s 0 0 (fun q => B ≤ q)) (F0 m 157 ls [.int t0]) := by
  obtain ⟨hx, hb, hts, hown, hml, hr, hlk, hK⟩ := id C
  replace hf := Eq.trans j_X4_ownerLooked_157_e.symm hf
  refine lv_istore (lv' := [(5, .int t0), (1, .int x1)]) hx hb dX4_ownerLooked_157 hl (by decide) rfl (fun ls hl => ?_)
  refine lv_iload hx hb dX4_ownerLooked_159 (lv_at hl 0 rfl) ?_
  refine wq_if_eq (tgt := 168) hx hb dX4_ownerLooked_161 (by decide) hf (fun hf => ?_) (fun hf => ?_)
  · refine lv_bipush (v := -9) hx hb dX4_ownerLooked_168 (by decide) ?_
    exact wt_iret hx hb hr hlk hK hM hf dX4_ownerLooked_170
  refine lv_iload_n hx hb dX4_ownerLooked_164 rfl (lv_at hl 1 rfl) ?_
  refine lv_goto (tgt := 170) hx hb dX4_ownerLooked_165 (by decide) ?_
  exact wt_iret hx hb hr hlk hK hM hf dX4_ownerLooked_170
set_option maxHeartbeats 4000000 in
set_option maxRecDepth 100000 in
theorem w_X4_ownerLooked_152 (C : wt_C p s m args meth c RX4 cX4_ownerLooked 6 (some .int) D tI tII) {F : Nat} {x1 : Int32} {σ : Mem} {r : Int32} {σ' : Mem} {H : Heap} {locs : List Loc} {ls : Array Slot} (hf : j_X4_ownerLooked_152 F x1 σ = some (r, σ')) (hM : wt_St D tI tII B σ s H locs) (hl : lv_has ls 6 [(1, .int x1)]) : W p l e rm_X4_ownerLooked s m args below meth c H locs 0 0 (MQ below (wt_Qi D tI tII B r σ') args s 0 0 (fun q => B ≤ q)) (F0 m 152 ls []) := by
  obtain ⟨hx, hb, hts, hown, hml, hr, hlk, hK⟩ := id C
  replace hf := Eq.trans j_X4_ownerLooked_152_e.symm hf
  refine lv_iconst (v := 1) hx hb dX4_ownerLooked_152 (by decide) ?_
  refine lv_goto (tgt := 157) hx hb dX4_ownerLooked_153 (by decide) ?_
  exact w_X4_ownerLooked_157 C hf hM hl
set_option maxHeartbeats 4000000 in
set_option maxRecDepth 100000 in
theorem w_X4_ownerLooked_156 (C : wt_C p s m args meth c RX4 cX4_ownerLooked 6 (some .int) D tI tII) {F : Nat} {x1 : Int32} {σ : Mem} {r : Int32} {σ' : Mem} {H : Heap} {locs : List Loc} {ls : Array Slot} (hf : j_X4_ownerLooked_156 F x1 σ = some (r, σ')) (hM : wt_St D tI tII B σ s H locs) (hl : lv_has ls 6 [(1, .int x1)]) : W p l e rm_X4_ownerLooked s m args below meth c H locs 0 0 (MQ below (wt_Qi D tI tII B r σ') args s 0 0 (fun q => B ≤ q)) (F0 m 156 ls []) := by
  obtain ⟨hx, hb, hts, hown, hml, hr, hlk, hK⟩ := id C
  replace hf := Eq.trans j_X4_ownerLooked_156_e.symm hf
  refine lv_iconst (v := 0) hx hb dX4_ownerLooked_156 (by decide) ?_
  exact w_X4_ownerLooked_157 C hf hM hl
set_option maxHeartbeats 4000000 in
set_option maxRecDepth 100000 in
theorem w_X4_ownerLooked_137 (C : wt_C p s m args meth c RX4 cX4_ownerLooked 6 (some .int) D tI tII) {F : Nat} {x1 : Int32} {x2 : Int32} {x3 : Int32} {σ : Mem} {r : Int32} {σ' : Mem} {H : Heap} {locs : List Loc} {ls : Array Slot} (hf : j_X4_ownerLooked_137 F x1 x2 x3 σ = some (r, σ')) (hM : wt_St D tI tII B σ s H locs) (hl : lv_has ls 6 [(0, .ref (B + 101)), (1, .int x1), (2, .int x2), (3, .int x3)]) : W p l e rm_X4_ownerLooked s m args below meth c H locs 0 0 (MQ below (wt_Qi D tI tII B r σ') args s 0 0 (fun q => B ≤ q)) (F0 m 137 ls []) := by
  obtain ⟨hx, hb, hts, hown, hml, hr, hlk, hK⟩ := id C
  replace hf := Eq.trans j_X4_ownerLooked_137_e.symm hf
  refine lv_aload_n hx hb dX4_ownerLooked_137 rfl (lv_at hl 0 rfl) ?_
  refine gf_X4_law0  hx hb hts hown hK hM tw_718 dX4_ownerLooked_138 ?_
  refine lv_iconst (v := 2) hx hb dX4_ownerLooked_141 (by decide) ?_
  refine wq_icmp_ne (tgt := 156) hx hb dX4_ownerLooked_142 (by decide) hf (fun hf => ?_) (fun hf => ?_)
  · exact w_X4_ownerLooked_156 C hf hM (lv_sub hl [1] rfl)
  refine lv_iconst (v := 2) hx hb dX4_ownerLooked_145 (by decide) ?_
  refine lv_iload_n hx hb dX4_ownerLooked_146 rfl (lv_at hl 2 rfl) ?_
  refine lv_imul hx hb dX4_ownerLooked_147 ?_
  refine lv_iload_n hx hb dX4_ownerLooked_148 rfl (lv_at hl 3 rfl) ?_
  refine wq_icmp_le (tgt := 156) hx hb dX4_ownerLooked_149 (by decide) hf (fun hf => ?_) (fun hf => ?_)
  · exact w_X4_ownerLooked_156 C hf hM (lv_sub hl [1] rfl)
  exact w_X4_ownerLooked_152 C hf hM (lv_sub hl [1] rfl)
set_option maxHeartbeats 4000000 in
set_option maxRecDepth 100000 in
theorem w_X4_ownerLooked_13 (C : wt_C p s m args meth c RX4 cX4_ownerLooked 6 (some .int) D tI tII) {F : Nat} {r : Int32} {σ' : Mem} : ∀ (N : Nat) (x1 : Int32) (x2 : Int32) (x3 : Int32) (x4 : Int32) (x5 : Int32) (σ : Mem) (H : Heap) (locs : List Loc) (ls : Array Slot), lp_X4_ownerLooked_13 F N x1 x2 x3 x4 x5 σ = some (r, σ') → wt_St D tI tII B σ s H locs → lv_has ls 6 [(0, .ref (B + 101)), (1, .int x1), (2, .int x2), (3, .int x3), (4, .int x4), (5, .int x5)] → W p l e rm_X4_ownerLooked s m args below meth c H locs 0 0 (MQ below (wt_Qi D tI tII B r σ') args s 0 0 (fun q => B ≤ q)) (F0 m 13 ls []) := by
  obtain ⟨hx, hb, hts, hown, hml, hr, hlk, hK⟩ := id C
  intro N
  induction N with
  | zero => intro x1 x2 x3 x4 x5 σ H locs ls hf; exact wt_none (show (none : Option (Int32 × Mem)) = some (r, σ') from hf)
  | succ N ih =>
    intro x1 x2 x3 x4 x5 σ H locs ls hf hM hl
    replace hf := Eq.trans lp_X4_ownerLooked_13_s.symm hf
    refine lv_iload hx hb dX4_ownerLooked_13 (lv_at hl 5 rfl) ?_
    refine lv_aload_n hx hb dX4_ownerLooked_15 rfl (lv_at hl 0 rfl) ?_
    refine gf_X4_lookers  hx hb hts hown hK hM tw_713 dX4_ownerLooked_16 ?_
    refine wq_icmp_ge (tgt := 113) hx hb dX4_ownerLooked_19 (by decide) hf (fun hf => ?_) (fun hf => ?_)
    · refine lv_iload_n hx hb dX4_ownerLooked_113 rfl (lv_at hl 1 rfl) ?_
      refine wq_if_lt (tgt := 156) hx hb dX4_ownerLooked_114 (by decide) hf (fun hf => ?_) (fun hf => ?_)
      · exact w_X4_ownerLooked_156 C hf hM (lv_sub hl [1] rfl)
      refine lv_aload_n hx hb dX4_ownerLooked_117 rfl (lv_at hl 0 rfl) ?_
      refine gf_X4_law0  hx hb hts hown hK hM tw_718 dX4_ownerLooked_118 ?_
      refine wq_if_eq (tgt := 152) hx hb dX4_ownerLooked_121 (by decide) hf (fun hf => ?_) (fun hf => ?_)
      · exact w_X4_ownerLooked_152 C hf hM (lv_sub hl [1] rfl)
      refine lv_aload_n hx hb dX4_ownerLooked_124 rfl (lv_at hl 0 rfl) ?_
      refine gf_X4_law0  hx hb hts hown hK hM tw_718 dX4_ownerLooked_125 ?_
      refine lv_iconst (v := 1) hx hb dX4_ownerLooked_128 (by decide) ?_
      refine wq_icmp_ne (tgt := 137) hx hb dX4_ownerLooked_129 (by decide) hf (fun hf => ?_) (fun hf => ?_)
      · exact w_X4_ownerLooked_137 C hf hM (lv_sub hl [0, 1, 2, 3] rfl)
      refine lv_iload hx hb dX4_ownerLooked_132 (lv_at hl 4 rfl) ?_
      refine wq_if_ne (tgt := 152) hx hb dX4_ownerLooked_134 (by decide) hf (fun hf => ?_) (fun hf => ?_)
      · exact w_X4_ownerLooked_152 C hf hM (lv_sub hl [1] rfl)
      exact w_X4_ownerLooked_137 C hf hM (lv_sub hl [0, 1, 2, 3] rfl)
    refine lv_aload_n hx hb dX4_ownerLooked_22 rfl (lv_at hl 0 rfl) ?_
    refine gf_X4_looked  hx hb hts hown hK hM tw_723 dX4_ownerLooked_23 ?_
    refine lv_iload hx hb dX4_ownerLooked_26 (lv_at hl 5 rfl) ?_
    obtain ⟨i5, hf⟩ := wt_chk_of hf
    refine wt_ild hx hb hK hM wt_a110 i5 dX4_ownerLooked_28 ?_
    refine lv_iload_n hx hb dX4_ownerLooked_29 rfl (lv_at hl 2 rfl) ?_
    refine wq_icmp_gt (tgt := 49) hx hb dX4_ownerLooked_30 (by decide) hf (fun hf => ?_) (fun hf => ?_)
    · exact w_X4_ownerLooked_49 C ih hf hM (lv_sub hl [0, 1, 2, 3, 5] rfl)
    refine lv_iload hx hb dX4_ownerLooked_33 (lv_at hl 4 rfl) ?_
    refine wq_if_eq (tgt := 53) hx hb dX4_ownerLooked_35 (by decide) hf (fun hf => ?_) (fun hf => ?_)
    · exact w_X4_ownerLooked_53 C ih hf hM (lv_sub hl [0, 1, 2, 3, 5] rfl)
    refine lv_aload_n hx hb dX4_ownerLooked_38 rfl (lv_at hl 0 rfl) ?_
    refine gf_X4_looked  hx hb hts hown hK hM tw_723 dX4_ownerLooked_39 ?_
    refine lv_iload hx hb dX4_ownerLooked_42 (lv_at hl 5 rfl) ?_
    refine wt_ild hx hb hK hM wt_a110 i5 dX4_ownerLooked_44 ?_
    refine lv_iload_n hx hb dX4_ownerLooked_45 rfl (lv_at hl 2 rfl) ?_
    refine wq_icmp_ge (tgt := 53) hx hb dX4_ownerLooked_46 (by decide) hf (fun hf => ?_) (fun hf => ?_)
    · exact w_X4_ownerLooked_53 C ih hf hM (lv_sub hl [0, 1, 2, 3, 5] rfl)
    exact w_X4_ownerLooked_49 C ih hf hM (lv_sub hl [0, 1, 2, 3, 5] rfl)
set_option maxHeartbeats 4000000 in
set_option maxRecDepth 100000 in
theorem w_X4_ownerLooked_0 (C : wt_C p s m args meth c RX4 cX4_ownerLooked 6 (some .int) D tI tII) {F : Nat} {σ : Mem} {r : Int32} {σ' : Mem} {H : Heap} {locs : List Loc} {ls : Array Slot} (hf : f_X4_ownerLooked F σ = some (r, σ')) (hM : wt_St D tI tII B σ s H locs) (hl : lv_has ls 6 [(0, .ref (B + 101))]) : W p l e rm_X4_ownerLooked s m args below meth c H locs 0 0 (MQ below (wt_Qi D tI tII B r σ') args s 0 0 (fun q => B ≤ q)) (F0 m 0 ls []) := by
  obtain ⟨hx, hb, hts, hown, hml, hr, hlk, hK⟩ := id C
  replace hf := Eq.trans f_X4_ownerLooked_e.symm hf
  refine lv_bipush (v := -9) hx hb dX4_ownerLooked_0 (by decide) ?_
  refine lv_istore_n (lv' := [(1, .int (-9 : Int32)), (0, .ref (B + 101))]) hx hb dX4_ownerLooked_2 rfl hl (by decide) rfl (fun ls hl => ?_)
  refine lv_iconst (v := 0) hx hb dX4_ownerLooked_3 (by decide) ?_
  refine lv_istore_n (lv' := [(2, .int (0 : Int32)), (1, .int (-9 : Int32)), (0, .ref (B + 101))]) hx hb dX4_ownerLooked_4 rfl hl (by decide) rfl (fun ls hl => ?_)
  refine lv_iconst (v := 0) hx hb dX4_ownerLooked_5 (by decide) ?_
  refine lv_istore_n (lv' := [(3, .int (0 : Int32)), (2, .int (0 : Int32)), (1, .int (-9 : Int32)), (0, .ref (B + 101))]) hx hb dX4_ownerLooked_6 rfl hl (by decide) rfl (fun ls hl => ?_)
  refine lv_iconst (v := 1) hx hb dX4_ownerLooked_7 (by decide) ?_
  refine lv_istore (lv' := [(4, .int (1 : Int32)), (3, .int (0 : Int32)), (2, .int (0 : Int32)), (1, .int (-9 : Int32)), (0, .ref (B + 101))]) hx hb dX4_ownerLooked_8 hl (by decide) rfl (fun ls hl => ?_)
  refine lv_iconst (v := 0) hx hb dX4_ownerLooked_10 (by decide) ?_
  refine lv_istore (lv' := [(5, .int (0 : Int32)), (4, .int (1 : Int32)), (3, .int (0 : Int32)), (2, .int (0 : Int32)), (1, .int (-9 : Int32)), (0, .ref (B + 101))]) hx hb dX4_ownerLooked_11 hl (by decide) rfl (fun ls hl => ?_)
  exact w_X4_ownerLooked_13 C _ _ _ _ _ _ _ _ _ _ hf hM (lv_sub hl [5, 4, 3, 2, 1, 0] rfl)
end
set_option maxHeartbeats 4000000 in
set_option maxRecDepth 100000 in
theorem c_X4_ownerLooked {l : Launch} {D : va_G} {tI tII : ClassId} {B F : Nat} {σ σ' : Mem} {r : Int32} (hf : f_X4_ownerLooked F σ = some (r, σ')) : wt_Mi l yX4_ownerLooked cX4_ownerLooked 6 (some .int) rm_X4_ownerLooked [.ref (B + 101)] D tI tII B σ r σ' := by
  refine Met.ofW (cc := cX4_ownerLooked) (maxL := 6) (ret := (some .int)) (by decide) rfl ?_
  intro p e s m args below meth c s₁ B9 hml hv
  obtain ⟨rfl, hP, hK⟩ := hv
  have hl := lv_entry ([.ref (B + 101)]) (n := 6) (qz_b rfl)
  rw [lg_entry_eq]
  generalize (lg_sl ([.ref (B + 101)]) ++ List.replicate (6 - (lg_sl ([.ref (B + 101)])).length) Slot.unset).toArray = ls at hl ⊢
  exact w_X4_ownerLooked_0 (wt_C_of B9 hml hK) hf ⟨hP, va_S.rf⟩ hl
section
variable {p : Program} {l : Launch} {e : Env} {s : State} {m : MethodId} {args : Array Value} {below : List Frame} {meth : Method} {c : Code} {D : va_G} {tI tII : ClassId} {B : Nat}
set_option maxHeartbeats 4000000 in
set_option maxRecDepth 100000 in
theorem w_X4_ownerIn_2 (C : wt_C p s m args meth c RX4 cX4_ownerIn 4 (some .int) D tI tII) {F : Nat} {x1 : Int32} {x2 : Int32} {r : Int32} {σ' : Mem} : ∀ (N : Nat) (x3 : Int32) (σ : Mem) (H : Heap) (locs : List Loc) (ls : Array Slot), lp_X4_ownerIn_2 F x1 x2 N x3 σ = some (r, σ') → wt_St D tI tII B σ s H locs → lv_has ls 4 [(0, .ref (B + 101)), (1, .int x1), (2, .int x2), (3, .int x3)] → W p l e rm_X4_ownerIn s m args below meth c H locs 0 0 (MQ below (wt_Qi D tI tII B r σ') args s 0 0 (fun q => B ≤ q)) (F0 m 2 ls []) := by
  obtain ⟨hx, hb, hts, hown, hml, hr, hlk, hK⟩ := id C
  intro N
  induction N with
  | zero => intro x3 σ H locs ls hf; exact wt_none (show (none : Option (Int32 × Mem)) = some (r, σ') from hf)
  | succ N ih =>
    intro x3 σ H locs ls hf hM hl
    replace hf := Eq.trans lp_X4_ownerIn_2_s.symm hf
    refine lv_iload_n hx hb dX4_ownerIn_2 rfl (lv_at hl 3 rfl) ?_
    refine lv_aload_n hx hb dX4_ownerIn_3 rfl (lv_at hl 0 rfl) ?_
    refine gf_X4_lookers  hx hb hts hown hK hM tw_713 dX4_ownerIn_4 ?_
    refine wq_icmp_ge (tgt := 50) hx hb dX4_ownerIn_7 (by decide) hf (fun hf => ?_) (fun hf => ?_)
    · refine lv_aload_n hx hb dX4_ownerIn_50 rfl (lv_at hl 0 rfl) ?_
      refine wt_callVi (As := []) (rest := []) hx hb hml hts hown hK hM wt_rc_X4 cw_X4_122 hd_X4_ownerLooked rfl ⟨qz_b rfl, qz_b rfl⟩ ⟨rfl, rfl⟩ hl.1 rfl (qz_b rfl) dX4_ownerIn_51 hf (fun _ _ h9 => c_X4_ownerLooked h9) (fun r1 s2 H locs hf hM => ?_)
      exact wt_iret hx hb hr hlk hK hM hf dX4_ownerIn_54
    refine lv_aload_n hx hb dX4_ownerIn_10 rfl (lv_at hl 0 rfl) ?_
    refine gf_X4_looked  hx hb hts hown hK hM tw_723 dX4_ownerIn_11 ?_
    refine lv_iload_n hx hb dX4_ownerIn_14 rfl (lv_at hl 3 rfl) ?_
    refine lv_aload_n hx hb dX4_ownerIn_15 rfl (lv_at hl 0 rfl) ?_
    refine gf_X4_counted  hx hb hts hown hK hM tw_717 dX4_ownerIn_16 ?_
    refine lv_bipush (v := 8) hx hb dX4_ownerIn_19 (by decide) ?_
    refine lv_iload_n hx hb dX4_ownerIn_21 rfl (lv_at hl 3 rfl) ?_
    refine lv_imul hx hb dX4_ownerIn_22 ?_
    refine lv_iload_n hx hb dX4_ownerIn_23 rfl (lv_at hl 1 rfl) ?_
    refine lv_iadd hx hb dX4_ownerIn_24 ?_
    obtain ⟨i3, hf⟩ := wt_chk_of hf
    refine wt_ild hx hb hK hM wt_a107 i3 dX4_ownerIn_25 ?_
    refine lv_iload_n hx hb dX4_ownerIn_26 rfl (lv_at hl 2 rfl) ?_
    refine lv_aload_n hx hb dX4_ownerIn_27 rfl (lv_at hl 0 rfl) ?_
    refine gf_X4_brings  hx hb hts hown hK hM tw_722 dX4_ownerIn_28 ?_
    refine lv_bipush (v := 8) hx hb dX4_ownerIn_31 (by decide) ?_
    refine lv_iload_n hx hb dX4_ownerIn_33 rfl (lv_at hl 3 rfl) ?_
    refine lv_imul hx hb dX4_ownerIn_34 ?_
    refine lv_iload_n hx hb dX4_ownerIn_35 rfl (lv_at hl 1 rfl) ?_
    refine lv_iadd hx hb dX4_ownerIn_36 ?_
    refine wt_ild hx hb hK hM wt_a109 i3 dX4_ownerIn_37 ?_
    refine lv_imul hx hb dX4_ownerIn_38 ?_
    refine lv_iadd hx hb dX4_ownerIn_39 ?_
    refine wt_callSi (As := [.int ((σ 107 (Int32.toNatClampNeg (((8 : Int32) * x3) + x1))) + (x2 * (σ 109 (Int32.toNatClampNeg (((8 : Int32) * x3) + x1)))))]) (rest := [.int x3, .ref (B + 110)]) hx hb hml hts hown hK hM cw_X4_118 hd_X4_held rfl ⟨qz_b rfl, qz_b rfl⟩ ⟨rfl, rfl⟩ hl.1 rfl (qz_b rfl) dX4_ownerIn_40 hf (fun _ _ h9 => c_X4_held h9) (fun r4 s5 H locs hf hM => ?_)
    obtain ⟨i6, hf⟩ := wt_chk_of hf
    refine wt_ist hx hb hK hM wt_a110 i6 dX4_ownerIn_43 hf (fun s7 H locs hf hM => ?_)
    refine lv_iinc (v := (x3 + (1 : Int32))) (lv' := [(3, .int (x3 + (1 : Int32))), (0, .ref (B + 101)), (1, .int x1), (2, .int x2)]) hx hb dX4_ownerIn_44 hl (k := 3) rfl rfl (by decide) rfl (fun ls hl => ?_)
    refine lv_goto (tgt := 2) hx hb dX4_ownerIn_47 (by decide) ?_
    exact ih _ _ _ _ _ hf hM (lv_sub hl [1, 2, 3, 0] rfl)
set_option maxHeartbeats 4000000 in
set_option maxRecDepth 100000 in
theorem w_X4_ownerIn_0 (C : wt_C p s m args meth c RX4 cX4_ownerIn 4 (some .int) D tI tII) {F : Nat} {x1 : Int32} {x2 : Int32} {σ : Mem} {r : Int32} {σ' : Mem} {H : Heap} {locs : List Loc} {ls : Array Slot} (hf : f_X4_ownerIn F x1 x2 σ = some (r, σ')) (hM : wt_St D tI tII B σ s H locs) (hl : lv_has ls 4 [(0, .ref (B + 101)), (1, .int x1), (2, .int x2)]) : W p l e rm_X4_ownerIn s m args below meth c H locs 0 0 (MQ below (wt_Qi D tI tII B r σ') args s 0 0 (fun q => B ≤ q)) (F0 m 0 ls []) := by
  obtain ⟨hx, hb, hts, hown, hml, hr, hlk, hK⟩ := id C
  replace hf := Eq.trans f_X4_ownerIn_e.symm hf
  refine lv_iconst (v := 0) hx hb dX4_ownerIn_0 (by decide) ?_
  refine lv_istore_n (lv' := [(3, .int (0 : Int32)), (0, .ref (B + 101)), (1, .int x1), (2, .int x2)]) hx hb dX4_ownerIn_1 rfl hl (by decide) rfl (fun ls hl => ?_)
  exact w_X4_ownerIn_2 C _ _ _ _ _ _ hf hM (lv_sub hl [1, 2, 3, 0] rfl)
end
set_option maxHeartbeats 4000000 in
set_option maxRecDepth 100000 in
theorem c_X4_ownerIn {l : Launch} {D : va_G} {tI tII : ClassId} {B F : Nat} {x1 : Int32} {x2 : Int32} {σ σ' : Mem} {r : Int32} (hf : f_X4_ownerIn F x1 x2 σ = some (r, σ')) : wt_Mi l yX4_ownerIn cX4_ownerIn 4 (some .int) rm_X4_ownerIn [.ref (B + 101), .int x1, .int x2] D tI tII B σ r σ' := by
  refine Met.ofW (cc := cX4_ownerIn) (maxL := 4) (ret := (some .int)) (by decide) rfl ?_
  intro p e s m args below meth c s₁ B9 hml hv
  obtain ⟨rfl, hP, hK⟩ := hv
  have hl := lv_entry ([.ref (B + 101), .int x1, .int x2]) (n := 4) (qz_b rfl)
  rw [lg_entry_eq]
  generalize (lg_sl ([.ref (B + 101), .int x1, .int x2]) ++ List.replicate (4 - (lg_sl ([.ref (B + 101), .int x1, .int x2])).length) Slot.unset).toArray = ls at hl ⊢
  exact w_X4_ownerIn_0 (wt_C_of B9 hml hK) hf ⟨hP, va_S.rf⟩ hl
section
variable {p : Program} {l : Launch} {e : Env} {s : State} {m : MethodId} {args : Array Value} {below : List Frame} {meth : Method} {c : Code} {D : va_G} {tI tII : ClassId} {B : Nat}
set_option maxHeartbeats 4000000 in
set_option maxRecDepth 100000 in
theorem w_X4_viewsIn_32 (C : wt_C p s m args meth c RX4 cX4_viewsIn 5 (some .int) D tI tII) {F : Nat} {k5 : Int32 → Int32 → Mem → Option (Int32 × Mem)} {x1 : Int32} {x2 : Int32} {x4 : Int32} {t0 : Int32} {t1 : Int32} {σ : Mem} {r : Int32} {σ' : Mem} {H : Heap} {locs : List Loc} {ls : Array Slot} (hk5 : ∀ (x3 : Int32) (x4 : Int32) (σ : Mem) (H : Heap) (locs : List Loc) (ls : Array Slot), k5 x3 x4 σ = some (r, σ') → wt_St D tI tII B σ s H locs → lv_has ls 5 [(0, .ref (B + 101)), (1, .int x1), (2, .int x2), (3, .int x3), (4, .int x4)] → W p l e rm_X4_viewsIn s m args below meth c H locs 0 0 (MQ below (wt_Qi D tI tII B r σ') args s 0 0 (fun q => B ≤ q)) (F0 m 5 ls [])) (hf : j_X4_viewsIn_32 F k5 x1 x2 x4 t0 t1 σ = some (r, σ')) (hM : wt_St D tI tII B σ s H locs) (hl : lv_has ls 5 [(0, .ref (B + 101)), (1, .int x1), (2, .int x2), (4, .int x4)]) : W p l e rm_X4_viewsIn s m args below meth c H locs 0 0 (MQ below (wt_Qi D tI tII B r σ') args s 0 0 (fun q => B ≤ q)) (F0 m 32 ls [.int t1, .int t0]) := by
  obtain ⟨hx, hb, hts, hown, hml, hr, hlk, hK⟩ := id C
  replace hf := Eq.trans j_X4_viewsIn_32_e.symm hf
  refine lv_ior hx hb dX4_viewsIn_32 ?_
  refine lv_istore_n (lv' := [(3, .int (t0 ||| t1)), (0, .ref (B + 101)), (1, .int x1), (2, .int x2), (4, .int x4)]) hx hb dX4_viewsIn_33 rfl hl (by decide) rfl (fun ls hl => ?_)
  refine lv_iinc (v := (x4 + (1 : Int32))) (lv' := [(4, .int (x4 + (1 : Int32))), (3, .int (t0 ||| t1)), (0, .ref (B + 101)), (1, .int x1), (2, .int x2)]) hx hb dX4_viewsIn_34 hl (k := 4) rfl rfl (by decide) rfl (fun ls hl => ?_)
  refine lv_goto (tgt := 5) hx hb dX4_viewsIn_37 (by decide) ?_
  exact hk5 _ _ _ _ _ _ hf hM (lv_sub hl [2, 3, 4, 1, 0] rfl)
set_option maxHeartbeats 4000000 in
set_option maxRecDepth 100000 in
theorem w_X4_viewsIn_5 (C : wt_C p s m args meth c RX4 cX4_viewsIn 5 (some .int) D tI tII) {F : Nat} {x1 : Int32} {x2 : Int32} {r : Int32} {σ' : Mem} : ∀ (N : Nat) (x3 : Int32) (x4 : Int32) (σ : Mem) (H : Heap) (locs : List Loc) (ls : Array Slot), lp_X4_viewsIn_5 F x1 x2 N x3 x4 σ = some (r, σ') → wt_St D tI tII B σ s H locs → lv_has ls 5 [(0, .ref (B + 101)), (1, .int x1), (2, .int x2), (3, .int x3), (4, .int x4)] → W p l e rm_X4_viewsIn s m args below meth c H locs 0 0 (MQ below (wt_Qi D tI tII B r σ') args s 0 0 (fun q => B ≤ q)) (F0 m 5 ls []) := by
  obtain ⟨hx, hb, hts, hown, hml, hr, hlk, hK⟩ := id C
  intro N
  induction N with
  | zero => intro x3 x4 σ H locs ls hf; exact wt_none (show (none : Option (Int32 × Mem)) = some (r, σ') from hf)
  | succ N ih =>
    intro x3 x4 σ H locs ls hf hM hl
    replace hf := Eq.trans lp_X4_viewsIn_5_s.symm hf
    refine lv_iload hx hb dX4_viewsIn_5 (lv_at hl 4 rfl) ?_
    refine lv_bipush (v := 8) hx hb dX4_viewsIn_7 (by decide) ?_
    refine wq_icmp_ge (tgt := 40) hx hb dX4_viewsIn_9 (by decide) hf (fun hf => ?_) (fun hf => ?_)
    · refine lv_iload_n hx hb dX4_viewsIn_40 rfl (lv_at hl 3 rfl) ?_
      exact wt_iret hx hb hr hlk hK hM hf dX4_viewsIn_41
    refine lv_iload_n hx hb dX4_viewsIn_12 rfl (lv_at hl 3 rfl) ?_
    refine lv_aload_n hx hb dX4_viewsIn_13 rfl (lv_at hl 0 rfl) ?_
    refine lv_iload hx hb dX4_viewsIn_14 (lv_at hl 4 rfl) ?_
    refine lv_iload_n hx hb dX4_viewsIn_16 rfl (lv_at hl 2 rfl) ?_
    refine wt_callVi (As := [.int x4, .int x2]) (rest := [.int x3]) hx hb hml hts hown hK hM wt_rc_X4 cw_X4_125 hd_X4_ownerIn rfl ⟨qz_b rfl, qz_b rfl⟩ ⟨rfl, rfl⟩ hl.1 rfl (qz_b rfl) dX4_viewsIn_17 hf (fun _ _ h9 => c_X4_ownerIn h9) (fun r1 s2 H locs hf hM => ?_)
    refine lv_iload_n hx hb dX4_viewsIn_20 rfl (lv_at hl 1 rfl) ?_
    refine wq_icmp_ne (tgt := 31) hx hb dX4_viewsIn_21 (by decide) hf (fun hf => ?_) (fun hf => ?_)
    · refine lv_iconst (v := 0) hx hb dX4_viewsIn_31 (by decide) ?_
      exact w_X4_viewsIn_32 C ih hf hM (lv_sub hl [0, 1, 2, 4] rfl)
    refine lv_iconst (v := 1) hx hb dX4_viewsIn_24 (by decide) ?_
    refine lv_iload hx hb dX4_viewsIn_25 (lv_at hl 4 rfl) ?_
    refine lv_ishl hx hb dX4_viewsIn_27 ?_
    refine lv_goto (tgt := 32) hx hb dX4_viewsIn_28 (by decide) ?_
    exact w_X4_viewsIn_32 C ih hf hM (lv_sub hl [0, 1, 2, 4] rfl)
set_option maxHeartbeats 4000000 in
set_option maxRecDepth 100000 in
theorem w_X4_viewsIn_0 (C : wt_C p s m args meth c RX4 cX4_viewsIn 5 (some .int) D tI tII) {F : Nat} {x1 : Int32} {x2 : Int32} {σ : Mem} {r : Int32} {σ' : Mem} {H : Heap} {locs : List Loc} {ls : Array Slot} (hf : f_X4_viewsIn F x1 x2 σ = some (r, σ')) (hM : wt_St D tI tII B σ s H locs) (hl : lv_has ls 5 [(0, .ref (B + 101)), (1, .int x1), (2, .int x2)]) : W p l e rm_X4_viewsIn s m args below meth c H locs 0 0 (MQ below (wt_Qi D tI tII B r σ') args s 0 0 (fun q => B ≤ q)) (F0 m 0 ls []) := by
  obtain ⟨hx, hb, hts, hown, hml, hr, hlk, hK⟩ := id C
  replace hf := Eq.trans f_X4_viewsIn_e.symm hf
  refine lv_iconst (v := 0) hx hb dX4_viewsIn_0 (by decide) ?_
  refine lv_istore_n (lv' := [(3, .int (0 : Int32)), (0, .ref (B + 101)), (1, .int x1), (2, .int x2)]) hx hb dX4_viewsIn_1 rfl hl (by decide) rfl (fun ls hl => ?_)
  refine lv_iconst (v := 0) hx hb dX4_viewsIn_2 (by decide) ?_
  refine lv_istore (lv' := [(4, .int (0 : Int32)), (3, .int (0 : Int32)), (0, .ref (B + 101)), (1, .int x1), (2, .int x2)]) hx hb dX4_viewsIn_3 hl (by decide) rfl (fun ls hl => ?_)
  exact w_X4_viewsIn_5 C _ _ _ _ _ _ _ hf hM (lv_sub hl [2, 3, 4, 1, 0] rfl)
end
set_option maxHeartbeats 4000000 in
set_option maxRecDepth 100000 in
theorem c_X4_viewsIn {l : Launch} {D : va_G} {tI tII : ClassId} {B F : Nat} {x1 : Int32} {x2 : Int32} {σ σ' : Mem} {r : Int32} (hf : f_X4_viewsIn F x1 x2 σ = some (r, σ')) : wt_Mi l yX4_viewsIn cX4_viewsIn 5 (some .int) rm_X4_viewsIn [.ref (B + 101), .int x1, .int x2] D tI tII B σ r σ' := by
  refine Met.ofW (cc := cX4_viewsIn) (maxL := 5) (ret := (some .int)) (by decide) rfl ?_
  intro p e s m args below meth c s₁ B9 hml hv
  obtain ⟨rfl, hP, hK⟩ := hv
  have hl := lv_entry ([.ref (B + 101), .int x1, .int x2]) (n := 5) (qz_b rfl)
  rw [lg_entry_eq]
  generalize (lg_sl ([.ref (B + 101), .int x1, .int x2]) ++ List.replicate (5 - (lg_sl ([.ref (B + 101), .int x1, .int x2])).length) Slot.unset).toArray = ls at hl ⊢
  exact w_X4_viewsIn_0 (wt_C_of B9 hml hK) hf ⟨hP, va_S.rf⟩ hl
section
variable {p : Program} {l : Launch} {e : Env} {s : State} {m : MethodId} {args : Array Value} {below : List Frame} {meth : Method} {c : Code} {D : va_G} {tI tII : ClassId} {B : Nat}
set_option maxHeartbeats 4000000 in
set_option maxRecDepth 100000 in
theorem w_X4_worthBy_29 (C : wt_C p s m args meth c RX4 cX4_worthBy 4 (some .int) D tI tII) {F : Nat} {k4 : Int32 → Int32 → Mem → Option (Int32 × Mem)} {x1 : Int32} {x3 : Int32} {t0 : Int32} {t1 : Int32} {σ : Mem} {r : Int32} {σ' : Mem} {H : Heap} {locs : List Loc} {ls : Array Slot} (hk4 : ∀ (x2 : Int32) (x3 : Int32) (σ : Mem) (H : Heap) (locs : List Loc) (ls : Array Slot), k4 x2 x3 σ = some (r, σ') → wt_St D tI tII B σ s H locs → lv_has ls 4 [(0, .ref (B + 101)), (1, .int x1), (2, .int x2), (3, .int x3)] → W p l e rm_X4_worthBy s m args below meth c H locs 0 0 (MQ below (wt_Qi D tI tII B r σ') args s 0 0 (fun q => B ≤ q)) (F0 m 4 ls [])) (hf : j_X4_worthBy_29 F k4 x1 x3 t0 t1 σ = some (r, σ')) (hM : wt_St D tI tII B σ s H locs) (hl : lv_has ls 4 [(0, .ref (B + 101)), (1, .int x1), (3, .int x3)]) : W p l e rm_X4_worthBy s m args below meth c H locs 0 0 (MQ below (wt_Qi D tI tII B r σ') args s 0 0 (fun q => B ≤ q)) (F0 m 29 ls [.int t1, .int t0]) := by
  obtain ⟨hx, hb, hts, hown, hml, hr, hlk, hK⟩ := id C
  replace hf := Eq.trans j_X4_worthBy_29_e.symm hf
  refine lv_iadd hx hb dX4_worthBy_29 ?_
  refine lv_istore_n (lv' := [(2, .int (t0 + t1)), (0, .ref (B + 101)), (1, .int x1), (3, .int x3)]) hx hb dX4_worthBy_30 rfl hl (by decide) rfl (fun ls hl => ?_)
  refine lv_iinc (v := (x3 + (1 : Int32))) (lv' := [(3, .int (x3 + (1 : Int32))), (2, .int (t0 + t1)), (0, .ref (B + 101)), (1, .int x1)]) hx hb dX4_worthBy_31 hl (k := 3) rfl rfl (by decide) rfl (fun ls hl => ?_)
  refine lv_goto (tgt := 4) hx hb dX4_worthBy_34 (by decide) ?_
  exact hk4 _ _ _ _ _ _ hf hM (lv_sub hl [2, 3, 1, 0] rfl)
set_option maxHeartbeats 4000000 in
set_option maxRecDepth 100000 in
theorem w_X4_worthBy_4 (C : wt_C p s m args meth c RX4 cX4_worthBy 4 (some .int) D tI tII) {F : Nat} {x1 : Int32} {r : Int32} {σ' : Mem} : ∀ (N : Nat) (x2 : Int32) (x3 : Int32) (σ : Mem) (H : Heap) (locs : List Loc) (ls : Array Slot), lp_X4_worthBy_4 F x1 N x2 x3 σ = some (r, σ') → wt_St D tI tII B σ s H locs → lv_has ls 4 [(0, .ref (B + 101)), (1, .int x1), (2, .int x2), (3, .int x3)] → W p l e rm_X4_worthBy s m args below meth c H locs 0 0 (MQ below (wt_Qi D tI tII B r σ') args s 0 0 (fun q => B ≤ q)) (F0 m 4 ls []) := by
  obtain ⟨hx, hb, hts, hown, hml, hr, hlk, hK⟩ := id C
  intro N
  induction N with
  | zero => intro x2 x3 σ H locs ls hf; exact wt_none (show (none : Option (Int32 × Mem)) = some (r, σ') from hf)
  | succ N ih =>
    intro x2 x3 σ H locs ls hf hM hl
    replace hf := Eq.trans lp_X4_worthBy_4_s.symm hf
    refine lv_iload_n hx hb dX4_worthBy_4 rfl (lv_at hl 3 rfl) ?_
    refine lv_bipush (v := 8) hx hb dX4_worthBy_5 (by decide) ?_
    refine wq_icmp_ge (tgt := 37) hx hb dX4_worthBy_7 (by decide) hf (fun hf => ?_) (fun hf => ?_)
    · refine lv_iload_n hx hb dX4_worthBy_37 rfl (lv_at hl 2 rfl) ?_
      exact wt_iret hx hb hr hlk hK hM hf dX4_worthBy_38
    refine lv_iload_n hx hb dX4_worthBy_10 rfl (lv_at hl 2 rfl) ?_
    refine lv_iload_n hx hb dX4_worthBy_11 rfl (lv_at hl 1 rfl) ?_
    refine lv_iload_n hx hb dX4_worthBy_12 rfl (lv_at hl 3 rfl) ?_
    refine wt_callSi (As := [.int x1, .int x3]) (rest := [.int x2]) hx hb hml hts hown hK hM cw_X4_104 hd_X4_hasBit rfl ⟨qz_b rfl, qz_b rfl⟩ ⟨rfl, rfl⟩ hl.1 rfl (qz_b rfl) dX4_worthBy_13 hf (fun _ _ h9 => c_X4_hasBit h9) (fun r1 s2 H locs hf hM => ?_)
    refine wq_if_eq (tgt := 28) hx hb dX4_worthBy_16 (by decide) hf (fun hf => ?_) (fun hf => ?_)
    · refine lv_iconst (v := 0) hx hb dX4_worthBy_28 (by decide) ?_
      exact w_X4_worthBy_29 C ih hf hM (lv_sub hl [0, 1, 3] rfl)
    refine lv_aload_n hx hb dX4_worthBy_19 rfl (lv_at hl 0 rfl) ?_
    refine gf_X4_worths  hx hb hts hown hK hM tw_710 dX4_worthBy_20 ?_
    refine lv_iload_n hx hb dX4_worthBy_23 rfl (lv_at hl 3 rfl) ?_
    obtain ⟨i3, hf⟩ := wt_chk_of hf
    refine wt_ild hx hb hK hM wt_a102 i3 dX4_worthBy_24 ?_
    refine lv_goto (tgt := 29) hx hb dX4_worthBy_25 (by decide) ?_
    exact w_X4_worthBy_29 C ih hf hM (lv_sub hl [0, 1, 3] rfl)
set_option maxHeartbeats 4000000 in
set_option maxRecDepth 100000 in
theorem w_X4_worthBy_0 (C : wt_C p s m args meth c RX4 cX4_worthBy 4 (some .int) D tI tII) {F : Nat} {x1 : Int32} {σ : Mem} {r : Int32} {σ' : Mem} {H : Heap} {locs : List Loc} {ls : Array Slot} (hf : f_X4_worthBy F x1 σ = some (r, σ')) (hM : wt_St D tI tII B σ s H locs) (hl : lv_has ls 4 [(0, .ref (B + 101)), (1, .int x1)]) : W p l e rm_X4_worthBy s m args below meth c H locs 0 0 (MQ below (wt_Qi D tI tII B r σ') args s 0 0 (fun q => B ≤ q)) (F0 m 0 ls []) := by
  obtain ⟨hx, hb, hts, hown, hml, hr, hlk, hK⟩ := id C
  replace hf := Eq.trans f_X4_worthBy_e.symm hf
  refine lv_iconst (v := 0) hx hb dX4_worthBy_0 (by decide) ?_
  refine lv_istore_n (lv' := [(2, .int (0 : Int32)), (0, .ref (B + 101)), (1, .int x1)]) hx hb dX4_worthBy_1 rfl hl (by decide) rfl (fun ls hl => ?_)
  refine lv_iconst (v := 0) hx hb dX4_worthBy_2 (by decide) ?_
  refine lv_istore_n (lv' := [(3, .int (0 : Int32)), (2, .int (0 : Int32)), (0, .ref (B + 101)), (1, .int x1)]) hx hb dX4_worthBy_3 rfl hl (by decide) rfl (fun ls hl => ?_)
  exact w_X4_worthBy_4 C _ _ _ _ _ _ _ hf hM (lv_sub hl [2, 3, 1, 0] rfl)
end
set_option maxHeartbeats 4000000 in
set_option maxRecDepth 100000 in
theorem c_X4_worthBy {l : Launch} {D : va_G} {tI tII : ClassId} {B F : Nat} {x1 : Int32} {σ σ' : Mem} {r : Int32} (hf : f_X4_worthBy F x1 σ = some (r, σ')) : wt_Mi l yX4_worthBy cX4_worthBy 4 (some .int) rm_X4_worthBy [.ref (B + 101), .int x1] D tI tII B σ r σ' := by
  refine Met.ofW (cc := cX4_worthBy) (maxL := 4) (ret := (some .int)) (by decide) rfl ?_
  intro p e s m args below meth c s₁ B9 hml hv
  obtain ⟨rfl, hP, hK⟩ := hv
  have hl := lv_entry ([.ref (B + 101), .int x1]) (n := 4) (qz_b rfl)
  rw [lg_entry_eq]
  generalize (lg_sl ([.ref (B + 101), .int x1]) ++ List.replicate (4 - (lg_sl ([.ref (B + 101), .int x1])).length) Slot.unset).toArray = ls at hl ⊢
  exact w_X4_worthBy_0 (wt_C_of B9 hml hK) hf ⟨hP, va_S.rf⟩ hl
section
variable {p : Program} {l : Launch} {e : Env} {s : State} {m : MethodId} {args : Array Value} {below : List Frame} {meth : Method} {c : Code} {D : va_G} {tI tII : ClassId} {B : Nat}
set_option maxHeartbeats 4000000 in
set_option maxRecDepth 100000 in
theorem w_X4_worthIn_0 (C : wt_C p s m args meth c RX4 cX4_worthIn 3 (some .int) D tI tII) {F : Nat} {x1 : Int32} {x2 : Int32} {σ : Mem} {r : Int32} {σ' : Mem} {H : Heap} {locs : List Loc} {ls : Array Slot} (hf : f_X4_worthIn F x1 x2 σ = some (r, σ')) (hM : wt_St D tI tII B σ s H locs) (hl : lv_has ls 3 [(0, .ref (B + 101)), (1, .int x1), (2, .int x2)]) : W p l e rm_X4_worthIn s m args below meth c H locs 0 0 (MQ below (wt_Qi D tI tII B r σ') args s 0 0 (fun q => B ≤ q)) (F0 m 0 ls []) := by
  obtain ⟨hx, hb, hts, hown, hml, hr, hlk, hK⟩ := id C
  replace hf := Eq.trans f_X4_worthIn_e.symm hf
  refine lv_aload_n hx hb dX4_worthIn_0 rfl (lv_at hl 0 rfl) ?_
  refine lv_aload_n hx hb dX4_worthIn_1 rfl (lv_at hl 0 rfl) ?_
  refine lv_iload_n hx hb dX4_worthIn_2 rfl (lv_at hl 1 rfl) ?_
  refine lv_iload_n hx hb dX4_worthIn_3 rfl (lv_at hl 2 rfl) ?_
  refine wt_callVi (As := [.int x1, .int x2]) (rest := [.ref (B + 101)]) hx hb hml hts hown hK hM wt_rc_X4 cw_X4_128 hd_X4_viewsIn rfl ⟨qz_b rfl, qz_b rfl⟩ ⟨rfl, rfl⟩ hl.1 rfl (qz_b rfl) dX4_worthIn_4 hf (fun _ _ h9 => c_X4_viewsIn h9) (fun r1 s2 H locs hf hM => ?_)
  refine wt_callVi (As := [.int r1]) (rest := []) hx hb hml hts hown hK hM wt_rc_X4 cw_X4_131 hd_X4_worthBy rfl ⟨qz_b rfl, qz_b rfl⟩ ⟨rfl, rfl⟩ hl.1 rfl (qz_b rfl) dX4_worthIn_7 hf (fun _ _ h9 => c_X4_worthBy h9) (fun r3 s4 H locs hf hM => ?_)
  exact wt_iret hx hb hr hlk hK hM hf dX4_worthIn_10
end
set_option maxHeartbeats 4000000 in
set_option maxRecDepth 100000 in
theorem c_X4_worthIn {l : Launch} {D : va_G} {tI tII : ClassId} {B F : Nat} {x1 : Int32} {x2 : Int32} {σ σ' : Mem} {r : Int32} (hf : f_X4_worthIn F x1 x2 σ = some (r, σ')) : wt_Mi l yX4_worthIn cX4_worthIn 3 (some .int) rm_X4_worthIn [.ref (B + 101), .int x1, .int x2] D tI tII B σ r σ' := by
  refine Met.ofW (cc := cX4_worthIn) (maxL := 3) (ret := (some .int)) (by decide) rfl ?_
  intro p e s m args below meth c s₁ B9 hml hv
  obtain ⟨rfl, hP, hK⟩ := hv
  have hl := lv_entry ([.ref (B + 101), .int x1, .int x2]) (n := 3) (qz_b rfl)
  rw [lg_entry_eq]
  generalize (lg_sl ([.ref (B + 101), .int x1, .int x2]) ++ List.replicate (3 - (lg_sl ([.ref (B + 101), .int x1, .int x2])).length) Slot.unset).toArray = ls at hl ⊢
  exact w_X4_worthIn_0 (wt_C_of B9 hml hK) hf ⟨hP, va_S.rf⟩ hl
section
variable {p : Program} {l : Launch} {e : Env} {s : State} {m : MethodId} {args : Array Value} {below : List Frame} {meth : Method} {c : Code} {D : va_G} {tI tII : ClassId} {B : Nat}
set_option maxHeartbeats 4000000 in
set_option maxRecDepth 100000 in
theorem w_X4_worthAnew_0 (C : wt_C p s m args meth c RX4 cX4_worthAnew 3 (some .int) D tI tII) {F : Nat} {x1 : Int32} {x2 : Int32} {σ : Mem} {r : Int32} {σ' : Mem} {H : Heap} {locs : List Loc} {ls : Array Slot} (hf : f_X4_worthAnew F x1 x2 σ = some (r, σ')) (hM : wt_St D tI tII B σ s H locs) (hl : lv_has ls 3 [(0, .ref (B + 101)), (1, .int x1), (2, .int x2)]) : W p l e rm_X4_worthAnew s m args below meth c H locs 0 0 (MQ below (wt_Qi D tI tII B r σ') args s 0 0 (fun q => B ≤ q)) (F0 m 0 ls []) := by
  obtain ⟨hx, hb, hts, hown, hml, hr, hlk, hK⟩ := id C
  replace hf := Eq.trans f_X4_worthAnew_e.symm hf
  refine lv_aload_n hx hb dX4_worthAnew_0 rfl (lv_at hl 0 rfl) ?_
  refine wt_callVv (As := []) (rest := []) hx hb hml hts hown hK hM wt_rc_X4 cw_X4_134 hd_X4_layBrings rfl ⟨qz_b rfl, qz_b rfl⟩ ⟨rfl, rfl⟩ hl.1 rfl (qz_b rfl) dX4_worthAnew_1 hf (fun _ _ h9 => c_X4_layBrings h9) (fun r1 s2 H locs hf hM => ?_)
  refine lv_aload_n hx hb dX4_worthAnew_4 rfl (lv_at hl 0 rfl) ?_
  refine lv_iload_n hx hb dX4_worthAnew_5 rfl (lv_at hl 1 rfl) ?_
  refine lv_iload_n hx hb dX4_worthAnew_6 rfl (lv_at hl 2 rfl) ?_
  refine wt_callVi (As := [.int x1, .int x2]) (rest := []) hx hb hml hts hown hK hM wt_rc_X4 cw_X4_137 hd_X4_worthIn rfl ⟨qz_b rfl, qz_b rfl⟩ ⟨rfl, rfl⟩ hl.1 rfl (qz_b rfl) dX4_worthAnew_7 hf (fun _ _ h9 => c_X4_worthIn h9) (fun r3 s4 H locs hf hM => ?_)
  exact wt_iret hx hb hr hlk hK hM hf dX4_worthAnew_10
end
set_option maxHeartbeats 4000000 in
set_option maxRecDepth 100000 in
theorem c_X4_worthAnew {l : Launch} {D : va_G} {tI tII : ClassId} {B F : Nat} {x1 : Int32} {x2 : Int32} {σ σ' : Mem} {r : Int32} (hf : f_X4_worthAnew F x1 x2 σ = some (r, σ')) : wt_Mi l yX4_worthAnew cX4_worthAnew 3 (some .int) rm_X4_worthAnew [.ref (B + 101), .int x1, .int x2] D tI tII B σ r σ' := by
  refine Met.ofW (cc := cX4_worthAnew) (maxL := 3) (ret := (some .int)) (by decide) rfl ?_
  intro p e s m args below meth c s₁ B9 hml hv
  obtain ⟨rfl, hP, hK⟩ := hv
  have hl := lv_entry ([.ref (B + 101), .int x1, .int x2]) (n := 3) (qz_b rfl)
  rw [lg_entry_eq]
  generalize (lg_sl ([.ref (B + 101), .int x1, .int x2]) ++ List.replicate (3 - (lg_sl ([.ref (B + 101), .int x1, .int x2])).length) Slot.unset).toArray = ls at hl ⊢
  exact w_X4_worthAnew_0 (wt_C_of B9 hml hK) hf ⟨hP, va_S.rf⟩ hl
section
variable {p : Program} {l : Launch} {e : Env} {s : State} {m : MethodId} {args : Array Value} {below : List Frame} {meth : Method} {c : Code} {D : va_G} {tI tII : ClassId} {B : Nat}
set_option maxHeartbeats 4000000 in
set_option maxRecDepth 100000 in
theorem w_X4_hoursOf_30 (C : wt_C p s m args meth c RX4 cX4_hoursOf 4 (some .int) D tI tII) {F : Nat} {k4 : Int32 → Int32 → Mem → Option (Int32 × Mem)} {x1 : Int32} {x3 : Int32} {t0 : Int32} {t1 : Int32} {σ : Mem} {r : Int32} {σ' : Mem} {H : Heap} {locs : List Loc} {ls : Array Slot} (hk4 : ∀ (x2 : Int32) (x3 : Int32) (σ : Mem) (H : Heap) (locs : List Loc) (ls : Array Slot), k4 x2 x3 σ = some (r, σ') → wt_St D tI tII B σ s H locs → lv_has ls 4 [(0, .ref (B + 101)), (1, .int x1), (2, .int x2), (3, .int x3)] → W p l e rm_X4_hoursOf s m args below meth c H locs 0 0 (MQ below (wt_Qi D tI tII B r σ') args s 0 0 (fun q => B ≤ q)) (F0 m 4 ls [])) (hf : j_X4_hoursOf_30 F k4 x1 x3 t0 t1 σ = some (r, σ')) (hM : wt_St D tI tII B σ s H locs) (hl : lv_has ls 4 [(0, .ref (B + 101)), (1, .int x1), (3, .int x3)]) : W p l e rm_X4_hoursOf s m args below meth c H locs 0 0 (MQ below (wt_Qi D tI tII B r σ') args s 0 0 (fun q => B ≤ q)) (F0 m 30 ls [.int t1, .int t0]) := by
  obtain ⟨hx, hb, hts, hown, hml, hr, hlk, hK⟩ := id C
  replace hf := Eq.trans j_X4_hoursOf_30_e.symm hf
  refine lv_iadd hx hb dX4_hoursOf_30 ?_
  refine lv_istore_n (lv' := [(2, .int (t0 + t1)), (0, .ref (B + 101)), (1, .int x1), (3, .int x3)]) hx hb dX4_hoursOf_31 rfl hl (by decide) rfl (fun ls hl => ?_)
  refine lv_iinc (v := (x3 + (1 : Int32))) (lv' := [(3, .int (x3 + (1 : Int32))), (2, .int (t0 + t1)), (0, .ref (B + 101)), (1, .int x1)]) hx hb dX4_hoursOf_32 hl (k := 3) rfl rfl (by decide) rfl (fun ls hl => ?_)
  refine lv_goto (tgt := 4) hx hb dX4_hoursOf_35 (by decide) ?_
  exact hk4 _ _ _ _ _ _ hf hM (lv_sub hl [2, 3, 1, 0] rfl)
set_option maxHeartbeats 4000000 in
set_option maxRecDepth 100000 in
theorem w_X4_hoursOf_4 (C : wt_C p s m args meth c RX4 cX4_hoursOf 4 (some .int) D tI tII) {F : Nat} {x1 : Int32} {r : Int32} {σ' : Mem} : ∀ (N : Nat) (x2 : Int32) (x3 : Int32) (σ : Mem) (H : Heap) (locs : List Loc) (ls : Array Slot), lp_X4_hoursOf_4 F x1 N x2 x3 σ = some (r, σ') → wt_St D tI tII B σ s H locs → lv_has ls 4 [(0, .ref (B + 101)), (1, .int x1), (2, .int x2), (3, .int x3)] → W p l e rm_X4_hoursOf s m args below meth c H locs 0 0 (MQ below (wt_Qi D tI tII B r σ') args s 0 0 (fun q => B ≤ q)) (F0 m 4 ls []) := by
  obtain ⟨hx, hb, hts, hown, hml, hr, hlk, hK⟩ := id C
  intro N
  induction N with
  | zero => intro x2 x3 σ H locs ls hf; exact wt_none (show (none : Option (Int32 × Mem)) = some (r, σ') from hf)
  | succ N ih =>
    intro x2 x3 σ H locs ls hf hM hl
    replace hf := Eq.trans lp_X4_hoursOf_4_s.symm hf
    refine lv_iload_n hx hb dX4_hoursOf_4 rfl (lv_at hl 3 rfl) ?_
    refine lv_bipush (v := 24) hx hb dX4_hoursOf_5 (by decide) ?_
    refine wq_icmp_ge (tgt := 38) hx hb dX4_hoursOf_7 (by decide) hf (fun hf => ?_) (fun hf => ?_)
    · refine lv_iload_n hx hb dX4_hoursOf_38 rfl (lv_at hl 2 rfl) ?_
      exact wt_iret hx hb hr hlk hK hM hf dX4_hoursOf_39
    refine lv_iload_n hx hb dX4_hoursOf_10 rfl (lv_at hl 2 rfl) ?_
    refine lv_aload_n hx hb dX4_hoursOf_11 rfl (lv_at hl 0 rfl) ?_
    refine gf_X4_rosters  hx hb hts hown hK hM tw_716 dX4_hoursOf_12 ?_
    refine lv_bipush (v := 24) hx hb dX4_hoursOf_15 (by decide) ?_
    refine lv_iload_n hx hb dX4_hoursOf_17 rfl (lv_at hl 1 rfl) ?_
    refine lv_imul hx hb dX4_hoursOf_18 ?_
    refine lv_iload_n hx hb dX4_hoursOf_19 rfl (lv_at hl 3 rfl) ?_
    refine lv_iadd hx hb dX4_hoursOf_20 ?_
    obtain ⟨i1, hf⟩ := wt_chk_of hf
    refine wt_ild hx hb hK hM wt_a106 i1 dX4_hoursOf_21 ?_
    refine wq_if_lt (tgt := 29) hx hb dX4_hoursOf_22 (by decide) hf (fun hf => ?_) (fun hf => ?_)
    · refine lv_iconst (v := 0) hx hb dX4_hoursOf_29 (by decide) ?_
      exact w_X4_hoursOf_30 C ih hf hM (lv_sub hl [0, 1, 3] rfl)
    refine lv_iconst (v := 1) hx hb dX4_hoursOf_25 (by decide) ?_
    refine lv_goto (tgt := 30) hx hb dX4_hoursOf_26 (by decide) ?_
    exact w_X4_hoursOf_30 C ih hf hM (lv_sub hl [0, 1, 3] rfl)
set_option maxHeartbeats 4000000 in
set_option maxRecDepth 100000 in
theorem w_X4_hoursOf_0 (C : wt_C p s m args meth c RX4 cX4_hoursOf 4 (some .int) D tI tII) {F : Nat} {x1 : Int32} {σ : Mem} {r : Int32} {σ' : Mem} {H : Heap} {locs : List Loc} {ls : Array Slot} (hf : f_X4_hoursOf F x1 σ = some (r, σ')) (hM : wt_St D tI tII B σ s H locs) (hl : lv_has ls 4 [(0, .ref (B + 101)), (1, .int x1)]) : W p l e rm_X4_hoursOf s m args below meth c H locs 0 0 (MQ below (wt_Qi D tI tII B r σ') args s 0 0 (fun q => B ≤ q)) (F0 m 0 ls []) := by
  obtain ⟨hx, hb, hts, hown, hml, hr, hlk, hK⟩ := id C
  replace hf := Eq.trans f_X4_hoursOf_e.symm hf
  refine lv_iconst (v := 0) hx hb dX4_hoursOf_0 (by decide) ?_
  refine lv_istore_n (lv' := [(2, .int (0 : Int32)), (0, .ref (B + 101)), (1, .int x1)]) hx hb dX4_hoursOf_1 rfl hl (by decide) rfl (fun ls hl => ?_)
  refine lv_iconst (v := 0) hx hb dX4_hoursOf_2 (by decide) ?_
  refine lv_istore_n (lv' := [(3, .int (0 : Int32)), (2, .int (0 : Int32)), (0, .ref (B + 101)), (1, .int x1)]) hx hb dX4_hoursOf_3 rfl hl (by decide) rfl (fun ls hl => ?_)
  exact w_X4_hoursOf_4 C _ _ _ _ _ _ _ hf hM (lv_sub hl [2, 3, 1, 0] rfl)
end
set_option maxHeartbeats 4000000 in
set_option maxRecDepth 100000 in
theorem c_X4_hoursOf {l : Launch} {D : va_G} {tI tII : ClassId} {B F : Nat} {x1 : Int32} {σ σ' : Mem} {r : Int32} (hf : f_X4_hoursOf F x1 σ = some (r, σ')) : wt_Mi l yX4_hoursOf cX4_hoursOf 4 (some .int) rm_X4_hoursOf [.ref (B + 101), .int x1] D tI tII B σ r σ' := by
  refine Met.ofW (cc := cX4_hoursOf) (maxL := 4) (ret := (some .int)) (by decide) rfl ?_
  intro p e s m args below meth c s₁ B9 hml hv
  obtain ⟨rfl, hP, hK⟩ := hv
  have hl := lv_entry ([.ref (B + 101), .int x1]) (n := 4) (qz_b rfl)
  rw [lg_entry_eq]
  generalize (lg_sl ([.ref (B + 101), .int x1]) ++ List.replicate (4 - (lg_sl ([.ref (B + 101), .int x1])).length) Slot.unset).toArray = ls at hl ⊢
  exact w_X4_hoursOf_0 (wt_C_of B9 hml hK) hf ⟨hP, va_S.rf⟩ hl
section
variable {p : Program} {l : Launch} {e : Env} {s : State} {m : MethodId} {args : Array Value} {below : List Frame} {meth : Method} {c : Code} {D : va_G} {tI tII : ClassId} {B : Nat}
set_option maxHeartbeats 4000000 in
set_option maxRecDepth 100000 in
theorem w_X4_goDays_6 (C : wt_C p s m args meth c RX4 cX4_goDays 3 none D tI tII) {F : Nat} {x1 : Int32} {σ' : Mem} : ∀ (N : Nat) (x2 : Int32) (σ : Mem) (H : Heap) (locs : List Loc) (ls : Array Slot), lp_X4_goDays_6 F x1 N x2 σ = some ((), σ') → wt_St D tI tII B σ s H locs → lv_has ls 3 [(0, .ref (B + 101)), (1, .int x1), (2, .int x2)] → W p l e rm_X4_goDays s m args below meth c H locs 0 0 (MQ below (wt_Qv D tI tII B σ') args s 0 0 (fun q => B ≤ q)) (F0 m 6 ls []) := by
  obtain ⟨hx, hb, hts, hown, hml, hr, hlk, hK⟩ := id C
  intro N
  induction N with
  | zero => intro x2 σ H locs ls hf; exact wt_none (show (none : Option (Unit × Mem)) = some ((), σ') from hf)
  | succ N ih =>
    intro x2 σ H locs ls hf hM hl
    replace hf := Eq.trans lp_X4_goDays_6_s.symm hf
    refine lv_iload_n hx hb dX4_goDays_6 rfl (lv_at hl 2 rfl) ?_
    refine lv_bipush (v := 8) hx hb dX4_goDays_7 (by decide) ?_
    refine lv_aload_n hx hb dX4_goDays_9 rfl (lv_at hl 0 rfl) ?_
    refine gf_X4_lookers  hx hb hts hown hK hM tw_713 dX4_goDays_10 ?_
    refine lv_imul hx hb dX4_goDays_13 ?_
    refine wq_icmp_ge (tgt := 47) hx hb dX4_goDays_14 (by decide) hf (fun hf => ?_) (fun hf => ?_)
    · refine lv_aload_n hx hb dX4_goDays_47 rfl (lv_at hl 0 rfl) ?_
      refine lv_dup hx hb dX4_goDays_48 rfl ?_
      refine gf_X4_today  hx hb hts hown hK hM tw_719 dX4_goDays_49 ?_
      refine lv_iload_n hx hb dX4_goDays_52 rfl (lv_at hl 1 rfl) ?_
      refine lv_iadd hx hb dX4_goDays_53 ?_
      refine pf_X4_today  hx hb hts hown hK hM tw_719 dX4_goDays_54 hf (fun s1 H locs hf hM => ?_)
      exact wt_vret hx hb hr hlk hK hM hf dX4_goDays_57
    refine lv_aload_n hx hb dX4_goDays_17 rfl (lv_at hl 0 rfl) ?_
    refine gf_X4_counted  hx hb hts hown hK hM tw_717 dX4_goDays_18 ?_
    refine lv_iload_n hx hb dX4_goDays_21 rfl (lv_at hl 2 rfl) ?_
    refine lv_aload_n hx hb dX4_goDays_22 rfl (lv_at hl 0 rfl) ?_
    refine gf_X4_counted  hx hb hts hown hK hM tw_717 dX4_goDays_23 ?_
    refine lv_iload_n hx hb dX4_goDays_26 rfl (lv_at hl 2 rfl) ?_
    obtain ⟨i2, hf⟩ := wt_chk_of hf
    refine wt_ild hx hb hK hM wt_a107 i2 dX4_goDays_27 ?_
    refine lv_iload_n hx hb dX4_goDays_28 rfl (lv_at hl 1 rfl) ?_
    refine lv_aload_n hx hb dX4_goDays_29 rfl (lv_at hl 0 rfl) ?_
    refine gf_X4_brings  hx hb hts hown hK hM tw_722 dX4_goDays_30 ?_
    refine lv_iload_n hx hb dX4_goDays_33 rfl (lv_at hl 2 rfl) ?_
    refine wt_ild hx hb hK hM wt_a109 i2 dX4_goDays_34 ?_
    refine lv_imul hx hb dX4_goDays_35 ?_
    refine lv_iadd hx hb dX4_goDays_36 ?_
    refine wt_callSi (As := [.int ((σ 107 (Int32.toNatClampNeg x2)) + (x1 * (σ 109 (Int32.toNatClampNeg x2))))]) (rest := [.int x2, .ref (B + 107)]) hx hb hml hts hown hK hM cw_X4_118 hd_X4_held rfl ⟨qz_b rfl, qz_b rfl⟩ ⟨rfl, rfl⟩ hl.1 rfl (qz_b rfl) dX4_goDays_37 hf (fun _ _ h9 => c_X4_held h9) (fun r3 s4 H locs hf hM => ?_)
    refine wt_ist hx hb hK hM wt_a107 i2 dX4_goDays_40 hf (fun s5 H locs hf hM => ?_)
    refine lv_iinc (v := (x2 + (1 : Int32))) (lv' := [(2, .int (x2 + (1 : Int32))), (0, .ref (B + 101)), (1, .int x1)]) hx hb dX4_goDays_41 hl (k := 2) rfl rfl (by decide) rfl (fun ls hl => ?_)
    refine lv_goto (tgt := 6) hx hb dX4_goDays_44 (by decide) ?_
    exact ih _ _ _ _ _ hf hM (lv_sub hl [1, 2, 0] rfl)
set_option maxHeartbeats 4000000 in
set_option maxRecDepth 100000 in
theorem w_X4_goDays_0 (C : wt_C p s m args meth c RX4 cX4_goDays 3 none D tI tII) {F : Nat} {x1 : Int32} {σ : Mem} {σ' : Mem} {H : Heap} {locs : List Loc} {ls : Array Slot} (hf : f_X4_goDays F x1 σ = some ((), σ')) (hM : wt_St D tI tII B σ s H locs) (hl : lv_has ls 3 [(0, .ref (B + 101)), (1, .int x1)]) : W p l e rm_X4_goDays s m args below meth c H locs 0 0 (MQ below (wt_Qv D tI tII B σ') args s 0 0 (fun q => B ≤ q)) (F0 m 0 ls []) := by
  obtain ⟨hx, hb, hts, hown, hml, hr, hlk, hK⟩ := id C
  replace hf := Eq.trans f_X4_goDays_e.symm hf
  refine lv_aload_n hx hb dX4_goDays_0 rfl (lv_at hl 0 rfl) ?_
  refine wt_callVv (As := []) (rest := []) hx hb hml hts hown hK hM wt_rc_X4 cw_X4_134 hd_X4_layBrings rfl ⟨qz_b rfl, qz_b rfl⟩ ⟨rfl, rfl⟩ hl.1 rfl (qz_b rfl) dX4_goDays_1 hf (fun _ _ h9 => c_X4_layBrings h9) (fun r6 s7 H locs hf hM => ?_)
  refine lv_iconst (v := 0) hx hb dX4_goDays_4 (by decide) ?_
  refine lv_istore_n (lv' := [(2, .int (0 : Int32)), (0, .ref (B + 101)), (1, .int x1)]) hx hb dX4_goDays_5 rfl hl (by decide) rfl (fun ls hl => ?_)
  exact w_X4_goDays_6 C _ _ _ _ _ _ hf hM (lv_sub hl [1, 2, 0] rfl)
end
set_option maxHeartbeats 4000000 in
set_option maxRecDepth 100000 in
theorem c_X4_goDays {l : Launch} {D : va_G} {tI tII : ClassId} {B F : Nat} {x1 : Int32} {σ σ' : Mem} (hf : f_X4_goDays F x1 σ = some ((), σ')) : wt_Mv l yX4_goDays cX4_goDays 3 none rm_X4_goDays [.ref (B + 101), .int x1] D tI tII B σ σ' := by
  refine Met.ofW (cc := cX4_goDays) (maxL := 3) (ret := none) (by decide) rfl ?_
  intro p e s m args below meth c s₁ B9 hml hv
  obtain ⟨rfl, hP, hK⟩ := hv
  have hl := lv_entry ([.ref (B + 101), .int x1]) (n := 3) (qz_b rfl)
  rw [lg_entry_eq]
  generalize (lg_sl ([.ref (B + 101), .int x1]) ++ List.replicate (3 - (lg_sl ([.ref (B + 101), .int x1])).length) Slot.unset).toArray = ls at hl ⊢
  exact w_X4_goDays_0 (wt_C_of B9 hml hK) hf ⟨hP, va_S.rf⟩ hl
section
variable {p : Program} {l : Launch} {e : Env} {s : State} {m : MethodId} {args : Array Value} {below : List Frame} {meth : Method} {c : Code} {D : va_G} {tI tII : ClassId} {B : Nat}
set_option maxHeartbeats 4000000 in
set_option maxRecDepth 100000 in
theorem w_X4_owned_29 (C : wt_C p s m args meth c RX4 cX4_owned 3 (some .int) D tI tII) {F : Nat} {k8 : Int32 → Int32 → Mem → Option (Int32 × Mem)} {x2 : Int32} {t0 : Int32} {t1 : Int32} {σ : Mem} {r : Int32} {σ' : Mem} {H : Heap} {locs : List Loc} {ls : Array Slot} (hk8 : ∀ (x1 : Int32) (x2 : Int32) (σ : Mem) (H : Heap) (locs : List Loc) (ls : Array Slot), k8 x1 x2 σ = some (r, σ') → wt_St D tI tII B σ s H locs → lv_has ls 3 [(0, .ref (B + 101)), (1, .int x1), (2, .int x2)] → W p l e rm_X4_owned s m args below meth c H locs 0 0 (MQ below (wt_Qi D tI tII B r σ') args s 0 0 (fun q => B ≤ q)) (F0 m 8 ls [])) (hf : j_X4_owned_29 F k8 x2 t0 t1 σ = some (r, σ')) (hM : wt_St D tI tII B σ s H locs) (hl : lv_has ls 3 [(0, .ref (B + 101)), (2, .int x2)]) : W p l e rm_X4_owned s m args below meth c H locs 0 0 (MQ below (wt_Qi D tI tII B r σ') args s 0 0 (fun q => B ≤ q)) (F0 m 29 ls [.int t1, .int t0]) := by
  obtain ⟨hx, hb, hts, hown, hml, hr, hlk, hK⟩ := id C
  replace hf := Eq.trans j_X4_owned_29_e.symm hf
  refine lv_iadd hx hb dX4_owned_29 ?_
  refine lv_istore_n (lv' := [(1, .int (t0 + t1)), (0, .ref (B + 101)), (2, .int x2)]) hx hb dX4_owned_30 rfl hl (by decide) rfl (fun ls hl => ?_)
  refine lv_iinc (v := (x2 + (1 : Int32))) (lv' := [(2, .int (x2 + (1 : Int32))), (1, .int (t0 + t1)), (0, .ref (B + 101))]) hx hb dX4_owned_31 hl (k := 2) rfl rfl (by decide) rfl (fun ls hl => ?_)
  refine lv_goto (tgt := 8) hx hb dX4_owned_34 (by decide) ?_
  exact hk8 _ _ _ _ _ _ hf hM (lv_sub hl [2, 1, 0] rfl)
set_option maxHeartbeats 4000000 in
set_option maxRecDepth 100000 in
theorem w_X4_owned_8 (C : wt_C p s m args meth c RX4 cX4_owned 3 (some .int) D tI tII) {F : Nat} {r : Int32} {σ' : Mem} : ∀ (N : Nat) (x1 : Int32) (x2 : Int32) (σ : Mem) (H : Heap) (locs : List Loc) (ls : Array Slot), lp_X4_owned_8 F N x1 x2 σ = some (r, σ') → wt_St D tI tII B σ s H locs → lv_has ls 3 [(0, .ref (B + 101)), (1, .int x1), (2, .int x2)] → W p l e rm_X4_owned s m args below meth c H locs 0 0 (MQ below (wt_Qi D tI tII B r σ') args s 0 0 (fun q => B ≤ q)) (F0 m 8 ls []) := by
  obtain ⟨hx, hb, hts, hown, hml, hr, hlk, hK⟩ := id C
  intro N
  induction N with
  | zero => intro x1 x2 σ H locs ls hf; exact wt_none (show (none : Option (Int32 × Mem)) = some (r, σ') from hf)
  | succ N ih =>
    intro x1 x2 σ H locs ls hf hM hl
    replace hf := Eq.trans lp_X4_owned_8_s.symm hf
    refine lv_iload_n hx hb dX4_owned_8 rfl (lv_at hl 2 rfl) ?_
    refine lv_bipush (v := 8) hx hb dX4_owned_9 (by decide) ?_
    refine wq_icmp_ge (tgt := 37) hx hb dX4_owned_11 (by decide) hf (fun hf => ?_) (fun hf => ?_)
    · refine lv_iload_n hx hb dX4_owned_37 rfl (lv_at hl 1 rfl) ?_
      exact wt_iret hx hb hr hlk hK hM hf dX4_owned_38
    refine lv_iload_n hx hb dX4_owned_14 rfl (lv_at hl 1 rfl) ?_
    refine lv_aload_n hx hb dX4_owned_15 rfl (lv_at hl 0 rfl) ?_
    refine lv_iload_n hx hb dX4_owned_16 rfl (lv_at hl 2 rfl) ?_
    refine lv_iconst (v := 0) hx hb dX4_owned_17 (by decide) ?_
    refine wt_callVi (As := [.int x2, .int (0 : Int32)]) (rest := [.int x1]) hx hb hml hts hown hK hM wt_rc_X4 cw_X4_125 hd_X4_ownerIn rfl ⟨qz_b rfl, qz_b rfl⟩ ⟨rfl, rfl⟩ hl.1 rfl (qz_b rfl) dX4_owned_18 hf (fun _ _ h9 => c_X4_ownerIn h9) (fun r1 s2 H locs hf hM => ?_)
    refine wq_if_ge (tgt := 28) hx hb dX4_owned_21 (by decide) hf (fun hf => ?_) (fun hf => ?_)
    · refine lv_iconst (v := 1) hx hb dX4_owned_28 (by decide) ?_
      exact w_X4_owned_29 C ih hf hM (lv_sub hl [0, 2] rfl)
    refine lv_iconst (v := 0) hx hb dX4_owned_24 (by decide) ?_
    refine lv_goto (tgt := 29) hx hb dX4_owned_25 (by decide) ?_
    exact w_X4_owned_29 C ih hf hM (lv_sub hl [0, 2] rfl)
set_option maxHeartbeats 4000000 in
set_option maxRecDepth 100000 in
theorem w_X4_owned_0 (C : wt_C p s m args meth c RX4 cX4_owned 3 (some .int) D tI tII) {F : Nat} {σ : Mem} {r : Int32} {σ' : Mem} {H : Heap} {locs : List Loc} {ls : Array Slot} (hf : f_X4_owned F σ = some (r, σ')) (hM : wt_St D tI tII B σ s H locs) (hl : lv_has ls 3 [(0, .ref (B + 101))]) : W p l e rm_X4_owned s m args below meth c H locs 0 0 (MQ below (wt_Qi D tI tII B r σ') args s 0 0 (fun q => B ≤ q)) (F0 m 0 ls []) := by
  obtain ⟨hx, hb, hts, hown, hml, hr, hlk, hK⟩ := id C
  replace hf := Eq.trans f_X4_owned_e.symm hf
  refine lv_aload_n hx hb dX4_owned_0 rfl (lv_at hl 0 rfl) ?_
  refine wt_callVv (As := []) (rest := []) hx hb hml hts hown hK hM wt_rc_X4 cw_X4_134 hd_X4_layBrings rfl ⟨qz_b rfl, qz_b rfl⟩ ⟨rfl, rfl⟩ hl.1 rfl (qz_b rfl) dX4_owned_1 hf (fun _ _ h9 => c_X4_layBrings h9) (fun r3 s4 H locs hf hM => ?_)
  refine lv_iconst (v := 0) hx hb dX4_owned_4 (by decide) ?_
  refine lv_istore_n (lv' := [(1, .int (0 : Int32)), (0, .ref (B + 101))]) hx hb dX4_owned_5 rfl hl (by decide) rfl (fun ls hl => ?_)
  refine lv_iconst (v := 0) hx hb dX4_owned_6 (by decide) ?_
  refine lv_istore_n (lv' := [(2, .int (0 : Int32)), (1, .int (0 : Int32)), (0, .ref (B + 101))]) hx hb dX4_owned_7 rfl hl (by decide) rfl (fun ls hl => ?_)
  exact w_X4_owned_8 C _ _ _ _ _ _ _ hf hM (lv_sub hl [2, 1, 0] rfl)
end
set_option maxHeartbeats 4000000 in
set_option maxRecDepth 100000 in
theorem c_X4_owned {l : Launch} {D : va_G} {tI tII : ClassId} {B F : Nat} {σ σ' : Mem} {r : Int32} (hf : f_X4_owned F σ = some (r, σ')) : wt_Mi l yX4_owned cX4_owned 3 (some .int) rm_X4_owned [.ref (B + 101)] D tI tII B σ r σ' := by
  refine Met.ofW (cc := cX4_owned) (maxL := 3) (ret := (some .int)) (by decide) rfl ?_
  intro p e s m args below meth c s₁ B9 hml hv
  obtain ⟨rfl, hP, hK⟩ := hv
  have hl := lv_entry ([.ref (B + 101)]) (n := 3) (qz_b rfl)
  rw [lg_entry_eq]
  generalize (lg_sl ([.ref (B + 101)]) ++ List.replicate (3 - (lg_sl ([.ref (B + 101)])).length) Slot.unset).toArray = ls at hl ⊢
  exact w_X4_owned_0 (wt_C_of B9 hml hK) hf ⟨hP, va_S.rf⟩ hl
section
variable {p : Program} {l : Launch} {e : Env} {s : State} {m : MethodId} {args : Array Value} {below : List Frame} {meth : Method} {c : Code} {D : va_G} {tI tII : ClassId} {B : Nat}
set_option maxHeartbeats 4000000 in
set_option maxRecDepth 100000 in
theorem w_X4_feed_32 (C : wt_C p s m args meth c RX4 cX4_feed 2 (some .int) D tI tII) {F : Nat} {σ : Mem} {r : Int32} {σ' : Mem} {H : Heap} {locs : List Loc} {ls : Array Slot} (hf : j_X4_feed_32 F σ = some (r, σ')) (hM : wt_St D tI tII B σ s H locs) (hl : lv_has ls 2 [(0, .ref (B + 101))]) : W p l e rm_X4_feed s m args below meth c H locs 0 0 (MQ below (wt_Qi D tI tII B r σ') args s 0 0 (fun q => B ≤ q)) (F0 m 32 ls []) := by
  obtain ⟨hx, hb, hts, hown, hml, hr, hlk, hK⟩ := id C
  replace hf := Eq.trans j_X4_feed_32_e.symm hf
  refine lv_aload_n hx hb dX4_feed_32 rfl (lv_at hl 0 rfl) ?_
  refine lv_bipush (v := -6) hx hb dX4_feed_33 (by decide) ?_
  refine wt_callVi (As := [.int (-6 : Int32)]) (rest := []) hx hb hml hts hown hK hM wt_rc_X4 cw_X4_143 hd_X4_refuse rfl ⟨qz_b rfl, qz_b rfl⟩ ⟨rfl, rfl⟩ hl.1 rfl (qz_b rfl) dX4_feed_35 hf (fun _ _ h9 => c_X4_refuse h9) (fun r1 s2 H locs hf hM => ?_)
  exact wt_iret hx hb hr hlk hK hM hf dX4_feed_38
set_option maxHeartbeats 4000000 in
set_option maxRecDepth 100000 in
theorem w_X4_feed_0 (C : wt_C p s m args meth c RX4 cX4_feed 2 (some .int) D tI tII) {F : Nat} {x1 : Int32} {σ : Mem} {r : Int32} {σ' : Mem} {H : Heap} {locs : List Loc} {ls : Array Slot} (hf : f_X4_feed F x1 σ = some (r, σ')) (hM : wt_St D tI tII B σ s H locs) (hl : lv_has ls 2 [(0, .ref (B + 101)), (1, .int x1)]) : W p l e rm_X4_feed s m args below meth c H locs 0 0 (MQ below (wt_Qi D tI tII B r σ') args s 0 0 (fun q => B ≤ q)) (F0 m 0 ls []) := by
  obtain ⟨hx, hb, hts, hown, hml, hr, hlk, hK⟩ := id C
  replace hf := Eq.trans f_X4_feed_e.symm hf
  refine lv_aload_n hx hb dX4_feed_0 rfl (lv_at hl 0 rfl) ?_
  refine lv_iconst (v := 0) hx hb dX4_feed_1 (by decide) ?_
  refine pf_X4_thrown  hx hb hts hown hK hM tw_720 dX4_feed_2 hf (fun s3 H locs hf hM => ?_)
  refine lv_iload_n hx hb dX4_feed_5 rfl (lv_at hl 1 rfl) ?_
  refine wq_if_ge (tgt := 16) hx hb dX4_feed_6 (by decide) hf (fun hf => ?_) (fun hf => ?_)
  · refine lv_iload_n hx hb dX4_feed_16 rfl (lv_at hl 1 rfl) ?_
    refine lv_sipush (v := 255) hx hb dX4_feed_17 (by decide) ?_
    refine wq_icmp_gt (tgt := 32) hx hb dX4_feed_20 (by decide) hf (fun hf => ?_) (fun hf => ?_)
    · exact w_X4_feed_32 C hf hM (lv_sub hl [0] rfl)
    refine lv_aload_n hx hb dX4_feed_23 rfl (lv_at hl 0 rfl) ?_
    refine gf_X4_letterMany  hx hb hts hown hK hM tw_725 dX4_feed_24 ?_
    refine lv_bipush (v := 96) hx hb dX4_feed_27 (by decide) ?_
    refine wq_icmp_ne (tgt := 39) hx hb dX4_feed_29 (by decide) hf (fun hf => ?_) (fun hf => ?_)
    · refine lv_aload_n hx hb dX4_feed_39 rfl (lv_at hl 0 rfl) ?_
      refine gf_X4_letters  hx hb hts hown hK hM tw_724 dX4_feed_40 ?_
      refine lv_aload_n hx hb dX4_feed_43 rfl (lv_at hl 0 rfl) ?_
      refine gf_X4_letterMany  hx hb hts hown hK hM tw_725 dX4_feed_44 ?_
      refine lv_iload_n hx hb dX4_feed_47 rfl (lv_at hl 1 rfl) ?_
      obtain ⟨i4, hf⟩ := wt_chk_of hf
      refine wt_ist hx hb hK hM wt_a111 i4 dX4_feed_48 hf (fun s5 H locs hf hM => ?_)
      refine lv_aload_n hx hb dX4_feed_49 rfl (lv_at hl 0 rfl) ?_
      refine lv_dup hx hb dX4_feed_50 rfl ?_
      refine gf_X4_letterMany  hx hb hts hown hK hM tw_725 dX4_feed_51 ?_
      refine lv_iconst (v := 1) hx hb dX4_feed_54 (by decide) ?_
      refine lv_iadd hx hb dX4_feed_55 ?_
      refine pf_X4_letterMany  hx hb hts hown hK hM tw_725 dX4_feed_56 hf (fun s6 H locs hf hM => ?_)
      refine lv_aload_n hx hb dX4_feed_59 rfl (lv_at hl 0 rfl) ?_
      refine gf_X4_letterMany  hx hb hts hown hK hM tw_725 dX4_feed_60 ?_
      exact wt_iret hx hb hr hlk hK hM hf dX4_feed_63
    exact w_X4_feed_32 C hf hM (lv_sub hl [0] rfl)
  refine lv_aload_n hx hb dX4_feed_9 rfl (lv_at hl 0 rfl) ?_
  refine lv_bipush (v := -4) hx hb dX4_feed_10 (by decide) ?_
  refine wt_callVi (As := [.int (-4 : Int32)]) (rest := []) hx hb hml hts hown hK hM wt_rc_X4 cw_X4_143 hd_X4_refuse rfl ⟨qz_b rfl, qz_b rfl⟩ ⟨rfl, rfl⟩ hl.1 rfl (qz_b rfl) dX4_feed_12 hf (fun _ _ h9 => c_X4_refuse h9) (fun r7 s8 H locs hf hM => ?_)
  exact wt_iret hx hb hr hlk hK hM hf dX4_feed_15
end
set_option maxHeartbeats 4000000 in
set_option maxRecDepth 100000 in
theorem c_X4_feed {l : Launch} {D : va_G} {tI tII : ClassId} {B F : Nat} {x1 : Int32} {σ σ' : Mem} {r : Int32} (hf : f_X4_feed F x1 σ = some (r, σ')) : wt_Mi l yX4_feed cX4_feed 2 (some .int) rm_X4_feed [.ref (B + 101), .int x1] D tI tII B σ r σ' := by
  refine Met.ofW (cc := cX4_feed) (maxL := 2) (ret := (some .int)) (by decide) rfl ?_
  intro p e s m args below meth c s₁ B9 hml hv
  obtain ⟨rfl, hP, hK⟩ := hv
  have hl := lv_entry ([.ref (B + 101), .int x1]) (n := 2) (qz_b rfl)
  rw [lg_entry_eq]
  generalize (lg_sl ([.ref (B + 101), .int x1]) ++ List.replicate (2 - (lg_sl ([.ref (B + 101), .int x1])).length) Slot.unset).toArray = ls at hl ⊢
  exact w_X4_feed_0 (wt_C_of B9 hml hK) hf ⟨hP, va_S.rf⟩ hl
section
variable {p : Program} {l : Launch} {e : Env} {s : State} {m : MethodId} {args : Array Value} {below : List Frame} {meth : Method} {c : Code} {D : va_G} {tI tII : ClassId} {B : Nat}
set_option maxHeartbeats 4000000 in
set_option maxRecDepth 100000 in
theorem w_X4_here_0 (C : wt_C p s m args meth c RX4 cX4_here 1 (some .int) D tI tII) {F : Nat} {σ : Mem} {r : Int32} {σ' : Mem} {H : Heap} {locs : List Loc} {ls : Array Slot} (hf : f_X4_here F σ = some (r, σ')) (hM : wt_St D tI tII B σ s H locs) (hl : lv_has ls 1 [(0, .ref (B + 101))]) : W p l e rm_X4_here s m args below meth c H locs 0 0 (MQ below (wt_Qi D tI tII B r σ') args s 0 0 (fun q => B ≤ q)) (F0 m 0 ls []) := by
  obtain ⟨hx, hb, hts, hown, hml, hr, hlk, hK⟩ := id C
  replace hf := Eq.trans f_X4_here_e.symm hf
  refine lv_aload_n hx hb dX4_here_0 rfl (lv_at hl 0 rfl) ?_
  refine gf_X4_at  hx hb hts hown hK hM tw_726 dX4_here_1 ?_
  refine lv_aload_n hx hb dX4_here_4 rfl (lv_at hl 0 rfl) ?_
  refine gf_X4_letterMany  hx hb hts hown hK hM tw_725 dX4_here_5 ?_
  refine wq_icmp_ge (tgt := 23) hx hb dX4_here_8 (by decide) hf (fun hf => ?_) (fun hf => ?_)
  · refine lv_iconst (v := -1) hx hb dX4_here_23 (by decide) ?_
    exact wt_iret hx hb hr hlk hK hM hf dX4_here_24
  refine lv_aload_n hx hb dX4_here_11 rfl (lv_at hl 0 rfl) ?_
  refine gf_X4_letters  hx hb hts hown hK hM tw_724 dX4_here_12 ?_
  refine lv_aload_n hx hb dX4_here_15 rfl (lv_at hl 0 rfl) ?_
  refine gf_X4_at  hx hb hts hown hK hM tw_726 dX4_here_16 ?_
  obtain ⟨i1, hf⟩ := wt_chk_of hf
  refine wt_ild hx hb hK hM wt_a111 i1 dX4_here_19 ?_
  refine lv_goto (tgt := 24) hx hb dX4_here_20 (by decide) ?_
  exact wt_iret hx hb hr hlk hK hM hf dX4_here_24
end
set_option maxHeartbeats 4000000 in
set_option maxRecDepth 100000 in
theorem c_X4_here {l : Launch} {D : va_G} {tI tII : ClassId} {B F : Nat} {σ σ' : Mem} {r : Int32} (hf : f_X4_here F σ = some (r, σ')) : wt_Mi l yX4_here cX4_here 1 (some .int) rm_X4_here [.ref (B + 101)] D tI tII B σ r σ' := by
  refine Met.ofW (cc := cX4_here) (maxL := 1) (ret := (some .int)) (by decide) rfl ?_
  intro p e s m args below meth c s₁ B9 hml hv
  obtain ⟨rfl, hP, hK⟩ := hv
  have hl := lv_entry ([.ref (B + 101)]) (n := 1) (qz_b rfl)
  rw [lg_entry_eq]
  generalize (lg_sl ([.ref (B + 101)]) ++ List.replicate (1 - (lg_sl ([.ref (B + 101)])).length) Slot.unset).toArray = ls at hl ⊢
  exact w_X4_here_0 (wt_C_of B9 hml hK) hf ⟨hP, va_S.rf⟩ hl
section
variable {p : Program} {l : Launch} {e : Env} {s : State} {m : MethodId} {args : Array Value} {below : List Frame} {meth : Method} {c : Code} {D : va_G} {tI tII : ClassId} {B : Nat}
set_option maxHeartbeats 4000000 in
set_option maxRecDepth 100000 in
theorem w_X4_readDigits_88 (C : wt_C p s m args meth c RX4 cX4_readDigits 4 (some .int) D tI tII) {F : Nat} {k4 : Int32 → Int32 → Mem → Option (Int32 × Mem)} {x1 : Int32} {x2 : Int32} {x3 : Int32} {t1 : Int32} {t2 : Int32} {σ : Mem} {r : Int32} {σ' : Mem} {H : Heap} {locs : List Loc} {ls : Array Slot} (hk4 : ∀ (x2 : Int32) (x3 : Int32) (σ : Mem) (H : Heap) (locs : List Loc) (ls : Array Slot), k4 x2 x3 σ = some (r, σ') → wt_St D tI tII B σ s H locs → lv_has ls 4 [(0, .ref (B + 101)), (1, .int x1), (2, .int x2), (3, .int x3)] → W p l e rm_X4_readDigits s m args below meth c H locs 0 0 (MQ below (wt_Qi D tI tII B r σ') args s 0 0 (fun q => B ≤ q)) (F0 m 4 ls [])) (hf : j_X4_readDigits_88 F k4 x1 x2 x3 t1 t2 σ = some (r, σ')) (hM : wt_St D tI tII B σ s H locs) (hl : lv_has ls 4 [(0, .ref (B + 101)), (1, .int x1), (2, .int x2), (3, .int x3)]) : W p l e rm_X4_readDigits s m args below meth c H locs 0 0 (MQ below (wt_Qi D tI tII B r σ') args s 0 0 (fun q => B ≤ q)) (F0 m 88 ls [.int t2, .int t1, .ref (B + 101)]) := by
  obtain ⟨hx, hb, hts, hown, hml, hr, hlk, hK⟩ := id C
  replace hf := Eq.trans j_X4_readDigits_88_e.symm hf
  refine lv_iadd hx hb dX4_readDigits_88 ?_
  refine pf_X4_at  hx hb hts hown hK hM tw_726 dX4_readDigits_89 hf (fun s1 H locs hf hM => ?_)
  refine lv_iinc (v := (x3 + (1 : Int32))) (lv' := [(3, .int (x3 + (1 : Int32))), (0, .ref (B + 101)), (1, .int x1), (2, .int x2)]) hx hb dX4_readDigits_92 hl (k := 3) rfl rfl (by decide) rfl (fun ls hl => ?_)
  refine lv_goto (tgt := 4) hx hb dX4_readDigits_95 (by decide) ?_
  exact hk4 _ _ _ _ _ _ hf hM (lv_sub hl [1, 2, 3, 0] rfl)
set_option maxHeartbeats 4000000 in
set_option maxRecDepth 100000 in
theorem w_X4_readDigits_70 (C : wt_C p s m args meth c RX4 cX4_readDigits 4 (some .int) D tI tII) {F : Nat} {k4 : Int32 → Int32 → Mem → Option (Int32 × Mem)} {x1 : Int32} {x3 : Int32} {t0 : Int32} {σ : Mem} {r : Int32} {σ' : Mem} {H : Heap} {locs : List Loc} {ls : Array Slot} (hk4 : ∀ (x2 : Int32) (x3 : Int32) (σ : Mem) (H : Heap) (locs : List Loc) (ls : Array Slot), k4 x2 x3 σ = some (r, σ') → wt_St D tI tII B σ s H locs → lv_has ls 4 [(0, .ref (B + 101)), (1, .int x1), (2, .int x2), (3, .int x3)] → W p l e rm_X4_readDigits s m args below meth c H locs 0 0 (MQ below (wt_Qi D tI tII B r σ') args s 0 0 (fun q => B ≤ q)) (F0 m 4 ls [])) (hf : j_X4_readDigits_70 F k4 x1 x3 t0 σ = some (r, σ')) (hM : wt_St D tI tII B σ s H locs) (hl : lv_has ls 4 [(0, .ref (B + 101)), (1, .int x1), (3, .int x3)]) : W p l e rm_X4_readDigits s m args below meth c H locs 0 0 (MQ below (wt_Qi D tI tII B r σ') args s 0 0 (fun q => B ≤ q)) (F0 m 70 ls [.int t0]) := by
  obtain ⟨hx, hb, hts, hown, hml, hr, hlk, hK⟩ := id C
  replace hf := Eq.trans j_X4_readDigits_70_e.symm hf
  refine lv_istore_n (lv' := [(2, .int t0), (0, .ref (B + 101)), (1, .int x1), (3, .int x3)]) hx hb dX4_readDigits_70 rfl hl (by decide) rfl (fun ls hl => ?_)
  refine lv_aload_n hx hb dX4_readDigits_71 rfl (lv_at hl 1 rfl) ?_
  refine lv_dup hx hb dX4_readDigits_72 rfl ?_
  refine gf_X4_at  hx hb hts hown hK hM tw_726 dX4_readDigits_73 ?_
  refine lv_aload_n hx hb dX4_readDigits_76 rfl (lv_at hl 1 rfl) ?_
  refine gf_X4_isBad  hx hb hts hown hK hM tw_727 dX4_readDigits_77 ?_
  refine wq_if_eq (tgt := 87) hx hb dX4_readDigits_80 (by decide) hf (fun hf => ?_) (fun hf => ?_)
  · refine lv_iconst (v := 1) hx hb dX4_readDigits_87 (by decide) ?_
    exact w_X4_readDigits_88 C hk4 hf hM (lv_sub hl [1, 2, 0, 3] rfl)
  refine lv_iconst (v := 0) hx hb dX4_readDigits_83 (by decide) ?_
  refine lv_goto (tgt := 88) hx hb dX4_readDigits_84 (by decide) ?_
  exact w_X4_readDigits_88 C hk4 hf hM (lv_sub hl [1, 2, 0, 3] rfl)
set_option maxHeartbeats 4000000 in
set_option maxRecDepth 100000 in
theorem w_X4_readDigits_39 (C : wt_C p s m args meth c RX4 cX4_readDigits 4 (some .int) D tI tII) {F : Nat} {k4 : Int32 → Int32 → Mem → Option (Int32 × Mem)} {x1 : Int32} {x2 : Int32} {x3 : Int32} {t1 : Int32} {σ : Mem} {r : Int32} {σ' : Mem} {H : Heap} {locs : List Loc} {ls : Array Slot} (hk4 : ∀ (x2 : Int32) (x3 : Int32) (σ : Mem) (H : Heap) (locs : List Loc) (ls : Array Slot), k4 x2 x3 σ = some (r, σ') → wt_St D tI tII B σ s H locs → lv_has ls 4 [(0, .ref (B + 101)), (1, .int x1), (2, .int x2), (3, .int x3)] → W p l e rm_X4_readDigits s m args below meth c H locs 0 0 (MQ below (wt_Qi D tI tII B r σ') args s 0 0 (fun q => B ≤ q)) (F0 m 4 ls [])) (hf : j_X4_readDigits_39 F k4 x1 x2 x3 t1 σ = some (r, σ')) (hM : wt_St D tI tII B σ s H locs) (hl : lv_has ls 4 [(0, .ref (B + 101)), (1, .int x1), (2, .int x2), (3, .int x3)]) : W p l e rm_X4_readDigits s m args below meth c H locs 0 0 (MQ below (wt_Qi D tI tII B r σ') args s 0 0 (fun q => B ≤ q)) (F0 m 39 ls [.int t1, .ref (B + 101)]) := by
  obtain ⟨hx, hb, hts, hown, hml, hr, hlk, hK⟩ := id C
  replace hf := Eq.trans j_X4_readDigits_39_e.symm hf
  obtain ⟨hz3, hf⟩ := wt_bz_of hf
  refine pf_X4_isBad  hx hb hts hown hK hM tw_727 hz3 dX4_readDigits_39 hf (fun s2 H locs hf hM => ?_)
  refine lv_aload_n hx hb dX4_readDigits_42 rfl (lv_at hl 0 rfl) ?_
  refine gf_X4_isBad  hx hb hts hown hK hM tw_727 dX4_readDigits_43 ?_
  refine wq_if_eq (tgt := 53) hx hb dX4_readDigits_46 (by decide) hf (fun hf => ?_) (fun hf => ?_)
  · refine lv_bipush (v := 10) hx hb dX4_readDigits_53 (by decide) ?_
    refine lv_iload_n hx hb dX4_readDigits_55 rfl (lv_at hl 2 rfl) ?_
    refine lv_imul hx hb dX4_readDigits_56 ?_
    refine lv_aload_n hx hb dX4_readDigits_57 rfl (lv_at hl 0 rfl) ?_
    refine gf_X4_letters  hx hb hts hown hK hM tw_724 dX4_readDigits_58 ?_
    refine lv_aload_n hx hb dX4_readDigits_61 rfl (lv_at hl 0 rfl) ?_
    refine gf_X4_at  hx hb hts hown hK hM tw_726 dX4_readDigits_62 ?_
    obtain ⟨i4, hf⟩ := wt_chk_of hf
    refine wt_ild hx hb hK hM wt_a111 i4 dX4_readDigits_65 ?_
    refine lv_iadd hx hb dX4_readDigits_66 ?_
    refine lv_bipush (v := 48) hx hb dX4_readDigits_67 (by decide) ?_
    refine lv_isub hx hb dX4_readDigits_69 ?_
    exact w_X4_readDigits_70 C hk4 hf hM (lv_sub hl [0, 1, 3] rfl)
  refine lv_iconst (v := 0) hx hb dX4_readDigits_49 (by decide) ?_
  refine lv_goto (tgt := 70) hx hb dX4_readDigits_50 (by decide) ?_
  exact w_X4_readDigits_70 C hk4 hf hM (lv_sub hl [0, 1, 3] rfl)
set_option maxHeartbeats 4000000 in
set_option maxRecDepth 100000 in
theorem w_X4_readDigits_34 (C : wt_C p s m args meth c RX4 cX4_readDigits 4 (some .int) D tI tII) {F : Nat} {k4 : Int32 → Int32 → Mem → Option (Int32 × Mem)} {x1 : Int32} {x2 : Int32} {x3 : Int32} {σ : Mem} {r : Int32} {σ' : Mem} {H : Heap} {locs : List Loc} {ls : Array Slot} (hk4 : ∀ (x2 : Int32) (x3 : Int32) (σ : Mem) (H : Heap) (locs : List Loc) (ls : Array Slot), k4 x2 x3 σ = some (r, σ') → wt_St D tI tII B σ s H locs → lv_has ls 4 [(0, .ref (B + 101)), (1, .int x1), (2, .int x2), (3, .int x3)] → W p l e rm_X4_readDigits s m args below meth c H locs 0 0 (MQ below (wt_Qi D tI tII B r σ') args s 0 0 (fun q => B ≤ q)) (F0 m 4 ls [])) (hf : j_X4_readDigits_34 F k4 x1 x2 x3 σ = some (r, σ')) (hM : wt_St D tI tII B σ s H locs) (hl : lv_has ls 4 [(0, .ref (B + 101)), (1, .int x1), (2, .int x2), (3, .int x3)]) : W p l e rm_X4_readDigits s m args below meth c H locs 0 0 (MQ below (wt_Qi D tI tII B r σ') args s 0 0 (fun q => B ≤ q)) (F0 m 34 ls [.ref (B + 101)]) := by
  obtain ⟨hx, hb, hts, hown, hml, hr, hlk, hK⟩ := id C
  replace hf := Eq.trans j_X4_readDigits_34_e.symm hf
  refine lv_iconst (v := 1) hx hb dX4_readDigits_34 (by decide) ?_
  refine lv_goto (tgt := 39) hx hb dX4_readDigits_35 (by decide) ?_
  exact w_X4_readDigits_39 C hk4 hf hM hl
set_option maxHeartbeats 4000000 in
set_option maxRecDepth 100000 in
theorem w_X4_readDigits_4 (C : wt_C p s m args meth c RX4 cX4_readDigits 4 (some .int) D tI tII) {F : Nat} {x1 : Int32} {r : Int32} {σ' : Mem} : ∀ (N : Nat) (x2 : Int32) (x3 : Int32) (σ : Mem) (H : Heap) (locs : List Loc) (ls : Array Slot), lp_X4_readDigits_4 F x1 N x2 x3 σ = some (r, σ') → wt_St D tI tII B σ s H locs → lv_has ls 4 [(0, .ref (B + 101)), (1, .int x1), (2, .int x2), (3, .int x3)] → W p l e rm_X4_readDigits s m args below meth c H locs 0 0 (MQ below (wt_Qi D tI tII B r σ') args s 0 0 (fun q => B ≤ q)) (F0 m 4 ls []) := by
  obtain ⟨hx, hb, hts, hown, hml, hr, hlk, hK⟩ := id C
  intro N
  induction N with
  | zero => intro x2 x3 σ H locs ls hf; exact wt_none (show (none : Option (Int32 × Mem)) = some (r, σ') from hf)
  | succ N ih =>
    intro x2 x3 σ H locs ls hf hM hl
    replace hf := Eq.trans lp_X4_readDigits_4_s.symm hf
    refine lv_iload_n hx hb dX4_readDigits_4 rfl (lv_at hl 3 rfl) ?_
    refine lv_iload_n hx hb dX4_readDigits_5 rfl (lv_at hl 1 rfl) ?_
    refine wq_icmp_ge (tgt := 98) hx hb dX4_readDigits_6 (by decide) hf (fun hf => ?_) (fun hf => ?_)
    · refine lv_iload_n hx hb dX4_readDigits_98 rfl (lv_at hl 2 rfl) ?_
      exact wt_iret hx hb hr hlk hK hM hf dX4_readDigits_99
    refine lv_aload_n hx hb dX4_readDigits_9 rfl (lv_at hl 0 rfl) ?_
    refine lv_aload_n hx hb dX4_readDigits_10 rfl (lv_at hl 0 rfl) ?_
    refine gf_X4_isBad  hx hb hts hown hK hM tw_727 dX4_readDigits_11 ?_
    refine wq_if_ne (tgt := 34) hx hb dX4_readDigits_14 (by decide) hf (fun hf => ?_) (fun hf => ?_)
    · exact w_X4_readDigits_34 C ih hf hM hl
    refine lv_aload_n hx hb dX4_readDigits_17 rfl (lv_at hl 0 rfl) ?_
    refine wt_callVi (As := []) (rest := [.ref (B + 101)]) hx hb hml hts hown hK hM wt_rc_X4 cw_X4_156 hd_X4_here rfl ⟨qz_b rfl, qz_b rfl⟩ ⟨rfl, rfl⟩ hl.1 rfl (qz_b rfl) dX4_readDigits_18 hf (fun _ _ h9 => c_X4_here h9) (fun r5 s6 H locs hf hM => ?_)
    refine lv_i2l (v := (Int32.toInt64 r5)) hx hb dX4_readDigits_21 rfl ?_
    refine lv_ldc2 (v := 48) hx hb hown (hts _ tw_850) dX4_readDigits_22 ?_
    refine lv_ldc2 (v := 57) hx hb hown (hts _ tw_851) dX4_readDigits_25 ?_
    refine wt_callSi (As := [.long (Int32.toInt64 r5), .long (48 : Int64), .long (57 : Int64)]) (rest := [.ref (B + 101)]) hx hb hml hts hown hK hM cw_X4_77 hd_X4_in rfl ⟨qz_b rfl, qz_b rfl⟩ ⟨rfl, rfl⟩ hl.1 rfl (qz_b rfl) dX4_readDigits_28 hf (fun _ _ h9 => c_X4_in h9) (fun r7 s8 H locs hf hM => ?_)
    refine wq_if_ne (tgt := 38) hx hb dX4_readDigits_31 (by decide) hf (fun hf => ?_) (fun hf => ?_)
    · refine lv_iconst (v := 0) hx hb dX4_readDigits_38 (by decide) ?_
      exact w_X4_readDigits_39 C ih hf hM hl
    exact w_X4_readDigits_34 C ih hf hM hl
set_option maxHeartbeats 4000000 in
set_option maxRecDepth 100000 in
theorem w_X4_readDigits_0 (C : wt_C p s m args meth c RX4 cX4_readDigits 4 (some .int) D tI tII) {F : Nat} {x1 : Int32} {σ : Mem} {r : Int32} {σ' : Mem} {H : Heap} {locs : List Loc} {ls : Array Slot} (hf : f_X4_readDigits F x1 σ = some (r, σ')) (hM : wt_St D tI tII B σ s H locs) (hl : lv_has ls 4 [(0, .ref (B + 101)), (1, .int x1)]) : W p l e rm_X4_readDigits s m args below meth c H locs 0 0 (MQ below (wt_Qi D tI tII B r σ') args s 0 0 (fun q => B ≤ q)) (F0 m 0 ls []) := by
  obtain ⟨hx, hb, hts, hown, hml, hr, hlk, hK⟩ := id C
  replace hf := Eq.trans f_X4_readDigits_e.symm hf
  refine lv_iconst (v := 0) hx hb dX4_readDigits_0 (by decide) ?_
  refine lv_istore_n (lv' := [(2, .int (0 : Int32)), (0, .ref (B + 101)), (1, .int x1)]) hx hb dX4_readDigits_1 rfl hl (by decide) rfl (fun ls hl => ?_)
  refine lv_iconst (v := 0) hx hb dX4_readDigits_2 (by decide) ?_
  refine lv_istore_n (lv' := [(3, .int (0 : Int32)), (2, .int (0 : Int32)), (0, .ref (B + 101)), (1, .int x1)]) hx hb dX4_readDigits_3 rfl hl (by decide) rfl (fun ls hl => ?_)
  exact w_X4_readDigits_4 C _ _ _ _ _ _ _ hf hM (lv_sub hl [2, 3, 1, 0] rfl)
end
set_option maxHeartbeats 4000000 in
set_option maxRecDepth 100000 in
theorem c_X4_readDigits {l : Launch} {D : va_G} {tI tII : ClassId} {B F : Nat} {x1 : Int32} {σ σ' : Mem} {r : Int32} (hf : f_X4_readDigits F x1 σ = some (r, σ')) : wt_Mi l yX4_readDigits cX4_readDigits 4 (some .int) rm_X4_readDigits [.ref (B + 101), .int x1] D tI tII B σ r σ' := by
  refine Met.ofW (cc := cX4_readDigits) (maxL := 4) (ret := (some .int)) (by decide) rfl ?_
  intro p e s m args below meth c s₁ B9 hml hv
  obtain ⟨rfl, hP, hK⟩ := hv
  have hl := lv_entry ([.ref (B + 101), .int x1]) (n := 4) (qz_b rfl)
  rw [lg_entry_eq]
  generalize (lg_sl ([.ref (B + 101), .int x1]) ++ List.replicate (4 - (lg_sl ([.ref (B + 101), .int x1])).length) Slot.unset).toArray = ls at hl ⊢
  exact w_X4_readDigits_0 (wt_C_of B9 hml hK) hf ⟨hP, va_S.rf⟩ hl
section
variable {p : Program} {l : Launch} {e : Env} {s : State} {m : MethodId} {args : Array Value} {below : List Frame} {meth : Method} {c : Code} {D : va_G} {tI tII : ClassId} {B : Nat}
set_option maxHeartbeats 4000000 in
set_option maxRecDepth 100000 in
theorem w_X4_isLetter_42 (C : wt_C p s m args meth c RX4 cX4_isLetter 1 (some .boolean) D tI tII) {F : Nat} {σ : Mem} {r : Int32} {σ' : Mem} {H : Heap} {locs : List Loc} {ls : Array Slot} (hf : j_X4_isLetter_42 F σ = some (r, σ')) (hM : wt_St D tI tII B σ s H locs) (hl : lv_has ls 1 []) : W p l e rm_X4_isLetter s m args below meth c H locs 0 0 (MQ below (wt_Qi D tI tII B r σ') args s 0 0 (fun q => B ≤ q)) (F0 m 42 ls []) := by
  obtain ⟨hx, hb, hts, hown, hml, hr, hlk, hK⟩ := id C
  replace hf := Eq.trans j_X4_isLetter_42_e.symm hf
  refine lv_iconst (v := 1) hx hb dX4_isLetter_42 (by decide) ?_
  refine lv_goto (tgt := 47) hx hb dX4_isLetter_43 (by decide) ?_
  exact wt_zret hx hb hr hlk hK hM (by decide) hf dX4_isLetter_47
set_option maxHeartbeats 4000000 in
set_option maxRecDepth 100000 in
theorem w_X4_isLetter_0 (C : wt_C p s m args meth c RX4 cX4_isLetter 1 (some .boolean) D tI tII) {F : Nat} {x0 : Int32} {σ : Mem} {r : Int32} {σ' : Mem} {H : Heap} {locs : List Loc} {ls : Array Slot} (hf : f_X4_isLetter F x0 σ = some (r, σ')) (hM : wt_St D tI tII B σ s H locs) (hl : lv_has ls 1 [(0, .int x0)]) : W p l e rm_X4_isLetter s m args below meth c H locs 0 0 (MQ below (wt_Qi D tI tII B r σ') args s 0 0 (fun q => B ≤ q)) (F0 m 0 ls []) := by
  obtain ⟨hx, hb, hts, hown, hml, hr, hlk, hK⟩ := id C
  replace hf := Eq.trans f_X4_isLetter_e.symm hf
  refine lv_iload_n hx hb dX4_isLetter_0 rfl (lv_at hl 0 rfl) ?_
  refine lv_bipush (v := 112) hx hb dX4_isLetter_1 (by decide) ?_
  refine wq_icmp_eq (tgt := 42) hx hb dX4_isLetter_3 (by decide) hf (fun hf => ?_) (fun hf => ?_)
  · exact w_X4_isLetter_42 C hf hM (lv_sub hl [] rfl)
  refine lv_iload_n hx hb dX4_isLetter_6 rfl (lv_at hl 0 rfl) ?_
  refine lv_bipush (v := 108) hx hb dX4_isLetter_7 (by decide) ?_
  refine wq_icmp_eq (tgt := 42) hx hb dX4_isLetter_9 (by decide) hf (fun hf => ?_) (fun hf => ?_)
  · exact w_X4_isLetter_42 C hf hM (lv_sub hl [] rfl)
  refine lv_iload_n hx hb dX4_isLetter_12 rfl (lv_at hl 0 rfl) ?_
  refine lv_bipush (v := 115) hx hb dX4_isLetter_13 (by decide) ?_
  refine wq_icmp_eq (tgt := 42) hx hb dX4_isLetter_15 (by decide) hf (fun hf => ?_) (fun hf => ?_)
  · exact w_X4_isLetter_42 C hf hM (lv_sub hl [] rfl)
  refine lv_iload_n hx hb dX4_isLetter_18 rfl (lv_at hl 0 rfl) ?_
  refine lv_bipush (v := 118) hx hb dX4_isLetter_19 (by decide) ?_
  refine wq_icmp_eq (tgt := 42) hx hb dX4_isLetter_21 (by decide) hf (fun hf => ?_) (fun hf => ?_)
  · exact w_X4_isLetter_42 C hf hM (lv_sub hl [] rfl)
  refine lv_iload_n hx hb dX4_isLetter_24 rfl (lv_at hl 0 rfl) ?_
  refine lv_bipush (v := 119) hx hb dX4_isLetter_25 (by decide) ?_
  refine wq_icmp_eq (tgt := 42) hx hb dX4_isLetter_27 (by decide) hf (fun hf => ?_) (fun hf => ?_)
  · exact w_X4_isLetter_42 C hf hM (lv_sub hl [] rfl)
  refine lv_iload_n hx hb dX4_isLetter_30 rfl (lv_at hl 0 rfl) ?_
  refine lv_bipush (v := 117) hx hb dX4_isLetter_31 (by decide) ?_
  refine wq_icmp_eq (tgt := 42) hx hb dX4_isLetter_33 (by decide) hf (fun hf => ?_) (fun hf => ?_)
  · exact w_X4_isLetter_42 C hf hM (lv_sub hl [] rfl)
  refine lv_iload_n hx hb dX4_isLetter_36 rfl (lv_at hl 0 rfl) ?_
  refine lv_bipush (v := 100) hx hb dX4_isLetter_37 (by decide) ?_
  refine wq_icmp_ne (tgt := 46) hx hb dX4_isLetter_39 (by decide) hf (fun hf => ?_) (fun hf => ?_)
  · refine lv_iconst (v := 0) hx hb dX4_isLetter_46 (by decide) ?_
    exact wt_zret hx hb hr hlk hK hM (by decide) hf dX4_isLetter_47
  exact w_X4_isLetter_42 C hf hM (lv_sub hl [] rfl)
end
set_option maxHeartbeats 4000000 in
set_option maxRecDepth 100000 in
theorem c_X4_isLetter {l : Launch} {D : va_G} {tI tII : ClassId} {B F : Nat} {x0 : Int32} {σ σ' : Mem} {r : Int32} (hf : f_X4_isLetter F x0 σ = some (r, σ')) : wt_Mi l yX4_isLetter cX4_isLetter 1 (some .boolean) rm_X4_isLetter [.int x0] D tI tII B σ r σ' := by
  refine Met.ofW (cc := cX4_isLetter) (maxL := 1) (ret := (some .boolean)) (by decide) rfl ?_
  intro p e s m args below meth c s₁ B9 hml hv
  obtain ⟨rfl, hP, hK⟩ := hv
  have hl := lv_entry ([.int x0]) (n := 1) (qz_b rfl)
  rw [lg_entry_eq]
  generalize (lg_sl ([.int x0]) ++ List.replicate (1 - (lg_sl ([.int x0])).length) Slot.unset).toArray = ls at hl ⊢
  exact w_X4_isLetter_0 (wt_C_of B9 hml hK) hf ⟨hP, va_S.rf⟩ hl
section
variable {p : Program} {l : Launch} {e : Env} {s : State} {m : MethodId} {args : Array Value} {below : List Frame} {meth : Method} {c : Code} {D : va_G} {tI tII : ClassId} {B : Nat}
set_option maxHeartbeats 4000000 in
set_option maxRecDepth 100000 in
theorem w_X4_readNumbers_0 (C : wt_C p s m args meth c RX4 cX4_readNumbers 3 none D tI tII) {F : Nat} {x1 : Int32} {x2 : Int32} {σ : Mem} {σ' : Mem} {H : Heap} {locs : List Loc} {ls : Array Slot} (hf : f_X4_readNumbers F x1 x2 σ = some ((), σ')) (hM : wt_St D tI tII B σ s H locs) (hl : lv_has ls 3 [(0, .ref (B + 101)), (1, .int x1), (2, .int x2)]) : W p l e rm_X4_readNumbers s m args below meth c H locs 0 0 (MQ below (wt_Qv D tI tII B σ') args s 0 0 (fun q => B ≤ q)) (F0 m 0 ls []) := by
  obtain ⟨hx, hb, hts, hown, hml, hr, hlk, hK⟩ := id C
  replace hf := Eq.trans f_X4_readNumbers_e.symm hf
  refine lv_iload_n hx hb dX4_readNumbers_0 rfl (lv_at hl 1 rfl) ?_
  refine wq_key hf (fun e9 hf => ?_) (fun n1_100 hf => ?_)
  · refine lv_lookup (off := 124) (tgt := 125) hx hb dX4_readNumbers_1 rfl (by rw [e9]; rfl) (by decide) ?_
    refine lv_aload_n hx hb dX4_readNumbers_125 rfl (lv_at hl 0 rfl) ?_
    refine gf_X4_told  hx hb hts hown hK hM tw_731 dX4_readNumbers_126 ?_
    refine lv_iload_n hx hb dX4_readNumbers_129 rfl (lv_at hl 2 rfl) ?_
    refine lv_aload_n hx hb dX4_readNumbers_130 rfl (lv_at hl 0 rfl) ?_
    refine lv_iconst (v := 2) hx hb dX4_readNumbers_131 (by decide) ?_
    refine wt_callVi (As := [.int (2 : Int32)]) (rest := [.int x2, .ref (B + 114)]) hx hb hml hts hown hK hM wt_rc_X4 cw_X4_163 hd_X4_readDigits rfl ⟨qz_b rfl, qz_b rfl⟩ ⟨rfl, rfl⟩ hl.1 rfl (qz_b rfl) dX4_readNumbers_132 hf (fun _ _ h9 => c_X4_readDigits h9) (fun r2 s3 H locs hf hM => ?_)
    obtain ⟨i4, hf⟩ := wt_chk_of hf
    refine wt_ist hx hb hK hM wt_a114 i4 dX4_readNumbers_135 hf (fun s5 H locs hf hM => ?_)
    refine lv_goto (tgt := 163) hx hb dX4_readNumbers_136 (by decide) ?_
    exact wt_vret hx hb hr hlk hK hM hf dX4_readNumbers_163
  refine wq_key hf (fun e9 hf => ?_) (fun n1_112 hf => ?_)
  · refine lv_lookup (off := 43) (tgt := 44) hx hb dX4_readNumbers_1 rfl (by rw [e9]; rfl) (by decide) ?_
    refine lv_aload_n hx hb dX4_readNumbers_44 rfl (lv_at hl 0 rfl) ?_
    refine gf_X4_told  hx hb hts hown hK hM tw_731 dX4_readNumbers_45 ?_
    refine lv_iload_n hx hb dX4_readNumbers_48 rfl (lv_at hl 2 rfl) ?_
    refine lv_aload_n hx hb dX4_readNumbers_49 rfl (lv_at hl 0 rfl) ?_
    refine lv_iconst (v := 3) hx hb dX4_readNumbers_50 (by decide) ?_
    refine wt_callVi (As := [.int (3 : Int32)]) (rest := [.int x2, .ref (B + 114)]) hx hb hml hts hown hK hM wt_rc_X4 cw_X4_163 hd_X4_readDigits rfl ⟨qz_b rfl, qz_b rfl⟩ ⟨rfl, rfl⟩ hl.1 rfl (qz_b rfl) dX4_readNumbers_51 hf (fun _ _ h9 => c_X4_readDigits h9) (fun r6 s7 H locs hf hM => ?_)
    obtain ⟨i8, hf⟩ := wt_chk_of hf
    refine wt_ist hx hb hK hM wt_a114 i8 dX4_readNumbers_54 hf (fun s9 H locs hf hM => ?_)
    refine lv_goto (tgt := 163) hx hb dX4_readNumbers_55 (by decide) ?_
    exact wt_vret hx hb hr hlk hK hM hf dX4_readNumbers_163
  refine wq_key hf (fun e9 hf => ?_) (fun n1_115 hf => ?_)
  · refine lv_lookup (off := 57) (tgt := 58) hx hb dX4_readNumbers_1 rfl (by rw [e9]; rfl) (by decide) ?_
    refine lv_aload_n hx hb dX4_readNumbers_58 rfl (lv_at hl 0 rfl) ?_
    refine gf_X4_told  hx hb hts hown hK hM tw_731 dX4_readNumbers_59 ?_
    refine lv_iload_n hx hb dX4_readNumbers_62 rfl (lv_at hl 2 rfl) ?_
    refine lv_aload_n hx hb dX4_readNumbers_63 rfl (lv_at hl 0 rfl) ?_
    refine lv_iconst (v := 1) hx hb dX4_readNumbers_64 (by decide) ?_
    refine wt_callVi (As := [.int (1 : Int32)]) (rest := [.int x2, .ref (B + 114)]) hx hb hml hts hown hK hM wt_rc_X4 cw_X4_163 hd_X4_readDigits rfl ⟨qz_b rfl, qz_b rfl⟩ ⟨rfl, rfl⟩ hl.1 rfl (qz_b rfl) dX4_readNumbers_65 hf (fun _ _ h9 => c_X4_readDigits h9) (fun r10 s11 H locs hf hM => ?_)
    obtain ⟨i12, hf⟩ := wt_chk_of hf
    refine wt_ist hx hb hK hM wt_a114 i12 dX4_readNumbers_68 hf (fun s13 H locs hf hM => ?_)
    refine lv_aload_n hx hb dX4_readNumbers_69 rfl (lv_at hl 0 rfl) ?_
    refine gf_X4_told  hx hb hts hown hK hM tw_731 dX4_readNumbers_70 ?_
    refine lv_iload_n hx hb dX4_readNumbers_73 rfl (lv_at hl 2 rfl) ?_
    refine lv_iconst (v := 1) hx hb dX4_readNumbers_74 (by decide) ?_
    refine lv_iadd hx hb dX4_readNumbers_75 ?_
    refine lv_aload_n hx hb dX4_readNumbers_76 rfl (lv_at hl 0 rfl) ?_
    refine lv_iconst (v := 2) hx hb dX4_readNumbers_77 (by decide) ?_
    refine wt_callVi (As := [.int (2 : Int32)]) (rest := [.int (x2 + (1 : Int32)), .ref (B + 114)]) hx hb hml hts hown hK hM wt_rc_X4 cw_X4_163 hd_X4_readDigits rfl ⟨qz_b rfl, qz_b rfl⟩ ⟨rfl, rfl⟩ hl.1 rfl (qz_b rfl) dX4_readNumbers_78 hf (fun _ _ h9 => c_X4_readDigits h9) (fun r14 s15 H locs hf hM => ?_)
    obtain ⟨i16, hf⟩ := wt_chk_of hf
    refine wt_ist hx hb hK hM wt_a114 i16 dX4_readNumbers_81 hf (fun s17 H locs hf hM => ?_)
    refine lv_aload_n hx hb dX4_readNumbers_82 rfl (lv_at hl 0 rfl) ?_
    refine gf_X4_told  hx hb hts hown hK hM tw_731 dX4_readNumbers_83 ?_
    refine lv_iload_n hx hb dX4_readNumbers_86 rfl (lv_at hl 2 rfl) ?_
    refine lv_iconst (v := 2) hx hb dX4_readNumbers_87 (by decide) ?_
    refine lv_iadd hx hb dX4_readNumbers_88 ?_
    refine lv_aload_n hx hb dX4_readNumbers_89 rfl (lv_at hl 0 rfl) ?_
    refine lv_iconst (v := 2) hx hb dX4_readNumbers_90 (by decide) ?_
    refine wt_callVi (As := [.int (2 : Int32)]) (rest := [.int (x2 + (2 : Int32)), .ref (B + 114)]) hx hb hml hts hown hK hM wt_rc_X4 cw_X4_163 hd_X4_readDigits rfl ⟨qz_b rfl, qz_b rfl⟩ ⟨rfl, rfl⟩ hl.1 rfl (qz_b rfl) dX4_readNumbers_91 hf (fun _ _ h9 => c_X4_readDigits h9) (fun r18 s19 H locs hf hM => ?_)
    obtain ⟨i20, hf⟩ := wt_chk_of hf
    refine wt_ist hx hb hK hM wt_a114 i20 dX4_readNumbers_94 hf (fun s21 H locs hf hM => ?_)
    refine lv_aload_n hx hb dX4_readNumbers_95 rfl (lv_at hl 0 rfl) ?_
    refine gf_X4_told  hx hb hts hown hK hM tw_731 dX4_readNumbers_96 ?_
    refine lv_iload_n hx hb dX4_readNumbers_99 rfl (lv_at hl 2 rfl) ?_
    refine lv_iconst (v := 3) hx hb dX4_readNumbers_100 (by decide) ?_
    refine lv_iadd hx hb dX4_readNumbers_101 ?_
    refine lv_aload_n hx hb dX4_readNumbers_102 rfl (lv_at hl 0 rfl) ?_
    refine lv_iconst (v := 1) hx hb dX4_readNumbers_103 (by decide) ?_
    refine wt_callVi (As := [.int (1 : Int32)]) (rest := [.int (x2 + (3 : Int32)), .ref (B + 114)]) hx hb hml hts hown hK hM wt_rc_X4 cw_X4_163 hd_X4_readDigits rfl ⟨qz_b rfl, qz_b rfl⟩ ⟨rfl, rfl⟩ hl.1 rfl (qz_b rfl) dX4_readNumbers_104 hf (fun _ _ h9 => c_X4_readDigits h9) (fun r22 s23 H locs hf hM => ?_)
    obtain ⟨i24, hf⟩ := wt_chk_of hf
    refine wt_ist hx hb hK hM wt_a114 i24 dX4_readNumbers_107 hf (fun s25 H locs hf hM => ?_)
    refine lv_goto (tgt := 163) hx hb dX4_readNumbers_108 (by decide) ?_
    exact wt_vret hx hb hr hlk hK hM hf dX4_readNumbers_163
  refine wq_key hf (fun e9 hf => ?_) (fun n1_117 hf => ?_)
  · refine lv_lookup (off := 110) (tgt := 111) hx hb dX4_readNumbers_1 rfl (by rw [e9]; rfl) (by decide) ?_
    refine lv_aload_n hx hb dX4_readNumbers_111 rfl (lv_at hl 0 rfl) ?_
    refine gf_X4_told  hx hb hts hown hK hM tw_731 dX4_readNumbers_112 ?_
    refine lv_iload_n hx hb dX4_readNumbers_115 rfl (lv_at hl 2 rfl) ?_
    refine lv_aload_n hx hb dX4_readNumbers_116 rfl (lv_at hl 0 rfl) ?_
    refine lv_iconst (v := 1) hx hb dX4_readNumbers_117 (by decide) ?_
    refine wt_callVi (As := [.int (1 : Int32)]) (rest := [.int x2, .ref (B + 114)]) hx hb hml hts hown hK hM wt_rc_X4 cw_X4_163 hd_X4_readDigits rfl ⟨qz_b rfl, qz_b rfl⟩ ⟨rfl, rfl⟩ hl.1 rfl (qz_b rfl) dX4_readNumbers_118 hf (fun _ _ h9 => c_X4_readDigits h9) (fun r26 s27 H locs hf hM => ?_)
    obtain ⟨i28, hf⟩ := wt_chk_of hf
    refine wt_ist hx hb hK hM wt_a114 i28 dX4_readNumbers_121 hf (fun s29 H locs hf hM => ?_)
    refine lv_goto (tgt := 163) hx hb dX4_readNumbers_122 (by decide) ?_
    exact wt_vret hx hb hr hlk hK hM hf dX4_readNumbers_163
  refine lv_lookup (off := 138) (tgt := 139) hx hb dX4_readNumbers_1 rfl (by rw [lv_osw n1_100 (by decide), lv_osw n1_112 (by decide), lv_osw n1_115 (by decide), lv_osw n1_117 (by decide)]; rfl) (by decide) ?_
  refine lv_aload_n hx hb dX4_readNumbers_139 rfl (lv_at hl 0 rfl) ?_
  refine gf_X4_told  hx hb hts hown hK hM tw_731 dX4_readNumbers_140 ?_
  refine lv_iload_n hx hb dX4_readNumbers_143 rfl (lv_at hl 2 rfl) ?_
  refine lv_aload_n hx hb dX4_readNumbers_144 rfl (lv_at hl 0 rfl) ?_
  refine lv_iconst (v := 1) hx hb dX4_readNumbers_145 (by decide) ?_
  refine wt_callVi (As := [.int (1 : Int32)]) (rest := [.int x2, .ref (B + 114)]) hx hb hml hts hown hK hM wt_rc_X4 cw_X4_163 hd_X4_readDigits rfl ⟨qz_b rfl, qz_b rfl⟩ ⟨rfl, rfl⟩ hl.1 rfl (qz_b rfl) dX4_readNumbers_146 hf (fun _ _ h9 => c_X4_readDigits h9) (fun r30 s31 H locs hf hM => ?_)
  obtain ⟨i32, hf⟩ := wt_chk_of hf
  refine wt_ist hx hb hK hM wt_a114 i32 dX4_readNumbers_149 hf (fun s33 H locs hf hM => ?_)
  refine lv_aload_n hx hb dX4_readNumbers_150 rfl (lv_at hl 0 rfl) ?_
  refine gf_X4_told  hx hb hts hown hK hM tw_731 dX4_readNumbers_151 ?_
  refine lv_iload_n hx hb dX4_readNumbers_154 rfl (lv_at hl 2 rfl) ?_
  refine lv_iconst (v := 1) hx hb dX4_readNumbers_155 (by decide) ?_
  refine lv_iadd hx hb dX4_readNumbers_156 ?_
  refine lv_aload_n hx hb dX4_readNumbers_157 rfl (lv_at hl 0 rfl) ?_
  refine lv_iconst (v := 1) hx hb dX4_readNumbers_158 (by decide) ?_
  refine wt_callVi (As := [.int (1 : Int32)]) (rest := [.int (x2 + (1 : Int32)), .ref (B + 114)]) hx hb hml hts hown hK hM wt_rc_X4 cw_X4_163 hd_X4_readDigits rfl ⟨qz_b rfl, qz_b rfl⟩ ⟨rfl, rfl⟩ hl.1 rfl (qz_b rfl) dX4_readNumbers_159 hf (fun _ _ h9 => c_X4_readDigits h9) (fun r34 s35 H locs hf hM => ?_)
  obtain ⟨i36, hf⟩ := wt_chk_of hf
  refine wt_ist hx hb hK hM wt_a114 i36 dX4_readNumbers_162 hf (fun s37 H locs hf hM => ?_)
  exact wt_vret hx hb hr hlk hK hM hf dX4_readNumbers_163
end
set_option maxHeartbeats 4000000 in
set_option maxRecDepth 100000 in
theorem c_X4_readNumbers {l : Launch} {D : va_G} {tI tII : ClassId} {B F : Nat} {x1 : Int32} {x2 : Int32} {σ σ' : Mem} (hf : f_X4_readNumbers F x1 x2 σ = some ((), σ')) : wt_Mv l yX4_readNumbers cX4_readNumbers 3 none rm_X4_readNumbers [.ref (B + 101), .int x1, .int x2] D tI tII B σ σ' := by
  refine Met.ofW (cc := cX4_readNumbers) (maxL := 3) (ret := none) (by decide) rfl ?_
  intro p e s m args below meth c s₁ B9 hml hv
  obtain ⟨rfl, hP, hK⟩ := hv
  have hl := lv_entry ([.ref (B + 101), .int x1, .int x2]) (n := 3) (qz_b rfl)
  rw [lg_entry_eq]
  generalize (lg_sl ([.ref (B + 101), .int x1, .int x2]) ++ List.replicate (3 - (lg_sl ([.ref (B + 101), .int x1, .int x2])).length) Slot.unset).toArray = ls at hl ⊢
  exact w_X4_readNumbers_0 (wt_C_of B9 hml hK) hf ⟨hP, va_S.rf⟩ hl
section
variable {p : Program} {l : Launch} {e : Env} {s : State} {m : MethodId} {args : Array Value} {below : List Frame} {meth : Method} {c : Code} {D : va_G} {tI tII : ClassId} {B : Nat}
set_option maxHeartbeats 4000000 in
set_option maxRecDepth 100000 in
theorem w_X4_readStatement_128 (C : wt_C p s m args meth c RX4 cX4_readStatement 3 none D tI tII) {F : Nat} {t1 : Int32} {t2 : Int32} {σ : Mem} {σ' : Mem} {H : Heap} {locs : List Loc} {ls : Array Slot} (hf : j_X4_readStatement_128 F t1 t2 σ = some ((), σ')) (hM : wt_St D tI tII B σ s H locs) (hl : lv_has ls 3 [(0, .ref (B + 101))]) : W p l e rm_X4_readStatement s m args below meth c H locs 0 0 (MQ below (wt_Qv D tI tII B σ') args s 0 0 (fun q => B ≤ q)) (F0 m 128 ls [.int t2, .int t1, .ref (B + 101)]) := by
  obtain ⟨hx, hb, hts, hown, hml, hr, hlk, hK⟩ := id C
  replace hf := Eq.trans j_X4_readStatement_128_e.symm hf
  refine lv_iadd hx hb dX4_readStatement_128 ?_
  refine pf_X4_at  hx hb hts hown hK hM tw_726 dX4_readStatement_129 hf (fun s1 H locs hf hM => ?_)
  refine lv_aload_n hx hb dX4_readStatement_132 rfl (lv_at hl 0 rfl) ?_
  refine lv_dup hx hb dX4_readStatement_133 rfl ?_
  refine gf_X4_statements  hx hb hts hown hK hM tw_728 dX4_readStatement_134 ?_
  refine lv_iconst (v := 1) hx hb dX4_readStatement_137 (by decide) ?_
  refine lv_iadd hx hb dX4_readStatement_138 ?_
  refine pf_X4_statements  hx hb hts hown hK hM tw_728 dX4_readStatement_139 hf (fun s2 H locs hf hM => ?_)
  exact wt_vret hx hb hr hlk hK hM hf dX4_readStatement_142
set_option maxHeartbeats 4000000 in
set_option maxRecDepth 100000 in
theorem w_X4_readStatement_108 (C : wt_C p s m args meth c RX4 cX4_readStatement 3 none D tI tII) {F : Nat} {t1 : Int32} {σ : Mem} {σ' : Mem} {H : Heap} {locs : List Loc} {ls : Array Slot} (hf : j_X4_readStatement_108 F t1 σ = some ((), σ')) (hM : wt_St D tI tII B σ s H locs) (hl : lv_has ls 3 [(0, .ref (B + 101))]) : W p l e rm_X4_readStatement s m args below meth c H locs 0 0 (MQ below (wt_Qv D tI tII B σ') args s 0 0 (fun q => B ≤ q)) (F0 m 108 ls [.int t1, .ref (B + 101)]) := by
  obtain ⟨hx, hb, hts, hown, hml, hr, hlk, hK⟩ := id C
  replace hf := Eq.trans j_X4_readStatement_108_e.symm hf
  obtain ⟨hz4, hf⟩ := wt_bz_of hf
  refine pf_X4_isBad  hx hb hts hown hK hM tw_727 hz4 dX4_readStatement_108 hf (fun s3 H locs hf hM => ?_)
  refine lv_aload_n hx hb dX4_readStatement_111 rfl (lv_at hl 0 rfl) ?_
  refine lv_dup hx hb dX4_readStatement_112 rfl ?_
  refine gf_X4_at  hx hb hts hown hK hM tw_726 dX4_readStatement_113 ?_
  refine lv_aload_n hx hb dX4_readStatement_116 rfl (lv_at hl 0 rfl) ?_
  refine gf_X4_isBad  hx hb hts hown hK hM tw_727 dX4_readStatement_117 ?_
  refine wq_if_eq (tgt := 127) hx hb dX4_readStatement_120 (by decide) hf (fun hf => ?_) (fun hf => ?_)
  · refine lv_iconst (v := 1) hx hb dX4_readStatement_127 (by decide) ?_
    exact w_X4_readStatement_128 C hf hM hl
  refine lv_iconst (v := 0) hx hb dX4_readStatement_123 (by decide) ?_
  refine lv_goto (tgt := 128) hx hb dX4_readStatement_124 (by decide) ?_
  exact w_X4_readStatement_128 C hf hM hl
set_option maxHeartbeats 4000000 in
set_option maxRecDepth 100000 in
theorem w_X4_readStatement_103 (C : wt_C p s m args meth c RX4 cX4_readStatement 3 none D tI tII) {F : Nat} {σ : Mem} {σ' : Mem} {H : Heap} {locs : List Loc} {ls : Array Slot} (hf : j_X4_readStatement_103 F σ = some ((), σ')) (hM : wt_St D tI tII B σ s H locs) (hl : lv_has ls 3 [(0, .ref (B + 101))]) : W p l e rm_X4_readStatement s m args below meth c H locs 0 0 (MQ below (wt_Qv D tI tII B σ') args s 0 0 (fun q => B ≤ q)) (F0 m 103 ls [.ref (B + 101)]) := by
  obtain ⟨hx, hb, hts, hown, hml, hr, hlk, hK⟩ := id C
  replace hf := Eq.trans j_X4_readStatement_103_e.symm hf
  refine lv_iconst (v := 1) hx hb dX4_readStatement_103 (by decide) ?_
  refine lv_goto (tgt := 108) hx hb dX4_readStatement_104 (by decide) ?_
  exact w_X4_readStatement_108 C hf hM hl
set_option maxHeartbeats 4000000 in
set_option maxRecDepth 100000 in
theorem w_X4_readStatement_86 (C : wt_C p s m args meth c RX4 cX4_readStatement 3 none D tI tII) {F : Nat} {σ : Mem} {σ' : Mem} {H : Heap} {locs : List Loc} {ls : Array Slot} (hf : j_X4_readStatement_86 F σ = some ((), σ')) (hM : wt_St D tI tII B σ s H locs) (hl : lv_has ls 3 [(0, .ref (B + 101))]) : W p l e rm_X4_readStatement s m args below meth c H locs 0 0 (MQ below (wt_Qv D tI tII B σ') args s 0 0 (fun q => B ≤ q)) (F0 m 86 ls []) := by
  obtain ⟨hx, hb, hts, hown, hml, hr, hlk, hK⟩ := id C
  replace hf := Eq.trans j_X4_readStatement_86_e.symm hf
  refine lv_aload_n hx hb dX4_readStatement_86 rfl (lv_at hl 0 rfl) ?_
  refine lv_aload_n hx hb dX4_readStatement_87 rfl (lv_at hl 0 rfl) ?_
  refine gf_X4_isBad  hx hb hts hown hK hM tw_727 dX4_readStatement_88 ?_
  refine wq_if_ne (tgt := 103) hx hb dX4_readStatement_91 (by decide) hf (fun hf => ?_) (fun hf => ?_)
  · exact w_X4_readStatement_103 C hf hM hl
  refine lv_aload_n hx hb dX4_readStatement_94 rfl (lv_at hl 0 rfl) ?_
  refine wt_callVi (As := []) (rest := [.ref (B + 101)]) hx hb hml hts hown hK hM wt_rc_X4 cw_X4_156 hd_X4_here rfl ⟨qz_b rfl, qz_b rfl⟩ ⟨rfl, rfl⟩ hl.1 rfl (qz_b rfl) dX4_readStatement_95 hf (fun _ _ h9 => c_X4_here h9) (fun r5 s6 H locs hf hM => ?_)
  refine lv_bipush (v := 59) hx hb dX4_readStatement_98 (by decide) ?_
  refine wq_icmp_eq (tgt := 107) hx hb dX4_readStatement_100 (by decide) hf (fun hf => ?_) (fun hf => ?_)
  · refine lv_iconst (v := 0) hx hb dX4_readStatement_107 (by decide) ?_
    exact w_X4_readStatement_108 C hf hM hl
  exact w_X4_readStatement_103 C hf hM hl
set_option maxHeartbeats 4000000 in
set_option maxRecDepth 100000 in
theorem w_X4_readStatement_67 (C : wt_C p s m args meth c RX4 cX4_readStatement 3 none D tI tII) {F : Nat} {x1 : Int32} {x2 : Int32} {t1 : Int32} {t2 : Int32} {σ : Mem} {σ' : Mem} {H : Heap} {locs : List Loc} {ls : Array Slot} (hf : j_X4_readStatement_67 F x1 x2 t1 t2 σ = some ((), σ')) (hM : wt_St D tI tII B σ s H locs) (hl : lv_has ls 3 [(0, .ref (B + 101)), (1, .int x1), (2, .int x2)]) : W p l e rm_X4_readStatement s m args below meth c H locs 0 0 (MQ below (wt_Qv D tI tII B σ') args s 0 0 (fun q => B ≤ q)) (F0 m 67 ls [.int t2, .int t1, .ref (B + 101)]) := by
  obtain ⟨hx, hb, hts, hown, hml, hr, hlk, hK⟩ := id C
  replace hf := Eq.trans j_X4_readStatement_67_e.symm hf
  refine lv_iadd hx hb dX4_readStatement_67 ?_
  refine pf_X4_at  hx hb hts hown hK hM tw_726 dX4_readStatement_68 hf (fun s7 H locs hf hM => ?_)
  refine lv_aload_n hx hb dX4_readStatement_71 rfl (lv_at hl 0 rfl) ?_
  refine gf_X4_isBad  hx hb hts hown hK hM tw_727 dX4_readStatement_72 ?_
  refine wq_if_ne (tgt := 86) hx hb dX4_readStatement_75 (by decide) hf (fun hf => ?_) (fun hf => ?_)
  · exact w_X4_readStatement_86 C hf hM (lv_sub hl [0] rfl)
  refine lv_aload_n hx hb dX4_readStatement_78 rfl (lv_at hl 0 rfl) ?_
  refine lv_iload_n hx hb dX4_readStatement_79 rfl (lv_at hl 2 rfl) ?_
  refine lv_iconst (v := 4) hx hb dX4_readStatement_80 (by decide) ?_
  refine lv_iload_n hx hb dX4_readStatement_81 rfl (lv_at hl 1 rfl) ?_
  refine lv_imul hx hb dX4_readStatement_82 ?_
  refine wt_callVv (As := [.int x2, .int ((4 : Int32) * x1)]) (rest := []) hx hb hml hts hown hK hM wt_rc_X4 cw_X4_172 hd_X4_readNumbers rfl ⟨qz_b rfl, qz_b rfl⟩ ⟨rfl, rfl⟩ hl.1 rfl (qz_b rfl) dX4_readStatement_83 hf (fun _ _ h9 => c_X4_readNumbers h9) (fun r8 s9 H locs hf hM => ?_)
  exact w_X4_readStatement_86 C hf hM (lv_sub hl [0] rfl)
set_option maxHeartbeats 4000000 in
set_option maxRecDepth 100000 in
theorem w_X4_readStatement_47 (C : wt_C p s m args meth c RX4 cX4_readStatement 3 none D tI tII) {F : Nat} {x1 : Int32} {x2 : Int32} {t1 : Int32} {σ : Mem} {σ' : Mem} {H : Heap} {locs : List Loc} {ls : Array Slot} (hf : j_X4_readStatement_47 F x1 x2 t1 σ = some ((), σ')) (hM : wt_St D tI tII B σ s H locs) (hl : lv_has ls 3 [(0, .ref (B + 101)), (1, .int x1), (2, .int x2)]) : W p l e rm_X4_readStatement s m args below meth c H locs 0 0 (MQ below (wt_Qv D tI tII B σ') args s 0 0 (fun q => B ≤ q)) (F0 m 47 ls [.int t1, .ref (B + 101)]) := by
  obtain ⟨hx, hb, hts, hown, hml, hr, hlk, hK⟩ := id C
  replace hf := Eq.trans j_X4_readStatement_47_e.symm hf
  obtain ⟨hz11, hf⟩ := wt_bz_of hf
  refine pf_X4_isBad  hx hb hts hown hK hM tw_727 hz11 dX4_readStatement_47 hf (fun s10 H locs hf hM => ?_)
  refine lv_aload_n hx hb dX4_readStatement_50 rfl (lv_at hl 0 rfl) ?_
  refine lv_dup hx hb dX4_readStatement_51 rfl ?_
  refine gf_X4_at  hx hb hts hown hK hM tw_726 dX4_readStatement_52 ?_
  refine lv_aload_n hx hb dX4_readStatement_55 rfl (lv_at hl 0 rfl) ?_
  refine gf_X4_isBad  hx hb hts hown hK hM tw_727 dX4_readStatement_56 ?_
  refine wq_if_eq (tgt := 66) hx hb dX4_readStatement_59 (by decide) hf (fun hf => ?_) (fun hf => ?_)
  · refine lv_iconst (v := 1) hx hb dX4_readStatement_66 (by decide) ?_
    exact w_X4_readStatement_67 C hf hM hl
  refine lv_iconst (v := 0) hx hb dX4_readStatement_62 (by decide) ?_
  refine lv_goto (tgt := 67) hx hb dX4_readStatement_63 (by decide) ?_
  exact w_X4_readStatement_67 C hf hM hl
set_option maxHeartbeats 4000000 in
set_option maxRecDepth 100000 in
theorem w_X4_readStatement_42 (C : wt_C p s m args meth c RX4 cX4_readStatement 3 none D tI tII) {F : Nat} {x1 : Int32} {x2 : Int32} {σ : Mem} {σ' : Mem} {H : Heap} {locs : List Loc} {ls : Array Slot} (hf : j_X4_readStatement_42 F x1 x2 σ = some ((), σ')) (hM : wt_St D tI tII B σ s H locs) (hl : lv_has ls 3 [(0, .ref (B + 101)), (1, .int x1), (2, .int x2)]) : W p l e rm_X4_readStatement s m args below meth c H locs 0 0 (MQ below (wt_Qv D tI tII B σ') args s 0 0 (fun q => B ≤ q)) (F0 m 42 ls [.ref (B + 101)]) := by
  obtain ⟨hx, hb, hts, hown, hml, hr, hlk, hK⟩ := id C
  replace hf := Eq.trans j_X4_readStatement_42_e.symm hf
  refine lv_iconst (v := 1) hx hb dX4_readStatement_42 (by decide) ?_
  refine lv_goto (tgt := 47) hx hb dX4_readStatement_43 (by decide) ?_
  exact w_X4_readStatement_47 C hf hM hl
set_option maxHeartbeats 4000000 in
set_option maxRecDepth 100000 in
theorem w_X4_readStatement_0 (C : wt_C p s m args meth c RX4 cX4_readStatement 3 none D tI tII) {F : Nat} {σ : Mem} {σ' : Mem} {H : Heap} {locs : List Loc} {ls : Array Slot} (hf : f_X4_readStatement F σ = some ((), σ')) (hM : wt_St D tI tII B σ s H locs) (hl : lv_has ls 3 [(0, .ref (B + 101))]) : W p l e rm_X4_readStatement s m args below meth c H locs 0 0 (MQ below (wt_Qv D tI tII B σ') args s 0 0 (fun q => B ≤ q)) (F0 m 0 ls []) := by
  obtain ⟨hx, hb, hts, hown, hml, hr, hlk, hK⟩ := id C
  replace hf := Eq.trans f_X4_readStatement_e.symm hf
  refine lv_aload_n hx hb dX4_readStatement_0 rfl (lv_at hl 0 rfl) ?_
  refine gf_X4_statements  hx hb hts hown hK hM tw_728 dX4_readStatement_1 ?_
  refine lv_istore_n (lv' := [(1, .int (σ 101 18)), (0, .ref (B + 101))]) hx hb dX4_readStatement_4 rfl hl (by decide) rfl (fun ls hl => ?_)
  refine lv_aload_n hx hb dX4_readStatement_5 rfl (lv_at hl 1 rfl) ?_
  refine wt_callVi (As := []) (rest := []) hx hb hml hts hown hK hM wt_rc_X4 cw_X4_156 hd_X4_here rfl ⟨qz_b rfl, qz_b rfl⟩ ⟨rfl, rfl⟩ hl.1 rfl (qz_b rfl) dX4_readStatement_6 hf (fun _ _ h9 => c_X4_here h9) (fun r12 s13 H locs hf hM => ?_)
  refine lv_istore_n (lv' := [(2, .int r12), (1, .int (σ 101 18)), (0, .ref (B + 101))]) hx hb dX4_readStatement_9 rfl hl (by decide) rfl (fun ls hl => ?_)
  refine lv_aload_n hx hb dX4_readStatement_10 rfl (lv_at hl 2 rfl) ?_
  refine gf_X4_placeIn  hx hb hts hown hK hM tw_729 dX4_readStatement_11 ?_
  refine lv_iload_n hx hb dX4_readStatement_14 rfl (lv_at hl 1 rfl) ?_
  refine lv_aload_n hx hb dX4_readStatement_15 rfl (lv_at hl 2 rfl) ?_
  refine gf_X4_at  hx hb hts hown hK hM tw_726 dX4_readStatement_16 ?_
  obtain ⟨i14, hf⟩ := wt_chk_of hf
  refine wt_ist hx hb hK hM wt_a112 i14 dX4_readStatement_19 hf (fun s15 H locs hf hM => ?_)
  refine lv_aload_n hx hb dX4_readStatement_20 rfl (lv_at hl 2 rfl) ?_
  refine gf_X4_letterOf  hx hb hts hown hK hM tw_730 dX4_readStatement_21 ?_
  refine lv_iload_n hx hb dX4_readStatement_24 rfl (lv_at hl 1 rfl) ?_
  refine lv_iload_n hx hb dX4_readStatement_25 rfl (lv_at hl 0 rfl) ?_
  refine wt_ist hx hb hK hM wt_a113 i14 dX4_readStatement_26 hf (fun s16 H locs hf hM => ?_)
  refine lv_aload_n hx hb dX4_readStatement_27 rfl (lv_at hl 2 rfl) ?_
  refine lv_aload_n hx hb dX4_readStatement_28 rfl (lv_at hl 2 rfl) ?_
  refine gf_X4_isBad  hx hb hts hown hK hM tw_727 dX4_readStatement_29 ?_
  refine wq_if_ne (tgt := 42) hx hb dX4_readStatement_32 (by decide) hf (fun hf => ?_) (fun hf => ?_)
  · exact w_X4_readStatement_42 C hf hM (lv_sub hl [2, 1, 0] rfl)
  refine lv_iload_n hx hb dX4_readStatement_35 rfl (lv_at hl 0 rfl) ?_
  refine wt_callSi (As := [.int r12]) (rest := [.ref (B + 101)]) hx hb hml hts hown hK hM cw_X4_169 hd_X4_isLetter rfl ⟨qz_b rfl, qz_b rfl⟩ ⟨rfl, rfl⟩ hl.1 rfl (qz_b rfl) dX4_readStatement_36 hf (fun _ _ h9 => c_X4_isLetter h9) (fun r17 s18 H locs hf hM => ?_)
  refine wq_if_ne (tgt := 46) hx hb dX4_readStatement_39 (by decide) hf (fun hf => ?_) (fun hf => ?_)
  · refine lv_iconst (v := 0) hx hb dX4_readStatement_46 (by decide) ?_
    exact w_X4_readStatement_47 C hf hM (lv_sub hl [2, 1, 0] rfl)
  exact w_X4_readStatement_42 C hf hM (lv_sub hl [2, 1, 0] rfl)
end
set_option maxHeartbeats 4000000 in
set_option maxRecDepth 100000 in
theorem c_X4_readStatement {l : Launch} {D : va_G} {tI tII : ClassId} {B F : Nat} {σ σ' : Mem} (hf : f_X4_readStatement F σ = some ((), σ')) : wt_Mv l yX4_readStatement cX4_readStatement 3 none rm_X4_readStatement [.ref (B + 101)] D tI tII B σ σ' := by
  refine Met.ofW (cc := cX4_readStatement) (maxL := 3) (ret := none) (by decide) rfl ?_
  intro p e s m args below meth c s₁ B9 hml hv
  obtain ⟨rfl, hP, hK⟩ := hv
  have hl := lv_entry ([.ref (B + 101)]) (n := 3) (qz_b rfl)
  rw [lg_entry_eq]
  generalize (lg_sl ([.ref (B + 101)]) ++ List.replicate (3 - (lg_sl ([.ref (B + 101)])).length) Slot.unset).toArray = ls at hl ⊢
  exact w_X4_readStatement_0 (wt_C_of B9 hml hK) hf ⟨hP, va_S.rf⟩ hl
section
variable {p : Program} {l : Launch} {e : Env} {s : State} {m : MethodId} {args : Array Value} {below : List Frame} {meth : Method} {c : Code} {D : va_G} {tI tII : ClassId} {B : Nat}
set_option maxHeartbeats 4000000 in
set_option maxRecDepth 100000 in
theorem w_X4_lookerComes_52 (C : wt_C p s m args meth c RX4 cX4_lookerComes 4 none D tI tII) {F : Nat} {σ' : Mem} : ∀ (N : Nat) (x3 : Int32) (σ : Mem) (H : Heap) (locs : List Loc) (ls : Array Slot), lp_X4_lookerComes_52 F N x3 σ = some ((), σ') → wt_St D tI tII B σ s H locs → lv_has ls 4 [(0, .ref (B + 101)), (3, .int x3)] → W p l e rm_X4_lookerComes s m args below meth c H locs 0 0 (MQ below (wt_Qv D tI tII B σ') args s 0 0 (fun q => B ≤ q)) (F0 m 52 ls []) := by
  obtain ⟨hx, hb, hts, hown, hml, hr, hlk, hK⟩ := id C
  intro N
  induction N with
  | zero => intro x3 σ H locs ls hf; exact wt_none (show (none : Option (Unit × Mem)) = some ((), σ') from hf)
  | succ N ih =>
    intro x3 σ H locs ls hf hM hl
    replace hf := Eq.trans lp_X4_lookerComes_52_s.symm hf
    refine lv_iload_n hx hb dX4_lookerComes_52 rfl (lv_at hl 1 rfl) ?_
    refine lv_bipush (v := 8) hx hb dX4_lookerComes_53 (by decide) ?_
    refine wq_icmp_ge (tgt := 79) hx hb dX4_lookerComes_55 (by decide) hf (fun hf => ?_) (fun hf => ?_)
    · refine lv_aload_n hx hb dX4_lookerComes_79 rfl (lv_at hl 0 rfl) ?_
      refine lv_dup hx hb dX4_lookerComes_80 rfl ?_
      refine gf_X4_lookers  hx hb hts hown hK hM tw_713 dX4_lookerComes_81 ?_
      refine lv_iconst (v := 1) hx hb dX4_lookerComes_84 (by decide) ?_
      refine lv_iadd hx hb dX4_lookerComes_85 ?_
      refine pf_X4_lookers  hx hb hts hown hK hM tw_713 dX4_lookerComes_86 hf (fun s1 H locs hf hM => ?_)
      exact wt_vret hx hb hr hlk hK hM hf dX4_lookerComes_89
    refine lv_aload_n hx hb dX4_lookerComes_58 rfl (lv_at hl 0 rfl) ?_
    refine gf_X4_counted  hx hb hts hown hK hM tw_717 dX4_lookerComes_59 ?_
    refine lv_bipush (v := 8) hx hb dX4_lookerComes_62 (by decide) ?_
    refine lv_aload_n hx hb dX4_lookerComes_64 rfl (lv_at hl 0 rfl) ?_
    refine gf_X4_lookers  hx hb hts hown hK hM tw_713 dX4_lookerComes_65 ?_
    refine lv_imul hx hb dX4_lookerComes_68 ?_
    refine lv_iload_n hx hb dX4_lookerComes_69 rfl (lv_at hl 1 rfl) ?_
    refine lv_iadd hx hb dX4_lookerComes_70 ?_
    refine lv_iconst (v := 0) hx hb dX4_lookerComes_71 (by decide) ?_
    obtain ⟨i2, hf⟩ := wt_chk_of hf
    refine wt_ist hx hb hK hM wt_a107 i2 dX4_lookerComes_72 hf (fun s3 H locs hf hM => ?_)
    refine lv_iinc (v := (x3 + (1 : Int32))) (lv' := [(3, .int (x3 + (1 : Int32))), (0, .ref (B + 101))]) hx hb dX4_lookerComes_73 hl (k := 1) rfl rfl (by decide) rfl (fun ls hl => ?_)
    refine lv_goto (tgt := 52) hx hb dX4_lookerComes_76 (by decide) ?_
    exact ih _ _ _ _ _ hf hM (lv_sub hl [1, 0] rfl)
set_option maxHeartbeats 4000000 in
set_option maxRecDepth 100000 in
theorem w_X4_lookerComes_22 (C : wt_C p s m args meth c RX4 cX4_lookerComes 4 none D tI tII) {F : Nat} {σ' : Mem} : ∀ (N : Nat) (x3 : Int32) (σ : Mem) (H : Heap) (locs : List Loc) (ls : Array Slot), lp_X4_lookerComes_22 F N x3 σ = some ((), σ') → wt_St D tI tII B σ s H locs → lv_has ls 4 [(0, .ref (B + 101)), (3, .int x3)] → W p l e rm_X4_lookerComes s m args below meth c H locs 0 0 (MQ below (wt_Qv D tI tII B σ') args s 0 0 (fun q => B ≤ q)) (F0 m 22 ls []) := by
  obtain ⟨hx, hb, hts, hown, hml, hr, hlk, hK⟩ := id C
  intro N
  induction N with
  | zero => intro x3 σ H locs ls hf; exact wt_none (show (none : Option (Unit × Mem)) = some ((), σ') from hf)
  | succ N ih =>
    intro x3 σ H locs ls hf hM hl
    replace hf := Eq.trans lp_X4_lookerComes_22_s.symm hf
    refine lv_iload_n hx hb dX4_lookerComes_22 rfl (lv_at hl 1 rfl) ?_
    refine lv_bipush (v := 24) hx hb dX4_lookerComes_23 (by decide) ?_
    refine wq_icmp_ge (tgt := 50) hx hb dX4_lookerComes_25 (by decide) hf (fun hf => ?_) (fun hf => ?_)
    · refine lv_iconst (v := 0) hx hb dX4_lookerComes_50 (by decide) ?_
      refine lv_istore_n (lv' := [(3, .int (0 : Int32)), (0, .ref (B + 101))]) hx hb dX4_lookerComes_51 rfl hl (by decide) rfl (fun ls hl => ?_)
      exact w_X4_lookerComes_52 C _ _ _ _ _ _ hf hM (lv_sub hl [1, 0] rfl)
    refine lv_aload_n hx hb dX4_lookerComes_28 rfl (lv_at hl 0 rfl) ?_
    refine gf_X4_rosters  hx hb hts hown hK hM tw_716 dX4_lookerComes_29 ?_
    refine lv_bipush (v := 24) hx hb dX4_lookerComes_32 (by decide) ?_
    refine lv_aload_n hx hb dX4_lookerComes_34 rfl (lv_at hl 0 rfl) ?_
    refine gf_X4_lookers  hx hb hts hown hK hM tw_713 dX4_lookerComes_35 ?_
    refine lv_imul hx hb dX4_lookerComes_38 ?_
    refine lv_iload_n hx hb dX4_lookerComes_39 rfl (lv_at hl 1 rfl) ?_
    refine lv_iadd hx hb dX4_lookerComes_40 ?_
    refine lv_bipush (v := -9) hx hb dX4_lookerComes_41 (by decide) ?_
    obtain ⟨i4, hf⟩ := wt_chk_of hf
    refine wt_ist hx hb hK hM wt_a106 i4 dX4_lookerComes_43 hf (fun s5 H locs hf hM => ?_)
    refine lv_iinc (v := (x3 + (1 : Int32))) (lv' := [(3, .int (x3 + (1 : Int32))), (0, .ref (B + 101))]) hx hb dX4_lookerComes_44 hl (k := 1) rfl rfl (by decide) rfl (fun ls hl => ?_)
    refine lv_goto (tgt := 22) hx hb dX4_lookerComes_47 (by decide) ?_
    exact ih _ _ _ _ _ hf hM (lv_sub hl [1, 0] rfl)
set_option maxHeartbeats 4000000 in
set_option maxRecDepth 100000 in
theorem w_X4_lookerComes_0 (C : wt_C p s m args meth c RX4 cX4_lookerComes 4 none D tI tII) {F : Nat} {x1 : Int32} {x2 : Int32} {σ : Mem} {σ' : Mem} {H : Heap} {locs : List Loc} {ls : Array Slot} (hf : f_X4_lookerComes F x1 x2 σ = some ((), σ')) (hM : wt_St D tI tII B σ s H locs) (hl : lv_has ls 4 [(0, .ref (B + 101)), (1, .int x1), (2, .int x2)]) : W p l e rm_X4_lookerComes s m args below meth c H locs 0 0 (MQ below (wt_Qv D tI tII B σ') args s 0 0 (fun q => B ≤ q)) (F0 m 0 ls []) := by
  obtain ⟨hx, hb, hts, hown, hml, hr, hlk, hK⟩ := id C
  replace hf := Eq.trans f_X4_lookerComes_e.symm hf
  refine lv_aload_n hx hb dX4_lookerComes_0 rfl (lv_at hl 0 rfl) ?_
  refine gf_X4_kinds  hx hb hts hown hK hM tw_714 dX4_lookerComes_1 ?_
  refine lv_aload_n hx hb dX4_lookerComes_4 rfl (lv_at hl 0 rfl) ?_
  refine gf_X4_lookers  hx hb hts hown hK hM tw_713 dX4_lookerComes_5 ?_
  refine lv_iload_n hx hb dX4_lookerComes_8 rfl (lv_at hl 1 rfl) ?_
  obtain ⟨i6, hf⟩ := wt_chk_of hf
  refine wt_ist hx hb hK hM wt_a104 i6 dX4_lookerComes_9 hf (fun s7 H locs hf hM => ?_)
  refine lv_aload_n hx hb dX4_lookerComes_10 rfl (lv_at hl 0 rfl) ?_
  refine gf_X4_figures  hx hb hts hown hK hM tw_715 dX4_lookerComes_11 ?_
  refine lv_aload_n hx hb dX4_lookerComes_14 rfl (lv_at hl 0 rfl) ?_
  refine gf_X4_lookers  hx hb hts hown hK hM tw_713 dX4_lookerComes_15 ?_
  refine lv_iload_n hx hb dX4_lookerComes_18 rfl (lv_at hl 2 rfl) ?_
  obtain ⟨i8, hf⟩ := wt_chk_of hf
  refine wt_ist hx hb hK hM wt_a105 i8 dX4_lookerComes_19 hf (fun s9 H locs hf hM => ?_)
  refine lv_iconst (v := 0) hx hb dX4_lookerComes_20 (by decide) ?_
  refine lv_istore_n (lv' := [(3, .int (0 : Int32)), (0, .ref (B + 101)), (1, .int x1), (2, .int x2)]) hx hb dX4_lookerComes_21 rfl hl (by decide) rfl (fun ls hl => ?_)
  exact w_X4_lookerComes_22 C _ _ _ _ _ _ hf hM (lv_sub hl [1, 0] rfl)
end
set_option maxHeartbeats 4000000 in
set_option maxRecDepth 100000 in
theorem c_X4_lookerComes {l : Launch} {D : va_G} {tI tII : ClassId} {B F : Nat} {x1 : Int32} {x2 : Int32} {σ σ' : Mem} (hf : f_X4_lookerComes F x1 x2 σ = some ((), σ')) : wt_Mv l yX4_lookerComes cX4_lookerComes 4 none rm_X4_lookerComes [.ref (B + 101), .int x1, .int x2] D tI tII B σ σ' := by
  refine Met.ofW (cc := cX4_lookerComes) (maxL := 4) (ret := none) (by decide) rfl ?_
  intro p e s m args below meth c s₁ B9 hml hv
  obtain ⟨rfl, hP, hK⟩ := hv
  have hl := lv_entry ([.ref (B + 101), .int x1, .int x2]) (n := 4) (qz_b rfl)
  rw [lg_entry_eq]
  generalize (lg_sl ([.ref (B + 101), .int x1, .int x2]) ++ List.replicate (4 - (lg_sl ([.ref (B + 101), .int x1, .int x2])).length) Slot.unset).toArray = ls at hl ⊢
  exact w_X4_lookerComes_0 (wt_C_of B9 hml hK) hf ⟨hP, va_S.rf⟩ hl
section
variable {p : Program} {l : Launch} {e : Env} {s : State} {m : MethodId} {args : Array Value} {below : List Frame} {meth : Method} {c : Code} {D : va_G} {tI tII : ClassId} {B : Nat}
set_option maxHeartbeats 4000000 in
set_option maxRecDepth 100000 in
theorem w_X4_stand_34 (C : wt_C p s m args meth c RX4 cX4_stand 6 none D tI tII) {F : Nat} {k3 : Int32 → Mem → Option (Unit × Mem)} {x1 : Int32} {x3 : Int32} {x4 : Int32} {x5 : Int32} {t1 : Int32} {t2 : Int32} {σ : Mem} {σ' : Mem} {H : Heap} {locs : List Loc} {ls : Array Slot} (hk3 : ∀ (x5 : Int32) (σ : Mem) (H : Heap) (locs : List Loc) (ls : Array Slot), k3 x5 σ = some ((), σ') → wt_St D tI tII B σ s H locs → lv_has ls 6 [(0, .ref (B + 101)), (1, .int x1), (3, .int x3), (4, .int x4), (5, .int x5)] → W p l e rm_X4_stand s m args below meth c H locs 0 0 (MQ below (wt_Qv D tI tII B σ') args s 0 0 (fun q => B ≤ q)) (F0 m 3 ls [])) (hf : j_X4_stand_34 F k3 x1 x3 x4 x5 t1 t2 σ = some ((), σ')) (hM : wt_St D tI tII B σ s H locs) (hl : lv_has ls 6 [(0, .ref (B + 101)), (1, .int x1), (3, .int x3), (4, .int x4), (5, .int x5)]) : W p l e rm_X4_stand s m args below meth c H locs 0 0 (MQ below (wt_Qv D tI tII B σ') args s 0 0 (fun q => B ≤ q)) (F0 m 34 ls [.int t2, .int t1, .ref (B + 106)]) := by
  obtain ⟨hx, hb, hts, hown, hml, hr, hlk, hK⟩ := id C
  replace hf := Eq.trans j_X4_stand_34_e.symm hf
  obtain ⟨i1, hf⟩ := wt_chk_of hf
  refine wt_ist hx hb hK hM wt_a106 i1 dX4_stand_34 hf (fun s2 H locs hf hM => ?_)
  refine lv_iinc (v := (x5 + (1 : Int32))) (lv' := [(5, .int (x5 + (1 : Int32))), (0, .ref (B + 101)), (1, .int x1), (3, .int x3), (4, .int x4)]) hx hb dX4_stand_35 hl (k := 4) rfl rfl (by decide) rfl (fun ls hl => ?_)
  refine lv_goto (tgt := 3) hx hb dX4_stand_38 (by decide) ?_
  exact hk3 _ _ _ _ _ hf hM (lv_sub hl [1, 2, 3, 4, 0] rfl)
set_option maxHeartbeats 4000000 in
set_option maxRecDepth 100000 in
theorem w_X4_stand_3 (C : wt_C p s m args meth c RX4 cX4_stand 6 none D tI tII) {F : Nat} {x1 : Int32} {x3 : Int32} {x4 : Int32} {σ' : Mem} : ∀ (N : Nat) (x5 : Int32) (σ : Mem) (H : Heap) (locs : List Loc) (ls : Array Slot), lp_X4_stand_3 F x1 x3 x4 N x5 σ = some ((), σ') → wt_St D tI tII B σ s H locs → lv_has ls 6 [(0, .ref (B + 101)), (1, .int x1), (3, .int x3), (4, .int x4), (5, .int x5)] → W p l e rm_X4_stand s m args below meth c H locs 0 0 (MQ below (wt_Qv D tI tII B σ') args s 0 0 (fun q => B ≤ q)) (F0 m 3 ls []) := by
  obtain ⟨hx, hb, hts, hown, hml, hr, hlk, hK⟩ := id C
  intro N
  induction N with
  | zero => intro x5 σ H locs ls hf; exact wt_none (show (none : Option (Unit × Mem)) = some ((), σ') from hf)
  | succ N ih =>
    intro x5 σ H locs ls hf hM hl
    replace hf := Eq.trans lp_X4_stand_3_s.symm hf
    refine lv_iload hx hb dX4_stand_3 (lv_at hl 4 rfl) ?_
    refine lv_iload_n hx hb dX4_stand_5 rfl (lv_at hl 2 rfl) ?_
    refine wq_icmp_gt (tgt := 41) hx hb dX4_stand_6 (by decide) hf (fun hf => ?_) (fun hf => ?_)
    · exact wt_vret hx hb hr hlk hK hM hf dX4_stand_41
    refine lv_aload_n hx hb dX4_stand_9 rfl (lv_at hl 0 rfl) ?_
    refine gf_X4_rosters  hx hb hts hown hK hM tw_716 dX4_stand_10 ?_
    refine lv_bipush (v := 24) hx hb dX4_stand_13 (by decide) ?_
    refine lv_iload_n hx hb dX4_stand_15 rfl (lv_at hl 1 rfl) ?_
    refine lv_imul hx hb dX4_stand_16 ?_
    refine lv_iload hx hb dX4_stand_17 (lv_at hl 4 rfl) ?_
    refine lv_iadd hx hb dX4_stand_19 ?_
    refine lv_iload hx hb dX4_stand_20 (lv_at hl 3 rfl) ?_
    refine lv_bipush (v := 9) hx hb dX4_stand_22 (by decide) ?_
    refine wq_icmp_ne (tgt := 32) hx hb dX4_stand_24 (by decide) hf (fun hf => ?_) (fun hf => ?_)
    · refine lv_iload hx hb dX4_stand_32 (lv_at hl 3 rfl) ?_
      exact w_X4_stand_34 C ih hf hM hl
    refine lv_bipush (v := -9) hx hb dX4_stand_27 (by decide) ?_
    refine lv_goto (tgt := 34) hx hb dX4_stand_29 (by decide) ?_
    exact w_X4_stand_34 C ih hf hM hl
set_option maxHeartbeats 4000000 in
set_option maxRecDepth 100000 in
theorem w_X4_stand_0 (C : wt_C p s m args meth c RX4 cX4_stand 6 none D tI tII) {F : Nat} {x1 : Int32} {x2 : Int32} {x3 : Int32} {x4 : Int32} {σ : Mem} {σ' : Mem} {H : Heap} {locs : List Loc} {ls : Array Slot} (hf : f_X4_stand F x1 x2 x3 x4 σ = some ((), σ')) (hM : wt_St D tI tII B σ s H locs) (hl : lv_has ls 6 [(0, .ref (B + 101)), (1, .int x1), (2, .int x2), (3, .int x3), (4, .int x4)]) : W p l e rm_X4_stand s m args below meth c H locs 0 0 (MQ below (wt_Qv D tI tII B σ') args s 0 0 (fun q => B ≤ q)) (F0 m 0 ls []) := by
  obtain ⟨hx, hb, hts, hown, hml, hr, hlk, hK⟩ := id C
  replace hf := Eq.trans f_X4_stand_e.symm hf
  refine lv_iload_n hx hb dX4_stand_0 rfl (lv_at hl 2 rfl) ?_
  refine lv_istore (lv' := [(5, .int x2), (0, .ref (B + 101)), (1, .int x1), (2, .int x2), (3, .int x3), (4, .int x4)]) hx hb dX4_stand_1 hl (by decide) rfl (fun ls hl => ?_)
  exact w_X4_stand_3 C _ _ _ _ _ _ hf hM (lv_sub hl [1, 2, 4, 5, 0] rfl)
end
set_option maxHeartbeats 4000000 in
set_option maxRecDepth 100000 in
theorem c_X4_stand {l : Launch} {D : va_G} {tI tII : ClassId} {B F : Nat} {x1 : Int32} {x2 : Int32} {x3 : Int32} {x4 : Int32} {σ σ' : Mem} (hf : f_X4_stand F x1 x2 x3 x4 σ = some ((), σ')) : wt_Mv l yX4_stand cX4_stand 6 none rm_X4_stand [.ref (B + 101), .int x1, .int x2, .int x3, .int x4] D tI tII B σ σ' := by
  refine Met.ofW (cc := cX4_stand) (maxL := 6) (ret := none) (by decide) rfl ?_
  intro p e s m args below meth c s₁ B9 hml hv
  obtain ⟨rfl, hP, hK⟩ := hv
  have hl := lv_entry ([.ref (B + 101), .int x1, .int x2, .int x3, .int x4]) (n := 6) (qz_b rfl)
  rw [lg_entry_eq]
  generalize (lg_sl ([.ref (B + 101), .int x1, .int x2, .int x3, .int x4]) ++ List.replicate (6 - (lg_sl ([.ref (B + 101), .int x1, .int x2, .int x3, .int x4])).length) Slot.unset).toArray = ls at hl ⊢
  exact w_X4_stand_0 (wt_C_of B9 hml hK) hf ⟨hP, va_S.rf⟩ hl
