theorem dX4_last_0 : decode cX4_last 0 = .ok (.aload_n 0, 1) := qd_p qo_42 (by decide +kernel)
theorem dX4_last_1 : decode cX4_last 1 = .ok (.iconst 0, 1) := qd_p qo_3 (by decide +kernel)
theorem dX4_last_2 : decode cX4_last 2 = .ok (.putfield 70, 3) := qz_2 .putfield 0 70 qo_181 (by decide +kernel) rfl
theorem dX4_last_5 : decode cX4_last 5 = .ok (.aload_n 0, 1) := qd_p qo_42 (by decide +kernel)
theorem dX4_last_6 : decode cX4_last 6 = .ok (.invokevirtual 134, 3) := qz_2 .invokevirtual 0 134 qo_182 (by decide +kernel) rfl
theorem dX4_last_9 : decode cX4_last 9 = .ok (.iconst 0, 1) := qd_p qo_3 (by decide +kernel)
theorem dX4_last_10 : decode cX4_last 10 = .ok (.istore_n 1, 1) := qd_p qo_60 (by decide +kernel)
theorem dX4_last_11 : decode cX4_last 11 = .ok (.iconst 0, 1) := qd_p qo_3 (by decide +kernel)
theorem dX4_last_12 : decode cX4_last 12 = .ok (.istore_n 2, 1) := qd_p qo_61 (by decide +kernel)
theorem dX4_last_13 : decode cX4_last 13 = .ok (.iload_n 2, 1) := qd_p qo_28 (by decide +kernel)
theorem dX4_last_14 : decode cX4_last 14 = .ok (.bipush 8, 2) := qz_s1 .bipush 8 qo_16 (by decide +kernel) rfl
theorem dX4_last_16 : decode cX4_last 16 = .ok (.if_icmp .ge 60, 3) := qz_s2 (.if_icmp .ge) 0 60 qo_162 (by decide +kernel) rfl
theorem dX4_last_19 : decode cX4_last 19 = .ok (.aload_n 0, 1) := qd_p qo_42 (by decide +kernel)
theorem dX4_last_20 : decode cX4_last 20 = .ok (.iload_n 2, 1) := qd_p qo_28 (by decide +kernel)
theorem dX4_last_21 : decode cX4_last 21 = .ok (.sipush 999, 3) := qz_s2 .sipush 3 231 qo_17 (by decide +kernel) rfl
theorem dX4_last_24 : decode cX4_last 24 = .ok (.invokevirtual 125, 3) := qz_2 .invokevirtual 0 125 qo_182 (by decide +kernel) rfl
theorem dX4_last_27 : decode cX4_last 27 = .ok (.istore_n 3, 1) := qd_p qo_62 (by decide +kernel)
theorem dX4_last_28 : decode cX4_last 28 = .ok (.sipush 999, 3) := qz_s2 .sipush 3 231 qo_17 (by decide +kernel) rfl
theorem dX4_last_31 : decode cX4_last 31 = .ok (.istore 4, 2) := qz_1 .istore 4 qo_54 (by decide +kernel)
theorem dX4_last_33 : decode cX4_last 33 = .ok (.iload 4, 2) := qz_1 .iload 4 qo_21 (by decide +kernel)
theorem dX4_last_35 : decode cX4_last 35 = .ok (.ifCond .le 22, 3) := qz_s2 (.ifCond .le) 0 22 qo_158 (by decide +kernel) rfl
theorem dX4_last_38 : decode cX4_last 38 = .ok (.aload_n 0, 1) := qd_p qo_42 (by decide +kernel)
theorem dX4_last_39 : decode cX4_last 39 = .ok (.iload_n 2, 1) := qd_p qo_28 (by decide +kernel)
theorem dX4_last_40 : decode cX4_last 40 = .ok (.iload 4, 2) := qz_1 .iload 4 qo_21 (by decide +kernel)
theorem dX4_last_42 : decode cX4_last 42 = .ok (.iconst 1, 1) := qd_p qo_4 (by decide +kernel)
theorem dX4_last_43 : decode cX4_last 43 = .ok (.isub, 1) := qd_p qo_100 (by decide +kernel)
theorem dX4_last_44 : decode cX4_last 44 = .ok (.invokevirtual 125, 3) := qz_2 .invokevirtual 0 125 qo_182 (by decide +kernel) rfl
theorem dX4_last_47 : decode cX4_last 47 = .ok (.iload_n 3, 1) := qd_p qo_29 (by decide +kernel)
theorem dX4_last_48 : decode cX4_last 48 = .ok (.if_icmp .ne 9, 3) := qz_s2 (.if_icmp .ne) 0 9 qo_160 (by decide +kernel) rfl
theorem dX4_last_51 : decode cX4_last 51 = .ok (.iinc 4 (-1), 3) := qd_i (x := 4) (y := 255) qo_132 (by decide +kernel) rfl
theorem dX4_last_54 : decode cX4_last 54 = .ok (.goto (-21), 3) := qz_s2 .goto 255 235 qo_167 (by decide +kernel) rfl
theorem dX4_last_57 : decode cX4_last 57 = .ok (.iload 4, 2) := qz_1 .iload 4 qo_21 (by decide +kernel)
theorem dX4_last_59 : decode cX4_last 59 = .ok (.iload_n 1, 1) := qd_p qo_27 (by decide +kernel)
theorem dX4_last_60 : decode cX4_last 60 = .ok (.if_icmp .le 8, 3) := qz_s2 (.if_icmp .le) 0 8 qo_164 (by decide +kernel) rfl
theorem dX4_last_63 : decode cX4_last 63 = .ok (.iload 4, 2) := qz_1 .iload 4 qo_21 (by decide +kernel)
theorem dX4_last_65 : decode cX4_last 65 = .ok (.goto 4, 3) := qz_s2 .goto 0 4 qo_167 (by decide +kernel) rfl
theorem dX4_last_68 : decode cX4_last 68 = .ok (.iload_n 1, 1) := qd_p qo_27 (by decide +kernel)
theorem dX4_last_69 : decode cX4_last 69 = .ok (.istore_n 1, 1) := qd_p qo_60 (by decide +kernel)
theorem dX4_last_70 : decode cX4_last 70 = .ok (.iinc 2 1, 3) := qd_i (x := 2) (y := 1) qo_132 (by decide +kernel) rfl
theorem dX4_last_73 : decode cX4_last 73 = .ok (.goto (-60), 3) := qz_s2 .goto 255 196 qo_167 (by decide +kernel) rfl
theorem dX4_last_76 : decode cX4_last 76 = .ok (.iload_n 1, 1) := qd_p qo_27 (by decide +kernel)
theorem dX4_last_77 : decode cX4_last 77 = .ok (.ireturn, 1) := qd_p qo_172 (by decide +kernel)
theorem dX4_countIn_0 : decode cX4_countIn 0 = .ok (.aload_n 0, 1) := qd_p qo_42 (by decide +kernel)
theorem dX4_countIn_1 : decode cX4_countIn 1 = .ok (.getfield 25, 3) := qz_2 .getfield 0 25 qo_180 (by decide +kernel) rfl
theorem dX4_countIn_4 : decode cX4_countIn 4 = .ok (.bipush 8, 2) := qz_s1 .bipush 8 qo_16 (by decide +kernel) rfl
theorem dX4_countIn_6 : decode cX4_countIn 6 = .ok (.iload_n 1, 1) := qd_p qo_27 (by decide +kernel)
theorem dX4_countIn_7 : decode cX4_countIn 7 = .ok (.imul, 1) := qd_p qo_104 (by decide +kernel)
theorem dX4_countIn_8 : decode cX4_countIn 8 = .ok (.iload_n 2, 1) := qd_p qo_28 (by decide +kernel)
theorem dX4_countIn_9 : decode cX4_countIn 9 = .ok (.iadd, 1) := qd_p qo_96 (by decide +kernel)
theorem dX4_countIn_10 : decode cX4_countIn 10 = .ok (.iaload, 1) := qd_p qo_46 (by decide +kernel)
theorem dX4_countIn_11 : decode cX4_countIn 11 = .ok (.iload_n 3, 1) := qd_p qo_29 (by decide +kernel)
theorem dX4_countIn_12 : decode cX4_countIn 12 = .ok (.aload_n 0, 1) := qd_p qo_42 (by decide +kernel)
theorem dX4_countIn_13 : decode cX4_countIn 13 = .ok (.getfield 31, 3) := qz_2 .getfield 0 31 qo_180 (by decide +kernel) rfl
theorem dX4_countIn_16 : decode cX4_countIn 16 = .ok (.bipush 8, 2) := qz_s1 .bipush 8 qo_16 (by decide +kernel) rfl
theorem dX4_countIn_18 : decode cX4_countIn 18 = .ok (.iload_n 1, 1) := qd_p qo_27 (by decide +kernel)
theorem dX4_countIn_19 : decode cX4_countIn 19 = .ok (.imul, 1) := qd_p qo_104 (by decide +kernel)
theorem dX4_countIn_20 : decode cX4_countIn 20 = .ok (.iload_n 2, 1) := qd_p qo_28 (by decide +kernel)
theorem dX4_countIn_21 : decode cX4_countIn 21 = .ok (.iadd, 1) := qd_p qo_96 (by decide +kernel)
theorem dX4_countIn_22 : decode cX4_countIn 22 = .ok (.iaload, 1) := qd_p qo_46 (by decide +kernel)
theorem dX4_countIn_23 : decode cX4_countIn 23 = .ok (.imul, 1) := qd_p qo_104 (by decide +kernel)
theorem dX4_countIn_24 : decode cX4_countIn 24 = .ok (.iadd, 1) := qd_p qo_96 (by decide +kernel)
theorem dX4_countIn_25 : decode cX4_countIn 25 = .ok (.invokestatic 118, 3) := qz_2 .invokestatic 0 118 qo_184 (by decide +kernel) rfl
theorem dX4_countIn_28 : decode cX4_countIn 28 = .ok (.ireturn, 1) := qd_p qo_172 (by decide +kernel)
theorem dX4_joint_0 : decode cX4_joint 0 = .ok (.aload_n 0, 1) := qd_p qo_42 (by decide +kernel)
theorem dX4_joint_1 : decode cX4_joint 1 = .ok (.iconst 0, 1) := qd_p qo_3 (by decide +kernel)
theorem dX4_joint_2 : decode cX4_joint 2 = .ok (.putfield 70, 3) := qz_2 .putfield 0 70 qo_181 (by decide +kernel) rfl
theorem dX4_joint_5 : decode cX4_joint 5 = .ok (.aload_n 0, 1) := qd_p qo_42 (by decide +kernel)
theorem dX4_joint_6 : decode cX4_joint 6 = .ok (.iload_n 1, 1) := qd_p qo_27 (by decide +kernel)
theorem dX4_joint_7 : decode cX4_joint 7 = .ok (.iload_n 2, 1) := qd_p qo_28 (by decide +kernel)
theorem dX4_joint_8 : decode cX4_joint 8 = .ok (.invokevirtual 257, 3) := qz_2 .invokevirtual 1 1 qo_182 (by decide +kernel) rfl
theorem dX4_joint_11 : decode cX4_joint 11 = .ok (.ifCond .eq 14, 3) := qz_s2 (.ifCond .eq) 0 14 qo_153 (by decide +kernel) rfl
theorem dX4_joint_14 : decode cX4_joint 14 = .ok (.iload_n 3, 1) := qd_p qo_29 (by decide +kernel)
theorem dX4_joint_15 : decode cX4_joint 15 = .ok (.iconst 0, 1) := qd_p qo_3 (by decide +kernel)
theorem dX4_joint_16 : decode cX4_joint 16 = .ok (.sipush 999, 3) := qz_s2 .sipush 3 231 qo_17 (by decide +kernel) rfl
theorem dX4_joint_19 : decode cX4_joint 19 = .ok (.invokestatic 231, 3) := qz_2 .invokestatic 0 231 qo_184 (by decide +kernel) rfl
theorem dX4_joint_22 : decode cX4_joint 22 = .ok (.goto 4, 3) := qz_s2 .goto 0 4 qo_167 (by decide +kernel) rfl
theorem dX4_joint_25 : decode cX4_joint 25 = .ok (.iconst (-1), 1) := qd_p qo_2 (by decide +kernel)
theorem dX4_joint_26 : decode cX4_joint 26 = .ok (.istore 4, 2) := qz_1 .istore 4 qo_54 (by decide +kernel)
theorem dX4_joint_28 : decode cX4_joint 28 = .ok (.iload 4, 2) := qz_1 .iload 4 qo_21 (by decide +kernel)
theorem dX4_joint_30 : decode cX4_joint 30 = .ok (.ifCond .ge 10, 3) := qz_s2 (.ifCond .ge) 0 10 qo_156 (by decide +kernel) rfl
theorem dX4_joint_33 : decode cX4_joint 33 = .ok (.aload_n 0, 1) := qd_p qo_42 (by decide +kernel)
theorem dX4_joint_34 : decode cX4_joint 34 = .ok (.iload 4, 2) := qz_1 .iload 4 qo_21 (by decide +kernel)
theorem dX4_joint_36 : decode cX4_joint 36 = .ok (.invokevirtual 143, 3) := qz_2 .invokevirtual 0 143 qo_182 (by decide +kernel) rfl
theorem dX4_joint_39 : decode cX4_joint 39 = .ok (.ireturn, 1) := qd_p qo_172 (by decide +kernel)
theorem dX4_joint_40 : decode cX4_joint 40 = .ok (.aload_n 0, 1) := qd_p qo_42 (by decide +kernel)
theorem dX4_joint_41 : decode cX4_joint 41 = .ok (.invokevirtual 134, 3) := qz_2 .invokevirtual 0 134 qo_182 (by decide +kernel) rfl
theorem dX4_joint_44 : decode cX4_joint 44 = .ok (.iconst 0, 1) := qd_p qo_3 (by decide +kernel)
theorem dX4_joint_45 : decode cX4_joint 45 = .ok (.istore 5, 2) := qz_1 .istore 5 qo_54 (by decide +kernel)
theorem dX4_joint_47 : decode cX4_joint 47 = .ok (.iconst 0, 1) := qd_p qo_3 (by decide +kernel)
theorem dX4_joint_48 : decode cX4_joint 48 = .ok (.istore 6, 2) := qz_1 .istore 6 qo_54 (by decide +kernel)
theorem dX4_joint_50 : decode cX4_joint 50 = .ok (.iload 6, 2) := qz_1 .iload 6 qo_21 (by decide +kernel)
theorem dX4_joint_52 : decode cX4_joint 52 = .ok (.bipush 8, 2) := qz_s1 .bipush 8 qo_16 (by decide +kernel) rfl
theorem dX4_joint_54 : decode cX4_joint 54 = .ok (.if_icmp .ge 114, 3) := qz_s2 (.if_icmp .ge) 0 114 qo_162 (by decide +kernel) rfl
theorem dX4_joint_57 : decode cX4_joint 57 = .ok (.aload_n 0, 1) := qd_p qo_42 (by decide +kernel)
theorem dX4_joint_58 : decode cX4_joint 58 = .ok (.iload_n 1, 1) := qd_p qo_27 (by decide +kernel)
theorem dX4_joint_59 : decode cX4_joint 59 = .ok (.iload 6, 2) := qz_1 .iload 6 qo_21 (by decide +kernel)
theorem dX4_joint_61 : decode cX4_joint 61 = .ok (.iload_n 3, 1) := qd_p qo_29 (by decide +kernel)
theorem dX4_joint_62 : decode cX4_joint 62 = .ok (.invokevirtual 291, 3) := qz_2 .invokevirtual 1 35 qo_182 (by decide +kernel) rfl
theorem dX4_joint_65 : decode cX4_joint 65 = .ok (.aload_n 0, 1) := qd_p qo_42 (by decide +kernel)
theorem dX4_joint_66 : decode cX4_joint 66 = .ok (.iload_n 2, 1) := qd_p qo_28 (by decide +kernel)
theorem dX4_joint_67 : decode cX4_joint 67 = .ok (.iload 6, 2) := qz_1 .iload 6 qo_21 (by decide +kernel)
theorem dX4_joint_69 : decode cX4_joint 69 = .ok (.iload_n 3, 1) := qd_p qo_29 (by decide +kernel)
theorem dX4_joint_70 : decode cX4_joint 70 = .ok (.invokevirtual 291, 3) := qz_2 .invokevirtual 1 35 qo_182 (by decide +kernel) rfl
theorem dX4_joint_73 : decode cX4_joint 73 = .ok (.iadd, 1) := qd_p qo_96 (by decide +kernel)
theorem dX4_joint_74 : decode cX4_joint 74 = .ok (.istore 7, 2) := qz_1 .istore 7 qo_54 (by decide +kernel)
theorem dX4_joint_76 : decode cX4_joint 76 = .ok (.iload 7, 2) := qz_1 .iload 7 qo_21 (by decide +kernel)
theorem dX4_joint_78 : decode cX4_joint 78 = .ok (.ifCond .le 7, 3) := qz_s2 (.ifCond .le) 0 7 qo_158 (by decide +kernel) rfl
theorem dX4_joint_81 : decode cX4_joint 81 = .ok (.iconst 1, 1) := qd_p qo_4 (by decide +kernel)
theorem dX4_joint_82 : decode cX4_joint 82 = .ok (.goto 4, 3) := qz_s2 .goto 0 4 qo_167 (by decide +kernel) rfl
theorem dX4_joint_85 : decode cX4_joint 85 = .ok (.iconst 0, 1) := qd_p qo_3 (by decide +kernel)
theorem dX4_joint_86 : decode cX4_joint 86 = .ok (.istore 8, 2) := qz_1 .istore 8 qo_54 (by decide +kernel)
theorem dX4_joint_88 : decode cX4_joint 88 = .ok (.iconst 0, 1) := qd_p qo_3 (by decide +kernel)
theorem dX4_joint_89 : decode cX4_joint 89 = .ok (.istore 9, 2) := qz_1 .istore 9 qo_54 (by decide +kernel)
theorem dX4_joint_91 : decode cX4_joint 91 = .ok (.iload 9, 2) := qz_1 .iload 9 qo_21 (by decide +kernel)
theorem dX4_joint_93 : decode cX4_joint 93 = .ok (.aload_n 0, 1) := qd_p qo_42 (by decide +kernel)
theorem dX4_joint_94 : decode cX4_joint 94 = .ok (.getfield 74, 3) := qz_2 .getfield 0 74 qo_180 (by decide +kernel) rfl
theorem dX4_joint_97 : decode cX4_joint 97 = .ok (.if_icmp .ge 47, 3) := qz_s2 (.if_icmp .ge) 0 47 qo_162 (by decide +kernel) rfl
theorem dX4_joint_100 : decode cX4_joint 100 = .ok (.iload 8, 2) := qz_1 .iload 8 qo_21 (by decide +kernel)
theorem dX4_joint_102 : decode cX4_joint 102 = .ok (.ifCond .eq 33, 3) := qz_s2 (.ifCond .eq) 0 33 qo_153 (by decide +kernel) rfl
theorem dX4_joint_105 : decode cX4_joint 105 = .ok (.iload 9, 2) := qz_1 .iload 9 qo_21 (by decide +kernel)
theorem dX4_joint_107 : decode cX4_joint 107 = .ok (.iload_n 1, 1) := qd_p qo_27 (by decide +kernel)
theorem dX4_joint_108 : decode cX4_joint 108 = .ok (.if_icmp .eq 23, 3) := qz_s2 (.if_icmp .eq) 0 23 qo_159 (by decide +kernel) rfl
theorem dX4_joint_111 : decode cX4_joint 111 = .ok (.iload 9, 2) := qz_1 .iload 9 qo_21 (by decide +kernel)
theorem dX4_joint_113 : decode cX4_joint 113 = .ok (.iload_n 2, 1) := qd_p qo_28 (by decide +kernel)
theorem dX4_joint_114 : decode cX4_joint 114 = .ok (.if_icmp .eq 17, 3) := qz_s2 (.if_icmp .eq) 0 17 qo_159 (by decide +kernel) rfl
theorem dX4_joint_117 : decode cX4_joint 117 = .ok (.aload_n 0, 1) := qd_p qo_42 (by decide +kernel)
theorem dX4_joint_118 : decode cX4_joint 118 = .ok (.iload 9, 2) := qz_1 .iload 9 qo_21 (by decide +kernel)
theorem dX4_joint_120 : decode cX4_joint 120 = .ok (.iload 6, 2) := qz_1 .iload 6 qo_21 (by decide +kernel)
theorem dX4_joint_122 : decode cX4_joint 122 = .ok (.iload_n 3, 1) := qd_p qo_29 (by decide +kernel)
theorem dX4_joint_123 : decode cX4_joint 123 = .ok (.invokevirtual 291, 3) := qz_2 .invokevirtual 1 35 qo_182 (by decide +kernel) rfl
theorem dX4_joint_126 : decode cX4_joint 126 = .ok (.iload 7, 2) := qz_1 .iload 7 qo_21 (by decide +kernel)
theorem dX4_joint_128 : decode cX4_joint 128 = .ok (.if_icmp .ge 7, 3) := qz_s2 (.if_icmp .ge) 0 7 qo_162 (by decide +kernel) rfl
theorem dX4_joint_131 : decode cX4_joint 131 = .ok (.iconst 1, 1) := qd_p qo_4 (by decide +kernel)
theorem dX4_joint_132 : decode cX4_joint 132 = .ok (.goto 4, 3) := qz_s2 .goto 0 4 qo_167 (by decide +kernel) rfl
theorem dX4_joint_135 : decode cX4_joint 135 = .ok (.iconst 0, 1) := qd_p qo_3 (by decide +kernel)
theorem dX4_joint_136 : decode cX4_joint 136 = .ok (.istore 8, 2) := qz_1 .istore 8 qo_54 (by decide +kernel)
theorem dX4_joint_138 : decode cX4_joint 138 = .ok (.iinc 9 1, 3) := qd_i (x := 9) (y := 1) qo_132 (by decide +kernel) rfl
theorem dX4_joint_141 : decode cX4_joint 141 = .ok (.goto (-50), 3) := qz_s2 .goto 255 206 qo_167 (by decide +kernel) rfl
theorem dX4_joint_144 : decode cX4_joint 144 = .ok (.iload 5, 2) := qz_1 .iload 5 qo_21 (by decide +kernel)
theorem dX4_joint_146 : decode cX4_joint 146 = .ok (.iload 8, 2) := qz_1 .iload 8 qo_21 (by decide +kernel)
theorem dX4_joint_148 : decode cX4_joint 148 = .ok (.ifCond .eq 10, 3) := qz_s2 (.ifCond .eq) 0 10 qo_153 (by decide +kernel) rfl
theorem dX4_joint_151 : decode cX4_joint 151 = .ok (.iconst 1, 1) := qd_p qo_4 (by decide +kernel)
theorem dX4_joint_152 : decode cX4_joint 152 = .ok (.iload 6, 2) := qz_1 .iload 6 qo_21 (by decide +kernel)
theorem dX4_joint_154 : decode cX4_joint 154 = .ok (.ishl, 1) := qd_p qo_120 (by decide +kernel)
theorem dX4_joint_155 : decode cX4_joint 155 = .ok (.goto 4, 3) := qz_s2 .goto 0 4 qo_167 (by decide +kernel) rfl
theorem dX4_joint_158 : decode cX4_joint 158 = .ok (.iconst 0, 1) := qd_p qo_3 (by decide +kernel)
theorem dX4_joint_159 : decode cX4_joint 159 = .ok (.ior, 1) := qd_p qo_128 (by decide +kernel)
theorem dX4_joint_160 : decode cX4_joint 160 = .ok (.istore 5, 2) := qz_1 .istore 5 qo_54 (by decide +kernel)
theorem dX4_joint_162 : decode cX4_joint 162 = .ok (.iinc 6 1, 3) := qd_i (x := 6) (y := 1) qo_132 (by decide +kernel) rfl
theorem dX4_joint_165 : decode cX4_joint 165 = .ok (.goto (-115), 3) := qz_s2 .goto 255 141 qo_167 (by decide +kernel) rfl
theorem dX4_joint_168 : decode cX4_joint 168 = .ok (.iload 5, 2) := qz_1 .iload 5 qo_21 (by decide +kernel)
theorem dX4_joint_170 : decode cX4_joint 170 = .ok (.ireturn, 1) := qd_p qo_172 (by decide +kernel)
theorem dX4_rank_0 : decode cX4_rank 0 = .ok (.aload_n 0, 1) := qd_p qo_42 (by decide +kernel)
theorem dX4_rank_1 : decode cX4_rank 1 = .ok (.iconst 0, 1) := qd_p qo_3 (by decide +kernel)
theorem dX4_rank_2 : decode cX4_rank 2 = .ok (.putfield 70, 3) := qz_2 .putfield 0 70 qo_181 (by decide +kernel) rfl
theorem dX4_rank_5 : decode cX4_rank 5 = .ok (.iload_n 1, 1) := qd_p qo_27 (by decide +kernel)
theorem dX4_rank_6 : decode cX4_rank 6 = .ok (.invokestatic 243, 3) := qz_2 .invokestatic 0 243 qo_184 (by decide +kernel) rfl
theorem dX4_rank_9 : decode cX4_rank 9 = .ok (.ifCond .ne 7, 3) := qz_s2 (.ifCond .ne) 0 7 qo_154 (by decide +kernel) rfl
theorem dX4_rank_12 : decode cX4_rank 12 = .ok (.iconst (-1), 1) := qd_p qo_2 (by decide +kernel)
theorem dX4_rank_13 : decode cX4_rank 13 = .ok (.goto 13, 3) := qz_s2 .goto 0 13 qo_167 (by decide +kernel) rfl
theorem dX4_rank_16 : decode cX4_rank 16 = .ok (.iload_n 2, 1) := qd_p qo_28 (by decide +kernel)
theorem dX4_rank_17 : decode cX4_rank 17 = .ok (.ifCond .ge 8, 3) := qz_s2 (.ifCond .ge) 0 8 qo_156 (by decide +kernel) rfl
theorem dX4_rank_20 : decode cX4_rank 20 = .ok (.bipush (-4), 2) := qz_s1 .bipush 252 qo_16 (by decide +kernel) rfl
theorem dX4_rank_22 : decode cX4_rank 22 = .ok (.goto 4, 3) := qz_s2 .goto 0 4 qo_167 (by decide +kernel) rfl
theorem dX4_rank_25 : decode cX4_rank 25 = .ok (.iconst 0, 1) := qd_p qo_3 (by decide +kernel)
theorem dX4_rank_26 : decode cX4_rank 26 = .ok (.istore_n 3, 1) := qd_p qo_62 (by decide +kernel)
theorem dX4_rank_27 : decode cX4_rank 27 = .ok (.iload_n 3, 1) := qd_p qo_29 (by decide +kernel)
theorem dX4_rank_28 : decode cX4_rank 28 = .ok (.ifCond .ge 9, 3) := qz_s2 (.ifCond .ge) 0 9 qo_156 (by decide +kernel) rfl
theorem dX4_rank_31 : decode cX4_rank 31 = .ok (.aload_n 0, 1) := qd_p qo_42 (by decide +kernel)
theorem dX4_rank_32 : decode cX4_rank 32 = .ok (.iload_n 3, 1) := qd_p qo_29 (by decide +kernel)
theorem dX4_rank_33 : decode cX4_rank 33 = .ok (.invokevirtual 143, 3) := qz_2 .invokevirtual 0 143 qo_182 (by decide +kernel) rfl
theorem dX4_rank_36 : decode cX4_rank 36 = .ok (.ireturn, 1) := qd_p qo_172 (by decide +kernel)
theorem dX4_rank_37 : decode cX4_rank 37 = .ok (.iconst 0, 1) := qd_p qo_3 (by decide +kernel)
theorem dX4_rank_38 : decode cX4_rank 38 = .ok (.istore 4, 2) := qz_1 .istore 4 qo_54 (by decide +kernel)
theorem dX4_rank_40 : decode cX4_rank 40 = .ok (.iload 4, 2) := qz_1 .iload 4 qo_21 (by decide +kernel)
theorem dX4_rank_42 : decode cX4_rank 42 = .ok (.aload_n 0, 1) := qd_p qo_42 (by decide +kernel)
theorem dX4_rank_43 : decode cX4_rank 43 = .ok (.getfield 74, 3) := qz_2 .getfield 0 74 qo_180 (by decide +kernel) rfl
theorem dX4_rank_46 : decode cX4_rank 46 = .ok (.if_icmp .ge 93, 3) := qz_s2 (.if_icmp .ge) 0 93 qo_162 (by decide +kernel) rfl
theorem dX4_rank_49 : decode cX4_rank 49 = .ok (.iconst 0, 1) := qd_p qo_3 (by decide +kernel)
theorem dX4_rank_50 : decode cX4_rank 50 = .ok (.istore 5, 2) := qz_1 .istore 5 qo_54 (by decide +kernel)
theorem dX4_rank_52 : decode cX4_rank 52 = .ok (.iconst 0, 1) := qd_p qo_3 (by decide +kernel)
theorem dX4_rank_53 : decode cX4_rank 53 = .ok (.istore 6, 2) := qz_1 .istore 6 qo_54 (by decide +kernel)
theorem dX4_rank_55 : decode cX4_rank 55 = .ok (.iload 6, 2) := qz_1 .iload 6 qo_21 (by decide +kernel)
theorem dX4_rank_57 : decode cX4_rank 57 = .ok (.aload_n 0, 1) := qd_p qo_42 (by decide +kernel)
theorem dX4_rank_58 : decode cX4_rank 58 = .ok (.getfield 74, 3) := qz_2 .getfield 0 74 qo_180 (by decide +kernel) rfl
theorem dX4_rank_61 : decode cX4_rank 61 = .ok (.if_icmp .ge 63, 3) := qz_s2 (.if_icmp .ge) 0 63 qo_162 (by decide +kernel) rfl
theorem dX4_rank_64 : decode cX4_rank 64 = .ok (.aload_n 0, 1) := qd_p qo_42 (by decide +kernel)
theorem dX4_rank_65 : decode cX4_rank 65 = .ok (.getfield 25, 3) := qz_2 .getfield 0 25 qo_180 (by decide +kernel) rfl
theorem dX4_rank_68 : decode cX4_rank 68 = .ok (.bipush 8, 2) := qz_s1 .bipush 8 qo_16 (by decide +kernel) rfl
theorem dX4_rank_70 : decode cX4_rank 70 = .ok (.iload 6, 2) := qz_1 .iload 6 qo_21 (by decide +kernel)
theorem dX4_rank_72 : decode cX4_rank 72 = .ok (.imul, 1) := qd_p qo_104 (by decide +kernel)
theorem dX4_rank_73 : decode cX4_rank 73 = .ok (.iload_n 1, 1) := qd_p qo_27 (by decide +kernel)
theorem dX4_rank_74 : decode cX4_rank 74 = .ok (.iadd, 1) := qd_p qo_96 (by decide +kernel)
theorem dX4_rank_75 : decode cX4_rank 75 = .ok (.iaload, 1) := qd_p qo_46 (by decide +kernel)
theorem dX4_rank_76 : decode cX4_rank 76 = .ok (.aload_n 0, 1) := qd_p qo_42 (by decide +kernel)
theorem dX4_rank_77 : decode cX4_rank 77 = .ok (.getfield 25, 3) := qz_2 .getfield 0 25 qo_180 (by decide +kernel) rfl
theorem dX4_rank_80 : decode cX4_rank 80 = .ok (.bipush 8, 2) := qz_s1 .bipush 8 qo_16 (by decide +kernel) rfl
theorem dX4_rank_82 : decode cX4_rank 82 = .ok (.iload 4, 2) := qz_1 .iload 4 qo_21 (by decide +kernel)
theorem dX4_rank_84 : decode cX4_rank 84 = .ok (.imul, 1) := qd_p qo_104 (by decide +kernel)
theorem dX4_rank_85 : decode cX4_rank 85 = .ok (.iload_n 1, 1) := qd_p qo_27 (by decide +kernel)
theorem dX4_rank_86 : decode cX4_rank 86 = .ok (.iadd, 1) := qd_p qo_96 (by decide +kernel)
theorem dX4_rank_87 : decode cX4_rank 87 = .ok (.iaload, 1) := qd_p qo_46 (by decide +kernel)
theorem dX4_rank_88 : decode cX4_rank 88 = .ok (.isub, 1) := qd_p qo_100 (by decide +kernel)
theorem dX4_rank_89 : decode cX4_rank 89 = .ok (.istore 7, 2) := qz_1 .istore 7 qo_54 (by decide +kernel)
theorem dX4_rank_91 : decode cX4_rank 91 = .ok (.iload 5, 2) := qz_1 .iload 5 qo_21 (by decide +kernel)
theorem dX4_rank_93 : decode cX4_rank 93 = .ok (.iload 7, 2) := qz_1 .iload 7 qo_21 (by decide +kernel)
theorem dX4_rank_95 : decode cX4_rank 95 = .ok (.ifCond .gt 15, 3) := qz_s2 (.ifCond .gt) 0 15 qo_157 (by decide +kernel) rfl
theorem dX4_rank_98 : decode cX4_rank 98 = .ok (.iload 7, 2) := qz_1 .iload 7 qo_21 (by decide +kernel)
theorem dX4_rank_100 : decode cX4_rank 100 = .ok (.ifCond .ne 14, 3) := qz_s2 (.ifCond .ne) 0 14 qo_154 (by decide +kernel) rfl
theorem dX4_rank_103 : decode cX4_rank 103 = .ok (.iload 6, 2) := qz_1 .iload 6 qo_21 (by decide +kernel)
theorem dX4_rank_105 : decode cX4_rank 105 = .ok (.iload 4, 2) := qz_1 .iload 4 qo_21 (by decide +kernel)
theorem dX4_rank_107 : decode cX4_rank 107 = .ok (.if_icmp .ge 7, 3) := qz_s2 (.if_icmp .ge) 0 7 qo_162 (by decide +kernel) rfl
theorem dX4_rank_110 : decode cX4_rank 110 = .ok (.iconst 1, 1) := qd_p qo_4 (by decide +kernel)
theorem dX4_rank_111 : decode cX4_rank 111 = .ok (.goto 4, 3) := qz_s2 .goto 0 4 qo_167 (by decide +kernel) rfl
theorem dX4_rank_114 : decode cX4_rank 114 = .ok (.iconst 0, 1) := qd_p qo_3 (by decide +kernel)
theorem dX4_rank_115 : decode cX4_rank 115 = .ok (.iadd, 1) := qd_p qo_96 (by decide +kernel)
theorem dX4_rank_116 : decode cX4_rank 116 = .ok (.istore 5, 2) := qz_1 .istore 5 qo_54 (by decide +kernel)
theorem dX4_rank_118 : decode cX4_rank 118 = .ok (.iinc 6 1, 3) := qd_i (x := 6) (y := 1) qo_132 (by decide +kernel) rfl
theorem dX4_rank_121 : decode cX4_rank 121 = .ok (.goto (-66), 3) := qz_s2 .goto 255 190 qo_167 (by decide +kernel) rfl
theorem dX4_rank_124 : decode cX4_rank 124 = .ok (.iload 5, 2) := qz_1 .iload 5 qo_21 (by decide +kernel)
theorem dX4_rank_126 : decode cX4_rank 126 = .ok (.iload_n 2, 1) := qd_p qo_28 (by decide +kernel)
theorem dX4_rank_127 : decode cX4_rank 127 = .ok (.if_icmp .ne 6, 3) := qz_s2 (.if_icmp .ne) 0 6 qo_160 (by decide +kernel) rfl
theorem dX4_rank_130 : decode cX4_rank 130 = .ok (.iload 4, 2) := qz_1 .iload 4 qo_21 (by decide +kernel)
theorem dX4_rank_132 : decode cX4_rank 132 = .ok (.ireturn, 1) := qd_p qo_172 (by decide +kernel)
theorem dX4_rank_133 : decode cX4_rank 133 = .ok (.iinc 4 1, 3) := qd_i (x := 4) (y := 1) qo_132 (by decide +kernel) rfl
theorem dX4_rank_136 : decode cX4_rank 136 = .ok (.goto (-96), 3) := qz_s2 .goto 255 160 qo_167 (by decide +kernel) rfl
theorem dX4_rank_139 : decode cX4_rank 139 = .ok (.bipush (-9), 2) := qz_s1 .bipush 247 qo_16 (by decide +kernel) rfl
theorem dX4_rank_141 : decode cX4_rank 141 = .ok (.ireturn, 1) := qd_p qo_172 (by decide +kernel)
theorem dX4_gap_0 : decode cX4_gap 0 = .ok (.aload_n 0, 1) := qd_p qo_42 (by decide +kernel)
theorem dX4_gap_1 : decode cX4_gap 1 = .ok (.iconst 0, 1) := qd_p qo_3 (by decide +kernel)
theorem dX4_gap_2 : decode cX4_gap 2 = .ok (.putfield 70, 3) := qz_2 .putfield 0 70 qo_181 (by decide +kernel) rfl
theorem dX4_gap_5 : decode cX4_gap 5 = .ok (.iload_n 1, 1) := qd_p qo_27 (by decide +kernel)
theorem dX4_gap_6 : decode cX4_gap 6 = .ok (.invokestatic 243, 3) := qz_2 .invokestatic 0 243 qo_184 (by decide +kernel) rfl
theorem dX4_gap_9 : decode cX4_gap 9 = .ok (.ifCond .eq 14, 3) := qz_s2 (.ifCond .eq) 0 14 qo_153 (by decide +kernel) rfl
theorem dX4_gap_12 : decode cX4_gap 12 = .ok (.iload_n 2, 1) := qd_p qo_28 (by decide +kernel)
theorem dX4_gap_13 : decode cX4_gap 13 = .ok (.iconst 0, 1) := qd_p qo_3 (by decide +kernel)
theorem dX4_gap_14 : decode cX4_gap 14 = .ok (.sipush 999, 3) := qz_s2 .sipush 3 231 qo_17 (by decide +kernel) rfl
theorem dX4_gap_17 : decode cX4_gap 17 = .ok (.invokestatic 231, 3) := qz_2 .invokestatic 0 231 qo_184 (by decide +kernel) rfl
theorem dX4_gap_20 : decode cX4_gap 20 = .ok (.goto 4, 3) := qz_s2 .goto 0 4 qo_167 (by decide +kernel) rfl
theorem dX4_gap_23 : decode cX4_gap 23 = .ok (.iconst (-1), 1) := qd_p qo_2 (by decide +kernel)
theorem dX4_gap_24 : decode cX4_gap 24 = .ok (.istore_n 3, 1) := qd_p qo_62 (by decide +kernel)
theorem dX4_gap_25 : decode cX4_gap 25 = .ok (.iload_n 3, 1) := qd_p qo_29 (by decide +kernel)
theorem dX4_gap_26 : decode cX4_gap 26 = .ok (.ifCond .ge 9, 3) := qz_s2 (.ifCond .ge) 0 9 qo_156 (by decide +kernel) rfl
theorem dX4_gap_29 : decode cX4_gap 29 = .ok (.aload_n 0, 1) := qd_p qo_42 (by decide +kernel)
theorem dX4_gap_30 : decode cX4_gap 30 = .ok (.iload_n 3, 1) := qd_p qo_29 (by decide +kernel)
theorem dX4_gap_31 : decode cX4_gap 31 = .ok (.invokevirtual 143, 3) := qz_2 .invokevirtual 0 143 qo_182 (by decide +kernel) rfl
theorem dX4_gap_34 : decode cX4_gap 34 = .ok (.ireturn, 1) := qd_p qo_172 (by decide +kernel)
theorem dX4_gap_35 : decode cX4_gap 35 = .ok (.aload_n 0, 1) := qd_p qo_42 (by decide +kernel)
theorem dX4_gap_36 : decode cX4_gap 36 = .ok (.invokevirtual 134, 3) := qz_2 .invokevirtual 0 134 qo_182 (by decide +kernel) rfl
theorem dX4_gap_39 : decode cX4_gap 39 = .ok (.iconst 0, 1) := qd_p qo_3 (by decide +kernel)
theorem dX4_gap_40 : decode cX4_gap 40 = .ok (.istore 4, 2) := qz_1 .istore 4 qo_54 (by decide +kernel)
theorem dX4_gap_42 : decode cX4_gap 42 = .ok (.iconst 0, 1) := qd_p qo_3 (by decide +kernel)
theorem dX4_gap_43 : decode cX4_gap 43 = .ok (.istore 5, 2) := qz_1 .istore 5 qo_54 (by decide +kernel)
theorem dX4_gap_45 : decode cX4_gap 45 = .ok (.iconst 0, 1) := qd_p qo_3 (by decide +kernel)
theorem dX4_gap_46 : decode cX4_gap 46 = .ok (.istore 6, 2) := qz_1 .istore 6 qo_54 (by decide +kernel)
theorem dX4_gap_48 : decode cX4_gap 48 = .ok (.iload 6, 2) := qz_1 .iload 6 qo_21 (by decide +kernel)
theorem dX4_gap_50 : decode cX4_gap 50 = .ok (.aload_n 0, 1) := qd_p qo_42 (by decide +kernel)
theorem dX4_gap_51 : decode cX4_gap 51 = .ok (.getfield 74, 3) := qz_2 .getfield 0 74 qo_180 (by decide +kernel) rfl
theorem dX4_gap_54 : decode cX4_gap 54 = .ok (.if_icmp .ge 63, 3) := qz_s2 (.if_icmp .ge) 0 63 qo_162 (by decide +kernel) rfl
theorem dX4_gap_57 : decode cX4_gap 57 = .ok (.aload_n 0, 1) := qd_p qo_42 (by decide +kernel)
theorem dX4_gap_58 : decode cX4_gap 58 = .ok (.iload 6, 2) := qz_1 .iload 6 qo_21 (by decide +kernel)
theorem dX4_gap_60 : decode cX4_gap 60 = .ok (.iload_n 1, 1) := qd_p qo_27 (by decide +kernel)
theorem dX4_gap_61 : decode cX4_gap 61 = .ok (.iload_n 2, 1) := qd_p qo_28 (by decide +kernel)
theorem dX4_gap_62 : decode cX4_gap 62 = .ok (.invokevirtual 291, 3) := qz_2 .invokevirtual 1 35 qo_182 (by decide +kernel) rfl
theorem dX4_gap_65 : decode cX4_gap 65 = .ok (.istore 7, 2) := qz_1 .istore 7 qo_54 (by decide +kernel)
theorem dX4_gap_67 : decode cX4_gap 67 = .ok (.iload 7, 2) := qz_1 .iload 7 qo_21 (by decide +kernel)
theorem dX4_gap_69 : decode cX4_gap 69 = .ok (.iload 4, 2) := qz_1 .iload 4 qo_21 (by decide +kernel)
theorem dX4_gap_71 : decode cX4_gap 71 = .ok (.if_icmp .le 8, 3) := qz_s2 (.if_icmp .le) 0 8 qo_164 (by decide +kernel) rfl
theorem dX4_gap_74 : decode cX4_gap 74 = .ok (.iload 4, 2) := qz_1 .iload 4 qo_21 (by decide +kernel)
theorem dX4_gap_76 : decode cX4_gap 76 = .ok (.goto 17, 3) := qz_s2 .goto 0 17 qo_167 (by decide +kernel) rfl
theorem dX4_gap_79 : decode cX4_gap 79 = .ok (.iload 7, 2) := qz_1 .iload 7 qo_21 (by decide +kernel)
theorem dX4_gap_81 : decode cX4_gap 81 = .ok (.iload 5, 2) := qz_1 .iload 5 qo_21 (by decide +kernel)
theorem dX4_gap_83 : decode cX4_gap 83 = .ok (.if_icmp .le 8, 3) := qz_s2 (.if_icmp .le) 0 8 qo_164 (by decide +kernel) rfl
theorem dX4_gap_86 : decode cX4_gap 86 = .ok (.iload 7, 2) := qz_1 .iload 7 qo_21 (by decide +kernel)
theorem dX4_gap_88 : decode cX4_gap 88 = .ok (.goto 5, 3) := qz_s2 .goto 0 5 qo_167 (by decide +kernel) rfl
theorem dX4_gap_91 : decode cX4_gap 91 = .ok (.iload 5, 2) := qz_1 .iload 5 qo_21 (by decide +kernel)
theorem dX4_gap_93 : decode cX4_gap 93 = .ok (.istore 5, 2) := qz_1 .istore 5 qo_54 (by decide +kernel)
theorem dX4_gap_95 : decode cX4_gap 95 = .ok (.iload 7, 2) := qz_1 .iload 7 qo_21 (by decide +kernel)
theorem dX4_gap_97 : decode cX4_gap 97 = .ok (.iload 4, 2) := qz_1 .iload 4 qo_21 (by decide +kernel)
theorem dX4_gap_99 : decode cX4_gap 99 = .ok (.if_icmp .le 8, 3) := qz_s2 (.if_icmp .le) 0 8 qo_164 (by decide +kernel) rfl
theorem dX4_gap_102 : decode cX4_gap 102 = .ok (.iload 7, 2) := qz_1 .iload 7 qo_21 (by decide +kernel)
theorem dX4_gap_104 : decode cX4_gap 104 = .ok (.goto 5, 3) := qz_s2 .goto 0 5 qo_167 (by decide +kernel) rfl
theorem dX4_gap_107 : decode cX4_gap 107 = .ok (.iload 4, 2) := qz_1 .iload 4 qo_21 (by decide +kernel)
theorem dX4_gap_109 : decode cX4_gap 109 = .ok (.istore 4, 2) := qz_1 .istore 4 qo_54 (by decide +kernel)
theorem dX4_gap_111 : decode cX4_gap 111 = .ok (.iinc 6 1, 3) := qd_i (x := 6) (y := 1) qo_132 (by decide +kernel) rfl
theorem dX4_gap_114 : decode cX4_gap 114 = .ok (.goto (-66), 3) := qz_s2 .goto 255 190 qo_167 (by decide +kernel) rfl
theorem dX4_gap_117 : decode cX4_gap 117 = .ok (.iload 4, 2) := qz_1 .iload 4 qo_21 (by decide +kernel)
theorem dX4_gap_119 : decode cX4_gap 119 = .ok (.iload 5, 2) := qz_1 .iload 5 qo_21 (by decide +kernel)
theorem dX4_gap_121 : decode cX4_gap 121 = .ok (.isub, 1) := qd_p qo_100 (by decide +kernel)
theorem dX4_gap_122 : decode cX4_gap 122 = .ok (.ireturn, 1) := qd_p qo_172 (by decide +kernel)
theorem dX4_wasted_0 : decode cX4_wasted 0 = .ok (.aload_n 0, 1) := qd_p qo_42 (by decide +kernel)
theorem dX4_wasted_1 : decode cX4_wasted 1 = .ok (.iconst 0, 1) := qd_p qo_3 (by decide +kernel)
theorem dX4_wasted_2 : decode cX4_wasted 2 = .ok (.putfield 70, 3) := qz_2 .putfield 0 70 qo_181 (by decide +kernel) rfl
theorem dX4_wasted_5 : decode cX4_wasted 5 = .ok (.aload_n 0, 1) := qd_p qo_42 (by decide +kernel)
theorem dX4_wasted_6 : decode cX4_wasted 6 = .ok (.iload_n 1, 1) := qd_p qo_27 (by decide +kernel)
theorem dX4_wasted_7 : decode cX4_wasted 7 = .ok (.invokevirtual 88, 3) := qz_2 .invokevirtual 0 88 qo_182 (by decide +kernel) rfl
theorem dX4_wasted_10 : decode cX4_wasted 10 = .ok (.ifCond .eq 12, 3) := qz_s2 (.ifCond .eq) 0 12 qo_153 (by decide +kernel) rfl
theorem dX4_wasted_13 : decode cX4_wasted 13 = .ok (.iconst 0, 1) := qd_p qo_3 (by decide +kernel)
theorem dX4_wasted_14 : decode cX4_wasted 14 = .ok (.iload_n 2, 1) := qd_p qo_28 (by decide +kernel)
theorem dX4_wasted_15 : decode cX4_wasted 15 = .ok (.iconst 1, 1) := qd_p qo_4 (by decide +kernel)
theorem dX4_wasted_16 : decode cX4_wasted 16 = .ok (.invokestatic 251, 3) := qz_2 .invokestatic 0 251 qo_184 (by decide +kernel) rfl
theorem dX4_wasted_19 : decode cX4_wasted 19 = .ok (.goto 4, 3) := qz_s2 .goto 0 4 qo_167 (by decide +kernel) rfl
theorem dX4_wasted_22 : decode cX4_wasted 22 = .ok (.iconst (-1), 1) := qd_p qo_2 (by decide +kernel)
theorem dX4_wasted_23 : decode cX4_wasted 23 = .ok (.istore_n 3, 1) := qd_p qo_62 (by decide +kernel)
theorem dX4_wasted_24 : decode cX4_wasted 24 = .ok (.iload_n 3, 1) := qd_p qo_29 (by decide +kernel)
theorem dX4_wasted_25 : decode cX4_wasted 25 = .ok (.ifCond .ge 9, 3) := qz_s2 (.ifCond .ge) 0 9 qo_156 (by decide +kernel) rfl
theorem dX4_wasted_28 : decode cX4_wasted 28 = .ok (.aload_n 0, 1) := qd_p qo_42 (by decide +kernel)
theorem dX4_wasted_29 : decode cX4_wasted 29 = .ok (.iload_n 3, 1) := qd_p qo_29 (by decide +kernel)
theorem dX4_wasted_30 : decode cX4_wasted 30 = .ok (.invokevirtual 143, 3) := qz_2 .invokevirtual 0 143 qo_182 (by decide +kernel) rfl
theorem dX4_wasted_33 : decode cX4_wasted 33 = .ok (.ireturn, 1) := qd_p qo_172 (by decide +kernel)
theorem dX4_wasted_34 : decode cX4_wasted 34 = .ok (.iconst 0, 1) := qd_p qo_3 (by decide +kernel)
theorem dX4_wasted_35 : decode cX4_wasted 35 = .ok (.istore 4, 2) := qz_1 .istore 4 qo_54 (by decide +kernel)
theorem dX4_wasted_37 : decode cX4_wasted 37 = .ok (.iconst 0, 1) := qd_p qo_3 (by decide +kernel)
theorem dX4_wasted_38 : decode cX4_wasted 38 = .ok (.istore 5, 2) := qz_1 .istore 5 qo_54 (by decide +kernel)
theorem dX4_wasted_40 : decode cX4_wasted 40 = .ok (.iload 5, 2) := qz_1 .iload 5 qo_21 (by decide +kernel)
theorem dX4_wasted_42 : decode cX4_wasted 42 = .ok (.bipush 24, 2) := qz_s1 .bipush 24 qo_16 (by decide +kernel) rfl
theorem dX4_wasted_44 : decode cX4_wasted 44 = .ok (.if_icmp .ge 90, 3) := qz_s2 (.if_icmp .ge) 0 90 qo_162 (by decide +kernel) rfl
theorem dX4_wasted_47 : decode cX4_wasted 47 = .ok (.aload_n 0, 1) := qd_p qo_42 (by decide +kernel)
theorem dX4_wasted_48 : decode cX4_wasted 48 = .ok (.getfield 22, 3) := qz_2 .getfield 0 22 qo_180 (by decide +kernel) rfl
theorem dX4_wasted_51 : decode cX4_wasted 51 = .ok (.bipush 24, 2) := qz_s1 .bipush 24 qo_16 (by decide +kernel) rfl
theorem dX4_wasted_53 : decode cX4_wasted 53 = .ok (.iload_n 1, 1) := qd_p qo_27 (by decide +kernel)
theorem dX4_wasted_54 : decode cX4_wasted 54 = .ok (.imul, 1) := qd_p qo_104 (by decide +kernel)
theorem dX4_wasted_55 : decode cX4_wasted 55 = .ok (.iload 5, 2) := qz_1 .iload 5 qo_21 (by decide +kernel)
theorem dX4_wasted_57 : decode cX4_wasted 57 = .ok (.iadd, 1) := qd_p qo_96 (by decide +kernel)
theorem dX4_wasted_58 : decode cX4_wasted 58 = .ok (.iaload, 1) := qd_p qo_46 (by decide +kernel)
theorem dX4_wasted_59 : decode cX4_wasted 59 = .ok (.ifCond .lt 7, 3) := qz_s2 (.ifCond .lt) 0 7 qo_155 (by decide +kernel) rfl
theorem dX4_wasted_62 : decode cX4_wasted 62 = .ok (.iconst 1, 1) := qd_p qo_4 (by decide +kernel)
theorem dX4_wasted_63 : decode cX4_wasted 63 = .ok (.goto 4, 3) := qz_s2 .goto 0 4 qo_167 (by decide +kernel) rfl
theorem dX4_wasted_66 : decode cX4_wasted 66 = .ok (.iconst 0, 1) := qd_p qo_3 (by decide +kernel)
theorem dX4_wasted_67 : decode cX4_wasted 67 = .ok (.istore 6, 2) := qz_1 .istore 6 qo_54 (by decide +kernel)
theorem dX4_wasted_69 : decode cX4_wasted 69 = .ok (.aload_n 0, 1) := qd_p qo_42 (by decide +kernel)
theorem dX4_wasted_70 : decode cX4_wasted 70 = .ok (.iload_n 1, 1) := qd_p qo_27 (by decide +kernel)
theorem dX4_wasted_71 : decode cX4_wasted 71 = .ok (.iload 5, 2) := qz_1 .iload 5 qo_21 (by decide +kernel)
theorem dX4_wasted_73 : decode cX4_wasted 73 = .ok (.invokevirtual 108, 3) := qz_2 .invokevirtual 0 108 qo_182 (by decide +kernel) rfl
theorem dX4_wasted_76 : decode cX4_wasted 76 = .ok (.ifCond .le 7, 3) := qz_s2 (.ifCond .le) 0 7 qo_158 (by decide +kernel) rfl
theorem dX4_wasted_79 : decode cX4_wasted 79 = .ok (.iconst 1, 1) := qd_p qo_4 (by decide +kernel)
theorem dX4_wasted_80 : decode cX4_wasted 80 = .ok (.goto 4, 3) := qz_s2 .goto 0 4 qo_167 (by decide +kernel) rfl
theorem dX4_wasted_83 : decode cX4_wasted 83 = .ok (.iconst 0, 1) := qd_p qo_3 (by decide +kernel)
theorem dX4_wasted_84 : decode cX4_wasted 84 = .ok (.istore 7, 2) := qz_1 .istore 7 qo_54 (by decide +kernel)
theorem dX4_wasted_86 : decode cX4_wasted 86 = .ok (.iload 4, 2) := qz_1 .iload 4 qo_21 (by decide +kernel)
theorem dX4_wasted_88 : decode cX4_wasted 88 = .ok (.iload 6, 2) := qz_1 .iload 6 qo_21 (by decide +kernel)
theorem dX4_wasted_90 : decode cX4_wasted 90 = .ok (.iload_n 2, 1) := qd_p qo_28 (by decide +kernel)
theorem dX4_wasted_91 : decode cX4_wasted 91 = .ok (.ifCond .ne 7, 3) := qz_s2 (.ifCond .ne) 0 7 qo_154 (by decide +kernel) rfl
theorem dX4_wasted_94 : decode cX4_wasted 94 = .ok (.iconst 1, 1) := qd_p qo_4 (by decide +kernel)
theorem dX4_wasted_95 : decode cX4_wasted 95 = .ok (.goto 4, 3) := qz_s2 .goto 0 4 qo_167 (by decide +kernel) rfl
theorem dX4_wasted_98 : decode cX4_wasted 98 = .ok (.iconst 0, 1) := qd_p qo_3 (by decide +kernel)
theorem dX4_wasted_99 : decode cX4_wasted 99 = .ok (.if_icmp .ne 25, 3) := qz_s2 (.if_icmp .ne) 0 25 qo_160 (by decide +kernel) rfl
theorem dX4_wasted_102 : decode cX4_wasted 102 = .ok (.iload 7, 2) := qz_1 .iload 7 qo_21 (by decide +kernel)
theorem dX4_wasted_104 : decode cX4_wasted 104 = .ok (.iload_n 2, 1) := qd_p qo_28 (by decide +kernel)
theorem dX4_wasted_105 : decode cX4_wasted 105 = .ok (.iconst 1, 1) := qd_p qo_4 (by decide +kernel)
theorem dX4_wasted_106 : decode cX4_wasted 106 = .ok (.if_icmp .ne 7, 3) := qz_s2 (.if_icmp .ne) 0 7 qo_160 (by decide +kernel) rfl
theorem dX4_wasted_109 : decode cX4_wasted 109 = .ok (.iconst 1, 1) := qd_p qo_4 (by decide +kernel)
theorem dX4_wasted_110 : decode cX4_wasted 110 = .ok (.goto 4, 3) := qz_s2 .goto 0 4 qo_167 (by decide +kernel) rfl
theorem dX4_wasted_113 : decode cX4_wasted 113 = .ok (.iconst 0, 1) := qd_p qo_3 (by decide +kernel)
theorem dX4_wasted_114 : decode cX4_wasted 114 = .ok (.if_icmp .ne 10, 3) := qz_s2 (.if_icmp .ne) 0 10 qo_160 (by decide +kernel) rfl
theorem dX4_wasted_117 : decode cX4_wasted 117 = .ok (.iconst 1, 1) := qd_p qo_4 (by decide +kernel)
theorem dX4_wasted_118 : decode cX4_wasted 118 = .ok (.iload 5, 2) := qz_1 .iload 5 qo_21 (by decide +kernel)
theorem dX4_wasted_120 : decode cX4_wasted 120 = .ok (.ishl, 1) := qd_p qo_120 (by decide +kernel)
theorem dX4_wasted_121 : decode cX4_wasted 121 = .ok (.goto 4, 3) := qz_s2 .goto 0 4 qo_167 (by decide +kernel) rfl
theorem dX4_wasted_124 : decode cX4_wasted 124 = .ok (.iconst 0, 1) := qd_p qo_3 (by decide +kernel)
theorem dX4_wasted_125 : decode cX4_wasted 125 = .ok (.ior, 1) := qd_p qo_128 (by decide +kernel)
theorem dX4_wasted_126 : decode cX4_wasted 126 = .ok (.istore 4, 2) := qz_1 .istore 4 qo_54 (by decide +kernel)
theorem dX4_wasted_128 : decode cX4_wasted 128 = .ok (.iinc 5 1, 3) := qd_i (x := 5) (y := 1) qo_132 (by decide +kernel) rfl
theorem dX4_wasted_131 : decode cX4_wasted 131 = .ok (.goto (-91), 3) := qz_s2 .goto 255 165 qo_167 (by decide +kernel) rfl
theorem dX4_wasted_134 : decode cX4_wasted 134 = .ok (.iload 4, 2) := qz_1 .iload 4 qo_21 (by decide +kernel)
theorem dX4_wasted_136 : decode cX4_wasted 136 = .ok (.ireturn, 1) := qd_p qo_172 (by decide +kernel)
theorem dX4_ahead_0 : decode cX4_ahead 0 = .ok (.aload_n 0, 1) := qd_p qo_42 (by decide +kernel)
theorem dX4_ahead_1 : decode cX4_ahead 1 = .ok (.iconst 0, 1) := qd_p qo_3 (by decide +kernel)
theorem dX4_ahead_2 : decode cX4_ahead 2 = .ok (.putfield 70, 3) := qz_2 .putfield 0 70 qo_181 (by decide +kernel) rfl
theorem dX4_ahead_5 : decode cX4_ahead 5 = .ok (.aload_n 0, 1) := qd_p qo_42 (by decide +kernel)
theorem dX4_ahead_6 : decode cX4_ahead 6 = .ok (.iload_n 1, 1) := qd_p qo_27 (by decide +kernel)
theorem dX4_ahead_7 : decode cX4_ahead 7 = .ok (.iload_n 2, 1) := qd_p qo_28 (by decide +kernel)
theorem dX4_ahead_8 : decode cX4_ahead 8 = .ok (.invokevirtual 257, 3) := qz_2 .invokevirtual 1 1 qo_182 (by decide +kernel) rfl
theorem dX4_ahead_11 : decode cX4_ahead 11 = .ok (.ifCond .ne 9, 3) := qz_s2 (.ifCond .ne) 0 9 qo_154 (by decide +kernel) rfl
theorem dX4_ahead_14 : decode cX4_ahead 14 = .ok (.aload_n 0, 1) := qd_p qo_42 (by decide +kernel)
theorem dX4_ahead_15 : decode cX4_ahead 15 = .ok (.iconst (-1), 1) := qd_p qo_2 (by decide +kernel)
theorem dX4_ahead_16 : decode cX4_ahead 16 = .ok (.invokevirtual 143, 3) := qz_2 .invokevirtual 0 143 qo_182 (by decide +kernel) rfl
theorem dX4_ahead_19 : decode cX4_ahead 19 = .ok (.ireturn, 1) := qd_p qo_172 (by decide +kernel)
theorem dX4_ahead_20 : decode cX4_ahead 20 = .ok (.aload_n 0, 1) := qd_p qo_42 (by decide +kernel)
theorem dX4_ahead_21 : decode cX4_ahead 21 = .ok (.invokevirtual 134, 3) := qz_2 .invokevirtual 0 134 qo_182 (by decide +kernel) rfl
theorem dX4_ahead_24 : decode cX4_ahead 24 = .ok (.iconst 0, 1) := qd_p qo_3 (by decide +kernel)
theorem dX4_ahead_25 : decode cX4_ahead 25 = .ok (.istore_n 3, 1) := qd_p qo_62 (by decide +kernel)
theorem dX4_ahead_26 : decode cX4_ahead 26 = .ok (.iload_n 3, 1) := qd_p qo_29 (by decide +kernel)
theorem dX4_ahead_27 : decode cX4_ahead 27 = .ok (.sipush 999, 3) := qz_s2 .sipush 3 231 qo_17 (by decide +kernel) rfl
theorem dX4_ahead_30 : decode cX4_ahead 30 = .ok (.if_icmp .gt 26, 3) := qz_s2 (.if_icmp .gt) 0 26 qo_163 (by decide +kernel) rfl
theorem dX4_ahead_33 : decode cX4_ahead 33 = .ok (.aload_n 0, 1) := qd_p qo_42 (by decide +kernel)
theorem dX4_ahead_34 : decode cX4_ahead 34 = .ok (.iload_n 1, 1) := qd_p qo_27 (by decide +kernel)
theorem dX4_ahead_35 : decode cX4_ahead 35 = .ok (.iload_n 3, 1) := qd_p qo_29 (by decide +kernel)
theorem dX4_ahead_36 : decode cX4_ahead 36 = .ok (.invokevirtual 137, 3) := qz_2 .invokevirtual 0 137 qo_182 (by decide +kernel) rfl
theorem dX4_ahead_39 : decode cX4_ahead 39 = .ok (.aload_n 0, 1) := qd_p qo_42 (by decide +kernel)
theorem dX4_ahead_40 : decode cX4_ahead 40 = .ok (.iload_n 2, 1) := qd_p qo_28 (by decide +kernel)
theorem dX4_ahead_41 : decode cX4_ahead 41 = .ok (.iload_n 3, 1) := qd_p qo_29 (by decide +kernel)
theorem dX4_ahead_42 : decode cX4_ahead 42 = .ok (.invokevirtual 137, 3) := qz_2 .invokevirtual 0 137 qo_182 (by decide +kernel) rfl
theorem dX4_ahead_45 : decode cX4_ahead 45 = .ok (.if_icmp .le 5, 3) := qz_s2 (.if_icmp .le) 0 5 qo_164 (by decide +kernel) rfl
theorem dX4_ahead_48 : decode cX4_ahead 48 = .ok (.iload_n 3, 1) := qd_p qo_29 (by decide +kernel)
theorem dX4_ahead_49 : decode cX4_ahead 49 = .ok (.ireturn, 1) := qd_p qo_172 (by decide +kernel)
theorem dX4_ahead_50 : decode cX4_ahead 50 = .ok (.iinc 3 1, 3) := qd_i (x := 3) (y := 1) qo_132 (by decide +kernel) rfl
theorem dX4_ahead_53 : decode cX4_ahead 53 = .ok (.goto (-27), 3) := qz_s2 .goto 255 229 qo_167 (by decide +kernel) rfl
theorem dX4_ahead_56 : decode cX4_ahead 56 = .ok (.bipush (-9), 2) := qz_s1 .bipush 247 qo_16 (by decide +kernel) rfl
theorem dX4_ahead_58 : decode cX4_ahead 58 = .ok (.ireturn, 1) := qd_p qo_172 (by decide +kernel)
theorem dX4_bestLaw_0 : decode cX4_bestLaw 0 = .ok (.aload_n 0, 1) := qd_p qo_42 (by decide +kernel)
theorem dX4_bestLaw_1 : decode cX4_bestLaw 1 = .ok (.iconst 0, 1) := qd_p qo_3 (by decide +kernel)
theorem dX4_bestLaw_2 : decode cX4_bestLaw 2 = .ok (.putfield 70, 3) := qz_2 .putfield 0 70 qo_181 (by decide +kernel) rfl
theorem dX4_bestLaw_5 : decode cX4_bestLaw 5 = .ok (.aload_n 0, 1) := qd_p qo_42 (by decide +kernel)
theorem dX4_bestLaw_6 : decode cX4_bestLaw 6 = .ok (.iload_n 1, 1) := qd_p qo_27 (by decide +kernel)
theorem dX4_bestLaw_7 : decode cX4_bestLaw 7 = .ok (.invokevirtual 88, 3) := qz_2 .invokevirtual 0 88 qo_182 (by decide +kernel) rfl
theorem dX4_bestLaw_10 : decode cX4_bestLaw 10 = .ok (.ifCond .eq 14, 3) := qz_s2 (.ifCond .eq) 0 14 qo_153 (by decide +kernel) rfl
theorem dX4_bestLaw_13 : decode cX4_bestLaw 13 = .ok (.iload_n 2, 1) := qd_p qo_28 (by decide +kernel)
theorem dX4_bestLaw_14 : decode cX4_bestLaw 14 = .ok (.iconst 0, 1) := qd_p qo_3 (by decide +kernel)
theorem dX4_bestLaw_15 : decode cX4_bestLaw 15 = .ok (.sipush 999, 3) := qz_s2 .sipush 3 231 qo_17 (by decide +kernel) rfl
theorem dX4_bestLaw_18 : decode cX4_bestLaw 18 = .ok (.invokestatic 231, 3) := qz_2 .invokestatic 0 231 qo_184 (by decide +kernel) rfl
theorem dX4_bestLaw_21 : decode cX4_bestLaw 21 = .ok (.goto 4, 3) := qz_s2 .goto 0 4 qo_167 (by decide +kernel) rfl
theorem dX4_bestLaw_24 : decode cX4_bestLaw 24 = .ok (.iconst (-1), 1) := qd_p qo_2 (by decide +kernel)
theorem dX4_bestLaw_25 : decode cX4_bestLaw 25 = .ok (.istore_n 3, 1) := qd_p qo_62 (by decide +kernel)
theorem dX4_bestLaw_26 : decode cX4_bestLaw 26 = .ok (.iload_n 3, 1) := qd_p qo_29 (by decide +kernel)
theorem dX4_bestLaw_27 : decode cX4_bestLaw 27 = .ok (.ifCond .ge 9, 3) := qz_s2 (.ifCond .ge) 0 9 qo_156 (by decide +kernel) rfl
theorem dX4_bestLaw_30 : decode cX4_bestLaw 30 = .ok (.aload_n 0, 1) := qd_p qo_42 (by decide +kernel)
theorem dX4_bestLaw_31 : decode cX4_bestLaw 31 = .ok (.iload_n 3, 1) := qd_p qo_29 (by decide +kernel)
theorem dX4_bestLaw_32 : decode cX4_bestLaw 32 = .ok (.invokevirtual 143, 3) := qz_2 .invokevirtual 0 143 qo_182 (by decide +kernel) rfl
theorem dX4_bestLaw_35 : decode cX4_bestLaw 35 = .ok (.ireturn, 1) := qd_p qo_172 (by decide +kernel)
theorem dX4_bestLaw_36 : decode cX4_bestLaw 36 = .ok (.aload_n 0, 1) := qd_p qo_42 (by decide +kernel)
theorem dX4_bestLaw_37 : decode cX4_bestLaw 37 = .ok (.invokevirtual 134, 3) := qz_2 .invokevirtual 0 134 qo_182 (by decide +kernel) rfl
theorem dX4_bestLaw_40 : decode cX4_bestLaw 40 = .ok (.aload_n 0, 1) := qd_p qo_42 (by decide +kernel)
theorem dX4_bestLaw_41 : decode cX4_bestLaw 41 = .ok (.getfield 115, 3) := qz_2 .getfield 0 115 qo_180 (by decide +kernel) rfl
theorem dX4_bestLaw_44 : decode cX4_bestLaw 44 = .ok (.istore 4, 2) := qz_1 .istore 4 qo_54 (by decide +kernel)
theorem dX4_bestLaw_46 : decode cX4_bestLaw 46 = .ok (.iconst 0, 1) := qd_p qo_3 (by decide +kernel)
theorem dX4_bestLaw_47 : decode cX4_bestLaw 47 = .ok (.istore 5, 2) := qz_1 .istore 5 qo_54 (by decide +kernel)
theorem dX4_bestLaw_49 : decode cX4_bestLaw 49 = .ok (.iconst (-1), 1) := qd_p qo_2 (by decide +kernel)
theorem dX4_bestLaw_50 : decode cX4_bestLaw 50 = .ok (.istore 6, 2) := qz_1 .istore 6 qo_54 (by decide +kernel)
theorem dX4_bestLaw_52 : decode cX4_bestLaw 52 = .ok (.iconst 0, 1) := qd_p qo_3 (by decide +kernel)
theorem dX4_bestLaw_53 : decode cX4_bestLaw 53 = .ok (.istore 7, 2) := qz_1 .istore 7 qo_54 (by decide +kernel)
theorem dX4_bestLaw_55 : decode cX4_bestLaw 55 = .ok (.iload 7, 2) := qz_1 .iload 7 qo_21 (by decide +kernel)
theorem dX4_bestLaw_57 : decode cX4_bestLaw 57 = .ok (.iconst 3, 1) := qd_p qo_6 (by decide +kernel)
theorem dX4_bestLaw_58 : decode cX4_bestLaw 58 = .ok (.if_icmp .ge 55, 3) := qz_s2 (.if_icmp .ge) 0 55 qo_162 (by decide +kernel) rfl
theorem dX4_bestLaw_61 : decode cX4_bestLaw 61 = .ok (.aload_n 0, 1) := qd_p qo_42 (by decide +kernel)
theorem dX4_bestLaw_62 : decode cX4_bestLaw 62 = .ok (.iload 7, 2) := qz_1 .iload 7 qo_21 (by decide +kernel)
theorem dX4_bestLaw_64 : decode cX4_bestLaw 64 = .ok (.putfield 115, 3) := qz_2 .putfield 0 115 qo_181 (by decide +kernel) rfl
theorem dX4_bestLaw_67 : decode cX4_bestLaw 67 = .ok (.aload_n 0, 1) := qd_p qo_42 (by decide +kernel)
theorem dX4_bestLaw_68 : decode cX4_bestLaw 68 = .ok (.iload_n 1, 1) := qd_p qo_27 (by decide +kernel)
theorem dX4_bestLaw_69 : decode cX4_bestLaw 69 = .ok (.iload_n 2, 1) := qd_p qo_28 (by decide +kernel)
theorem dX4_bestLaw_70 : decode cX4_bestLaw 70 = .ok (.invokevirtual 137, 3) := qz_2 .invokevirtual 0 137 qo_182 (by decide +kernel) rfl
theorem dX4_bestLaw_73 : decode cX4_bestLaw 73 = .ok (.istore 8, 2) := qz_1 .istore 8 qo_54 (by decide +kernel)
theorem dX4_bestLaw_75 : decode cX4_bestLaw 75 = .ok (.iload 8, 2) := qz_1 .iload 8 qo_21 (by decide +kernel)
theorem dX4_bestLaw_77 : decode cX4_bestLaw 77 = .ok (.iload 6, 2) := qz_1 .iload 6 qo_21 (by decide +kernel)
theorem dX4_bestLaw_79 : decode cX4_bestLaw 79 = .ok (.if_icmp .le 8, 3) := qz_s2 (.if_icmp .le) 0 8 qo_164 (by decide +kernel) rfl
theorem dX4_bestLaw_82 : decode cX4_bestLaw 82 = .ok (.iload 7, 2) := qz_1 .iload 7 qo_21 (by decide +kernel)
theorem dX4_bestLaw_84 : decode cX4_bestLaw 84 = .ok (.goto 5, 3) := qz_s2 .goto 0 5 qo_167 (by decide +kernel) rfl
theorem dX4_bestLaw_87 : decode cX4_bestLaw 87 = .ok (.iload 5, 2) := qz_1 .iload 5 qo_21 (by decide +kernel)
theorem dX4_bestLaw_89 : decode cX4_bestLaw 89 = .ok (.istore 5, 2) := qz_1 .istore 5 qo_54 (by decide +kernel)
theorem dX4_bestLaw_91 : decode cX4_bestLaw 91 = .ok (.iload 8, 2) := qz_1 .iload 8 qo_21 (by decide +kernel)
theorem dX4_bestLaw_93 : decode cX4_bestLaw 93 = .ok (.iload 6, 2) := qz_1 .iload 6 qo_21 (by decide +kernel)
theorem dX4_bestLaw_95 : decode cX4_bestLaw 95 = .ok (.if_icmp .le 8, 3) := qz_s2 (.if_icmp .le) 0 8 qo_164 (by decide +kernel) rfl
theorem dX4_bestLaw_98 : decode cX4_bestLaw 98 = .ok (.iload 8, 2) := qz_1 .iload 8 qo_21 (by decide +kernel)
theorem dX4_bestLaw_100 : decode cX4_bestLaw 100 = .ok (.goto 5, 3) := qz_s2 .goto 0 5 qo_167 (by decide +kernel) rfl
theorem dX4_bestLaw_103 : decode cX4_bestLaw 103 = .ok (.iload 6, 2) := qz_1 .iload 6 qo_21 (by decide +kernel)
theorem dX4_bestLaw_105 : decode cX4_bestLaw 105 = .ok (.istore 6, 2) := qz_1 .istore 6 qo_54 (by decide +kernel)
theorem dX4_bestLaw_107 : decode cX4_bestLaw 107 = .ok (.iinc 7 1, 3) := qd_i (x := 7) (y := 1) qo_132 (by decide +kernel) rfl
theorem dX4_bestLaw_110 : decode cX4_bestLaw 110 = .ok (.goto (-55), 3) := qz_s2 .goto 255 201 qo_167 (by decide +kernel) rfl
theorem dX4_bestLaw_113 : decode cX4_bestLaw 113 = .ok (.aload_n 0, 1) := qd_p qo_42 (by decide +kernel)
theorem dX4_bestLaw_114 : decode cX4_bestLaw 114 = .ok (.iload 4, 2) := qz_1 .iload 4 qo_21 (by decide +kernel)
theorem dX4_bestLaw_116 : decode cX4_bestLaw 116 = .ok (.putfield 115, 3) := qz_2 .putfield 0 115 qo_181 (by decide +kernel) rfl
theorem dX4_bestLaw_119 : decode cX4_bestLaw 119 = .ok (.iload 5, 2) := qz_1 .iload 5 qo_21 (by decide +kernel)
theorem dX4_bestLaw_121 : decode cX4_bestLaw 121 = .ok (.ireturn, 1) := qd_p qo_172 (by decide +kernel)
theorem dX4_newcomer_0 : decode cX4_newcomer 0 = .ok (.aload_n 0, 1) := qd_p qo_42 (by decide +kernel)
theorem dX4_newcomer_1 : decode cX4_newcomer 1 = .ok (.iconst 0, 1) := qd_p qo_3 (by decide +kernel)
theorem dX4_newcomer_2 : decode cX4_newcomer 2 = .ok (.putfield 70, 3) := qz_2 .putfield 0 70 qo_181 (by decide +kernel) rfl
theorem dX4_newcomer_5 : decode cX4_newcomer 5 = .ok (.aload_n 0, 1) := qd_p qo_42 (by decide +kernel)
theorem dX4_newcomer_6 : decode cX4_newcomer 6 = .ok (.iload_n 2, 1) := qd_p qo_28 (by decide +kernel)
theorem dX4_newcomer_7 : decode cX4_newcomer 7 = .ok (.invokevirtual 179, 3) := qz_2 .invokevirtual 0 179 qo_182 (by decide +kernel) rfl
theorem dX4_newcomer_10 : decode cX4_newcomer 10 = .ok (.ifCond .ne 7, 3) := qz_s2 (.ifCond .ne) 0 7 qo_154 (by decide +kernel) rfl
theorem dX4_newcomer_13 : decode cX4_newcomer 13 = .ok (.iconst (-1), 1) := qd_p qo_2 (by decide +kernel)
theorem dX4_newcomer_14 : decode cX4_newcomer 14 = .ok (.goto 44, 3) := qz_s2 .goto 0 44 qo_167 (by decide +kernel) rfl
theorem dX4_newcomer_17 : decode cX4_newcomer 17 = .ok (.iload_n 1, 1) := qd_p qo_27 (by decide +kernel)
theorem dX4_newcomer_18 : decode cX4_newcomer 18 = .ok (.i2l, 1) := qd_p qo_133 (by decide +kernel)
theorem dX4_newcomer_19 : decode cX4_newcomer 19 = .ok (.lconst 0, 1) := qd_p qo_9 (by decide +kernel)
theorem dX4_newcomer_20 : decode cX4_newcomer 20 = .ok (.ldc2_w 235, 3) := qz_2 .ldc2_w 0 235 qo_20 (by decide +kernel) rfl
theorem dX4_newcomer_23 : decode cX4_newcomer 23 = .ok (.invokestatic 77, 3) := qz_2 .invokestatic 0 77 qo_184 (by decide +kernel) rfl
theorem dX4_newcomer_26 : decode cX4_newcomer 26 = .ok (.ifCond .eq 13, 3) := qz_s2 (.ifCond .eq) 0 13 qo_153 (by decide +kernel) rfl
theorem dX4_newcomer_29 : decode cX4_newcomer 29 = .ok (.iload_n 3, 1) := qd_p qo_29 (by decide +kernel)
theorem dX4_newcomer_30 : decode cX4_newcomer 30 = .ok (.i2l, 1) := qd_p qo_133 (by decide +kernel)
theorem dX4_newcomer_31 : decode cX4_newcomer 31 = .ok (.lconst 0, 1) := qd_p qo_9 (by decide +kernel)
theorem dX4_newcomer_32 : decode cX4_newcomer 32 = .ok (.lconst 1, 1) := qd_p qo_10 (by decide +kernel)
theorem dX4_newcomer_33 : decode cX4_newcomer 33 = .ok (.invokestatic 77, 3) := qz_2 .invokestatic 0 77 qo_184 (by decide +kernel) rfl
theorem dX4_newcomer_36 : decode cX4_newcomer 36 = .ok (.ifCond .ne 8, 3) := qz_s2 (.ifCond .ne) 0 8 qo_154 (by decide +kernel) rfl
theorem dX4_newcomer_39 : decode cX4_newcomer 39 = .ok (.bipush (-2), 2) := qz_s1 .bipush 254 qo_16 (by decide +kernel) rfl
theorem dX4_newcomer_41 : decode cX4_newcomer 41 = .ok (.goto 17, 3) := qz_s2 .goto 0 17 qo_167 (by decide +kernel) rfl
theorem dX4_newcomer_44 : decode cX4_newcomer 44 = .ok (.aload_n 0, 1) := qd_p qo_42 (by decide +kernel)
theorem dX4_newcomer_45 : decode cX4_newcomer 45 = .ok (.getfield 74, 3) := qz_2 .getfield 0 74 qo_180 (by decide +kernel) rfl
theorem dX4_newcomer_48 : decode cX4_newcomer 48 = .ok (.iconst 5, 1) := qd_p qo_8 (by decide +kernel)
theorem dX4_newcomer_49 : decode cX4_newcomer 49 = .ok (.if_icmp .ne 8, 3) := qz_s2 (.if_icmp .ne) 0 8 qo_160 (by decide +kernel) rfl
theorem dX4_newcomer_52 : decode cX4_newcomer 52 = .ok (.bipush (-3), 2) := qz_s1 .bipush 253 qo_16 (by decide +kernel) rfl
theorem dX4_newcomer_54 : decode cX4_newcomer 54 = .ok (.goto 4, 3) := qz_s2 .goto 0 4 qo_167 (by decide +kernel) rfl
theorem dX4_newcomer_57 : decode cX4_newcomer 57 = .ok (.iconst 0, 1) := qd_p qo_3 (by decide +kernel)
theorem dX4_newcomer_58 : decode cX4_newcomer 58 = .ok (.istore 4, 2) := qz_1 .istore 4 qo_54 (by decide +kernel)
theorem dX4_newcomer_60 : decode cX4_newcomer 60 = .ok (.iload 4, 2) := qz_1 .iload 4 qo_21 (by decide +kernel)
theorem dX4_newcomer_62 : decode cX4_newcomer 62 = .ok (.ifCond .ge 10, 3) := qz_s2 (.ifCond .ge) 0 10 qo_156 (by decide +kernel) rfl
theorem dX4_newcomer_65 : decode cX4_newcomer 65 = .ok (.aload_n 0, 1) := qd_p qo_42 (by decide +kernel)
theorem dX4_newcomer_66 : decode cX4_newcomer 66 = .ok (.iload 4, 2) := qz_1 .iload 4 qo_21 (by decide +kernel)
theorem dX4_newcomer_68 : decode cX4_newcomer 68 = .ok (.invokevirtual 143, 3) := qz_2 .invokevirtual 0 143 qo_182 (by decide +kernel) rfl
theorem dX4_newcomer_71 : decode cX4_newcomer 71 = .ok (.ireturn, 1) := qd_p qo_172 (by decide +kernel)
theorem dX4_newcomer_72 : decode cX4_newcomer 72 = .ok (.aload_n 0, 1) := qd_p qo_42 (by decide +kernel)
theorem dX4_newcomer_73 : decode cX4_newcomer 73 = .ok (.getfield 74, 3) := qz_2 .getfield 0 74 qo_180 (by decide +kernel) rfl
theorem dX4_newcomer_76 : decode cX4_newcomer 76 = .ok (.istore 5, 2) := qz_1 .istore 5 qo_54 (by decide +kernel)
theorem dX4_newcomer_78 : decode cX4_newcomer 78 = .ok (.bipush (-9), 2) := qz_s1 .bipush 247 qo_16 (by decide +kernel) rfl
theorem dX4_newcomer_80 : decode cX4_newcomer 80 = .ok (.istore 6, 2) := qz_1 .istore 6 qo_54 (by decide +kernel)
theorem dX4_newcomer_82 : decode cX4_newcomer 82 = .ok (.bipush (-9), 2) := qz_s1 .bipush 247 qo_16 (by decide +kernel) rfl
theorem dX4_newcomer_84 : decode cX4_newcomer 84 = .ok (.istore 7, 2) := qz_1 .istore 7 qo_54 (by decide +kernel)
theorem dX4_newcomer_86 : decode cX4_newcomer 86 = .ok (.aload_n 0, 1) := qd_p qo_42 (by decide +kernel)
theorem dX4_newcomer_87 : decode cX4_newcomer 87 = .ok (.invokevirtual 195, 3) := qz_2 .invokevirtual 0 195 qo_182 (by decide +kernel) rfl
theorem dX4_newcomer_90 : decode cX4_newcomer 90 = .ok (.aload_n 0, 1) := qd_p qo_42 (by decide +kernel)
theorem dX4_newcomer_91 : decode cX4_newcomer 91 = .ok (.iload_n 1, 1) := qd_p qo_27 (by decide +kernel)
theorem dX4_newcomer_92 : decode cX4_newcomer 92 = .ok (.iconst 5, 1) := qd_p qo_8 (by decide +kernel)
theorem dX4_newcomer_93 : decode cX4_newcomer 93 = .ok (.invokevirtual 176, 3) := qz_2 .invokevirtual 0 176 qo_182 (by decide +kernel) rfl
theorem dX4_newcomer_96 : decode cX4_newcomer 96 = .ok (.aload_n 0, 1) := qd_p qo_42 (by decide +kernel)
theorem dX4_newcomer_97 : decode cX4_newcomer 97 = .ok (.iload 5, 2) := qz_1 .iload 5 qo_21 (by decide +kernel)
theorem dX4_newcomer_99 : decode cX4_newcomer 99 = .ok (.iconst 0, 1) := qd_p qo_3 (by decide +kernel)
theorem dX4_newcomer_100 : decode cX4_newcomer 100 = .ok (.bipush 23, 2) := qz_s1 .bipush 23 qo_16 (by decide +kernel) rfl
theorem dX4_newcomer_102 : decode cX4_newcomer 102 = .ok (.iload_n 2, 1) := qd_p qo_28 (by decide +kernel)
theorem dX4_newcomer_103 : decode cX4_newcomer 103 = .ok (.invokevirtual 182, 3) := qz_2 .invokevirtual 0 182 qo_182 (by decide +kernel) rfl
theorem dX4_newcomer_106 : decode cX4_newcomer 106 = .ok (.aload_n 0, 1) := qd_p qo_42 (by decide +kernel)
theorem dX4_newcomer_107 : decode cX4_newcomer 107 = .ok (.invokevirtual 134, 3) := qz_2 .invokevirtual 0 134 qo_182 (by decide +kernel) rfl
theorem dX4_newcomer_110 : decode cX4_newcomer 110 = .ok (.iconst 0, 1) := qd_p qo_3 (by decide +kernel)
theorem dX4_newcomer_111 : decode cX4_newcomer 111 = .ok (.istore 8, 2) := qz_1 .istore 8 qo_54 (by decide +kernel)
theorem dX4_newcomer_113 : decode cX4_newcomer 113 = .ok (.iload 8, 2) := qz_1 .iload 8 qo_21 (by decide +kernel)
theorem dX4_newcomer_115 : decode cX4_newcomer 115 = .ok (.sipush 999, 3) := qz_s2 .sipush 3 231 qo_17 (by decide +kernel) rfl
theorem dX4_newcomer_118 : decode cX4_newcomer 118 = .ok (.if_icmp .gt 77, 3) := qz_s2 (.if_icmp .gt) 0 77 qo_163 (by decide +kernel) rfl
theorem dX4_newcomer_121 : decode cX4_newcomer 121 = .ok (.iload 7, 2) := qz_1 .iload 7 qo_21 (by decide +kernel)
theorem dX4_newcomer_123 : decode cX4_newcomer 123 = .ok (.ifCond .ge 72, 3) := qz_s2 (.ifCond .ge) 0 72 qo_156 (by decide +kernel) rfl
theorem dX4_newcomer_126 : decode cX4_newcomer 126 = .ok (.bipush 7, 2) := qz_s1 .bipush 7 qo_16 (by decide +kernel) rfl
theorem dX4_newcomer_128 : decode cX4_newcomer 128 = .ok (.istore 9, 2) := qz_1 .istore 9 qo_54 (by decide +kernel)
theorem dX4_newcomer_130 : decode cX4_newcomer 130 = .ok (.iload 9, 2) := qz_1 .iload 9 qo_21 (by decide +kernel)
theorem dX4_newcomer_132 : decode cX4_newcomer 132 = .ok (.ifCond .lt 57, 3) := qz_s2 (.ifCond .lt) 0 57 qo_155 (by decide +kernel) rfl
theorem dX4_newcomer_135 : decode cX4_newcomer 135 = .ok (.aload_n 0, 1) := qd_p qo_42 (by decide +kernel)
theorem dX4_newcomer_136 : decode cX4_newcomer 136 = .ok (.iload 9, 2) := qz_1 .iload 9 qo_21 (by decide +kernel)
theorem dX4_newcomer_138 : decode cX4_newcomer 138 = .ok (.iload 8, 2) := qz_1 .iload 8 qo_21 (by decide +kernel)
theorem dX4_newcomer_140 : decode cX4_newcomer 140 = .ok (.invokevirtual 125, 3) := qz_2 .invokevirtual 0 125 qo_182 (by decide +kernel) rfl
theorem dX4_newcomer_143 : decode cX4_newcomer 143 = .ok (.iload 5, 2) := qz_1 .iload 5 qo_21 (by decide +kernel)
theorem dX4_newcomer_145 : decode cX4_newcomer 145 = .ok (.if_icmp .ne 7, 3) := qz_s2 (.if_icmp .ne) 0 7 qo_160 (by decide +kernel) rfl
theorem dX4_newcomer_148 : decode cX4_newcomer 148 = .ok (.iconst 1, 1) := qd_p qo_4 (by decide +kernel)
theorem dX4_newcomer_149 : decode cX4_newcomer 149 = .ok (.goto 4, 3) := qz_s2 .goto 0 4 qo_167 (by decide +kernel) rfl
theorem dX4_newcomer_152 : decode cX4_newcomer 152 = .ok (.iconst 0, 1) := qd_p qo_3 (by decide +kernel)
theorem dX4_newcomer_153 : decode cX4_newcomer 153 = .ok (.istore 10, 2) := qz_1 .istore 10 qo_54 (by decide +kernel)
theorem dX4_newcomer_155 : decode cX4_newcomer 155 = .ok (.iload 10, 2) := qz_1 .iload 10 qo_21 (by decide +kernel)
theorem dX4_newcomer_157 : decode cX4_newcomer 157 = .ok (.ifCond .eq 8, 3) := qz_s2 (.ifCond .eq) 0 8 qo_153 (by decide +kernel) rfl
theorem dX4_newcomer_160 : decode cX4_newcomer 160 = .ok (.iload 9, 2) := qz_1 .iload 9 qo_21 (by decide +kernel)
theorem dX4_newcomer_162 : decode cX4_newcomer 162 = .ok (.goto 5, 3) := qz_s2 .goto 0 5 qo_167 (by decide +kernel) rfl
theorem dX4_newcomer_165 : decode cX4_newcomer 165 = .ok (.iload 6, 2) := qz_1 .iload 6 qo_21 (by decide +kernel)
theorem dX4_newcomer_167 : decode cX4_newcomer 167 = .ok (.istore 6, 2) := qz_1 .istore 6 qo_54 (by decide +kernel)
theorem dX4_newcomer_169 : decode cX4_newcomer 169 = .ok (.iload 10, 2) := qz_1 .iload 10 qo_21 (by decide +kernel)
theorem dX4_newcomer_171 : decode cX4_newcomer 171 = .ok (.ifCond .eq 8, 3) := qz_s2 (.ifCond .eq) 0 8 qo_153 (by decide +kernel) rfl
theorem dX4_newcomer_174 : decode cX4_newcomer 174 = .ok (.iload 8, 2) := qz_1 .iload 8 qo_21 (by decide +kernel)
theorem dX4_newcomer_176 : decode cX4_newcomer 176 = .ok (.goto 5, 3) := qz_s2 .goto 0 5 qo_167 (by decide +kernel) rfl
theorem dX4_newcomer_179 : decode cX4_newcomer 179 = .ok (.iload 7, 2) := qz_1 .iload 7 qo_21 (by decide +kernel)
theorem dX4_newcomer_181 : decode cX4_newcomer 181 = .ok (.istore 7, 2) := qz_1 .istore 7 qo_54 (by decide +kernel)
theorem dX4_newcomer_183 : decode cX4_newcomer 183 = .ok (.iinc 9 (-1), 3) := qd_i (x := 9) (y := 255) qo_132 (by decide +kernel) rfl
theorem dX4_newcomer_186 : decode cX4_newcomer 186 = .ok (.goto (-56), 3) := qz_s2 .goto 255 200 qo_167 (by decide +kernel) rfl
theorem dX4_newcomer_189 : decode cX4_newcomer 189 = .ok (.iinc 8 1, 3) := qd_i (x := 8) (y := 1) qo_132 (by decide +kernel) rfl
theorem dX4_newcomer_192 : decode cX4_newcomer 192 = .ok (.goto (-79), 3) := qz_s2 .goto 255 177 qo_167 (by decide +kernel) rfl
theorem dX4_newcomer_195 : decode cX4_newcomer 195 = .ok (.aload_n 0, 1) := qd_p qo_42 (by decide +kernel)
theorem dX4_newcomer_196 : decode cX4_newcomer 196 = .ok (.iload 5, 2) := qz_1 .iload 5 qo_21 (by decide +kernel)
theorem dX4_newcomer_198 : decode cX4_newcomer 198 = .ok (.iconst 0, 1) := qd_p qo_3 (by decide +kernel)
theorem dX4_newcomer_199 : decode cX4_newcomer 199 = .ok (.bipush 23, 2) := qz_s1 .bipush 23 qo_16 (by decide +kernel) rfl
theorem dX4_newcomer_201 : decode cX4_newcomer 201 = .ok (.bipush 9, 2) := qz_s1 .bipush 9 qo_16 (by decide +kernel) rfl
theorem dX4_newcomer_203 : decode cX4_newcomer 203 = .ok (.invokevirtual 182, 3) := qz_2 .invokevirtual 0 182 qo_182 (by decide +kernel) rfl
theorem dX4_newcomer_206 : decode cX4_newcomer 206 = .ok (.aload_n 0, 1) := qd_p qo_42 (by decide +kernel)
theorem dX4_newcomer_207 : decode cX4_newcomer 207 = .ok (.invokevirtual 201, 3) := qz_2 .invokevirtual 0 201 qo_182 (by decide +kernel) rfl
theorem dX4_newcomer_210 : decode cX4_newcomer 210 = .ok (.iload_n 3, 1) := qd_p qo_29 (by decide +kernel)
theorem dX4_newcomer_211 : decode cX4_newcomer 211 = .ok (.ifCond .ne 8, 3) := qz_s2 (.ifCond .ne) 0 8 qo_154 (by decide +kernel) rfl
theorem dX4_newcomer_214 : decode cX4_newcomer 214 = .ok (.iload 7, 2) := qz_1 .iload 7 qo_21 (by decide +kernel)
theorem dX4_newcomer_216 : decode cX4_newcomer 216 = .ok (.goto 5, 3) := qz_s2 .goto 0 5 qo_167 (by decide +kernel) rfl
theorem dX4_newcomer_219 : decode cX4_newcomer 219 = .ok (.iload 6, 2) := qz_1 .iload 6 qo_21 (by decide +kernel)
theorem dX4_newcomer_221 : decode cX4_newcomer 221 = .ok (.ireturn, 1) := qd_p qo_172 (by decide +kernel)
theorem dX4_broughtToAll_0 : decode cX4_broughtToAll 0 = .ok (.iconst 0, 1) := qd_p qo_3 (by decide +kernel)
theorem dX4_broughtToAll_1 : decode cX4_broughtToAll 1 = .ok (.istore_n 2, 1) := qd_p qo_61 (by decide +kernel)
theorem dX4_broughtToAll_2 : decode cX4_broughtToAll 2 = .ok (.iconst 0, 1) := qd_p qo_3 (by decide +kernel)
theorem dX4_broughtToAll_3 : decode cX4_broughtToAll 3 = .ok (.istore_n 3, 1) := qd_p qo_62 (by decide +kernel)
theorem dX4_broughtToAll_4 : decode cX4_broughtToAll 4 = .ok (.iload_n 3, 1) := qd_p qo_29 (by decide +kernel)
theorem dX4_broughtToAll_5 : decode cX4_broughtToAll 5 = .ok (.aload_n 0, 1) := qd_p qo_42 (by decide +kernel)
theorem dX4_broughtToAll_6 : decode cX4_broughtToAll 6 = .ok (.getfield 74, 3) := qz_2 .getfield 0 74 qo_180 (by decide +kernel) rfl
theorem dX4_broughtToAll_9 : decode cX4_broughtToAll 9 = .ok (.if_icmp .ge 23, 3) := qz_s2 (.if_icmp .ge) 0 23 qo_162 (by decide +kernel) rfl
theorem dX4_broughtToAll_12 : decode cX4_broughtToAll 12 = .ok (.iload_n 2, 1) := qd_p qo_28 (by decide +kernel)
theorem dX4_broughtToAll_13 : decode cX4_broughtToAll 13 = .ok (.aload_n 0, 1) := qd_p qo_42 (by decide +kernel)
theorem dX4_broughtToAll_14 : decode cX4_broughtToAll 14 = .ok (.getfield 31, 3) := qz_2 .getfield 0 31 qo_180 (by decide +kernel) rfl
theorem dX4_broughtToAll_17 : decode cX4_broughtToAll 17 = .ok (.bipush 8, 2) := qz_s1 .bipush 8 qo_16 (by decide +kernel) rfl
theorem dX4_broughtToAll_19 : decode cX4_broughtToAll 19 = .ok (.iload_n 3, 1) := qd_p qo_29 (by decide +kernel)
theorem dX4_broughtToAll_20 : decode cX4_broughtToAll 20 = .ok (.imul, 1) := qd_p qo_104 (by decide +kernel)
theorem dX4_broughtToAll_21 : decode cX4_broughtToAll 21 = .ok (.iload_n 1, 1) := qd_p qo_27 (by decide +kernel)
theorem dX4_broughtToAll_22 : decode cX4_broughtToAll 22 = .ok (.iadd, 1) := qd_p qo_96 (by decide +kernel)
theorem dX4_broughtToAll_23 : decode cX4_broughtToAll 23 = .ok (.iaload, 1) := qd_p qo_46 (by decide +kernel)
theorem dX4_broughtToAll_24 : decode cX4_broughtToAll 24 = .ok (.iadd, 1) := qd_p qo_96 (by decide +kernel)
theorem dX4_broughtToAll_25 : decode cX4_broughtToAll 25 = .ok (.istore_n 2, 1) := qd_p qo_61 (by decide +kernel)
theorem dX4_broughtToAll_26 : decode cX4_broughtToAll 26 = .ok (.iinc 3 1, 3) := qd_i (x := 3) (y := 1) qo_132 (by decide +kernel) rfl
theorem dX4_broughtToAll_29 : decode cX4_broughtToAll 29 = .ok (.goto (-25), 3) := qz_s2 .goto 255 231 qo_167 (by decide +kernel) rfl
theorem dX4_broughtToAll_32 : decode cX4_broughtToAll 32 = .ok (.iload_n 2, 1) := qd_p qo_28 (by decide +kernel)
theorem dX4_broughtToAll_33 : decode cX4_broughtToAll 33 = .ok (.ireturn, 1) := qd_p qo_172 (by decide +kernel)
theorem dX4_mostSeen_0 : decode cX4_mostSeen 0 = .ok (.aload_n 0, 1) := qd_p qo_42 (by decide +kernel)
theorem dX4_mostSeen_1 : decode cX4_mostSeen 1 = .ok (.iconst 0, 1) := qd_p qo_3 (by decide +kernel)
theorem dX4_mostSeen_2 : decode cX4_mostSeen 2 = .ok (.putfield 70, 3) := qz_2 .putfield 0 70 qo_181 (by decide +kernel) rfl
theorem dX4_mostSeen_5 : decode cX4_mostSeen 5 = .ok (.iload_n 1, 1) := qd_p qo_27 (by decide +kernel)
theorem dX4_mostSeen_6 : decode cX4_mostSeen 6 = .ok (.i2l, 1) := qd_p qo_133 (by decide +kernel)
theorem dX4_mostSeen_7 : decode cX4_mostSeen 7 = .ok (.lconst 0, 1) := qd_p qo_9 (by decide +kernel)
theorem dX4_mostSeen_8 : decode cX4_mostSeen 8 = .ok (.lconst 1, 1) := qd_p qo_10 (by decide +kernel)
theorem dX4_mostSeen_9 : decode cX4_mostSeen 9 = .ok (.invokestatic 77, 3) := qz_2 .invokestatic 0 77 qo_184 (by decide +kernel) rfl
theorem dX4_mostSeen_12 : decode cX4_mostSeen 12 = .ok (.ifCond .ne 10, 3) := qz_s2 (.ifCond .ne) 0 10 qo_154 (by decide +kernel) rfl
theorem dX4_mostSeen_15 : decode cX4_mostSeen 15 = .ok (.aload_n 0, 1) := qd_p qo_42 (by decide +kernel)
theorem dX4_mostSeen_16 : decode cX4_mostSeen 16 = .ok (.bipush (-2), 2) := qz_s1 .bipush 254 qo_16 (by decide +kernel) rfl
theorem dX4_mostSeen_18 : decode cX4_mostSeen 18 = .ok (.invokevirtual 143, 3) := qz_2 .invokevirtual 0 143 qo_182 (by decide +kernel) rfl
theorem dX4_mostSeen_21 : decode cX4_mostSeen 21 = .ok (.ireturn, 1) := qd_p qo_172 (by decide +kernel)
theorem dX4_mostSeen_22 : decode cX4_mostSeen 22 = .ok (.aload_n 0, 1) := qd_p qo_42 (by decide +kernel)
theorem dX4_mostSeen_23 : decode cX4_mostSeen 23 = .ok (.invokevirtual 134, 3) := qz_2 .invokevirtual 0 134 qo_182 (by decide +kernel) rfl
theorem dX4_mostSeen_26 : decode cX4_mostSeen 26 = .ok (.iconst 0, 1) := qd_p qo_3 (by decide +kernel)
theorem dX4_mostSeen_27 : decode cX4_mostSeen 27 = .ok (.istore_n 2, 1) := qd_p qo_61 (by decide +kernel)
theorem dX4_mostSeen_28 : decode cX4_mostSeen 28 = .ok (.iconst 1, 1) := qd_p qo_4 (by decide +kernel)
theorem dX4_mostSeen_29 : decode cX4_mostSeen 29 = .ok (.istore_n 3, 1) := qd_p qo_62 (by decide +kernel)
theorem dX4_mostSeen_30 : decode cX4_mostSeen 30 = .ok (.iload_n 3, 1) := qd_p qo_29 (by decide +kernel)
theorem dX4_mostSeen_31 : decode cX4_mostSeen 31 = .ok (.bipush 8, 2) := qz_s1 .bipush 8 qo_16 (by decide +kernel) rfl
theorem dX4_mostSeen_33 : decode cX4_mostSeen 33 = .ok (.if_icmp .ge 28, 3) := qz_s2 (.if_icmp .ge) 0 28 qo_162 (by decide +kernel) rfl
theorem dX4_mostSeen_36 : decode cX4_mostSeen 36 = .ok (.aload_n 0, 1) := qd_p qo_42 (by decide +kernel)
theorem dX4_mostSeen_37 : decode cX4_mostSeen 37 = .ok (.iload_n 3, 1) := qd_p qo_29 (by decide +kernel)
theorem dX4_mostSeen_38 : decode cX4_mostSeen 38 = .ok (.invokevirtual 294, 3) := qz_2 .invokevirtual 1 38 qo_182 (by decide +kernel) rfl
theorem dX4_mostSeen_41 : decode cX4_mostSeen 41 = .ok (.aload_n 0, 1) := qd_p qo_42 (by decide +kernel)
theorem dX4_mostSeen_42 : decode cX4_mostSeen 42 = .ok (.iload_n 2, 1) := qd_p qo_28 (by decide +kernel)
theorem dX4_mostSeen_43 : decode cX4_mostSeen 43 = .ok (.invokevirtual 294, 3) := qz_2 .invokevirtual 1 38 qo_182 (by decide +kernel) rfl
theorem dX4_mostSeen_46 : decode cX4_mostSeen 46 = .ok (.if_icmp .le 7, 3) := qz_s2 (.if_icmp .le) 0 7 qo_164 (by decide +kernel) rfl
theorem dX4_mostSeen_49 : decode cX4_mostSeen 49 = .ok (.iload_n 3, 1) := qd_p qo_29 (by decide +kernel)
theorem dX4_mostSeen_50 : decode cX4_mostSeen 50 = .ok (.goto 4, 3) := qz_s2 .goto 0 4 qo_167 (by decide +kernel) rfl
theorem dX4_mostSeen_53 : decode cX4_mostSeen 53 = .ok (.iload_n 2, 1) := qd_p qo_28 (by decide +kernel)
theorem dX4_mostSeen_54 : decode cX4_mostSeen 54 = .ok (.istore_n 2, 1) := qd_p qo_61 (by decide +kernel)
theorem dX4_mostSeen_55 : decode cX4_mostSeen 55 = .ok (.iinc 3 1, 3) := qd_i (x := 3) (y := 1) qo_132 (by decide +kernel) rfl
theorem dX4_mostSeen_58 : decode cX4_mostSeen 58 = .ok (.goto (-28), 3) := qz_s2 .goto 255 228 qo_167 (by decide +kernel) rfl
theorem dX4_mostSeen_61 : decode cX4_mostSeen 61 = .ok (.iload_n 1, 1) := qd_p qo_27 (by decide +kernel)
theorem dX4_mostSeen_62 : decode cX4_mostSeen 62 = .ok (.ifCond .ne 7, 3) := qz_s2 (.ifCond .ne) 0 7 qo_154 (by decide +kernel) rfl
theorem dX4_mostSeen_65 : decode cX4_mostSeen 65 = .ok (.iload_n 2, 1) := qd_p qo_28 (by decide +kernel)
theorem dX4_mostSeen_66 : decode cX4_mostSeen 66 = .ok (.goto 8, 3) := qz_s2 .goto 0 8 qo_167 (by decide +kernel) rfl
theorem dX4_mostSeen_69 : decode cX4_mostSeen 69 = .ok (.aload_n 0, 1) := qd_p qo_42 (by decide +kernel)
theorem dX4_mostSeen_70 : decode cX4_mostSeen 70 = .ok (.iload_n 2, 1) := qd_p qo_28 (by decide +kernel)
theorem dX4_mostSeen_71 : decode cX4_mostSeen 71 = .ok (.invokevirtual 294, 3) := qz_2 .invokevirtual 1 38 qo_182 (by decide +kernel) rfl
theorem dX4_mostSeen_74 : decode cX4_mostSeen 74 = .ok (.ireturn, 1) := qd_p qo_172 (by decide +kernel)
theorem dX4_duels_0 : decode cX4_duels 0 = .ok (.aload_n 0, 1) := qd_p qo_42 (by decide +kernel)
theorem dX4_duels_1 : decode cX4_duels 1 = .ok (.iconst 0, 1) := qd_p qo_3 (by decide +kernel)
theorem dX4_duels_2 : decode cX4_duels 2 = .ok (.putfield 70, 3) := qz_2 .putfield 0 70 qo_181 (by decide +kernel) rfl
theorem dX4_duels_5 : decode cX4_duels 5 = .ok (.aload_n 0, 1) := qd_p qo_42 (by decide +kernel)
theorem dX4_duels_6 : decode cX4_duels 6 = .ok (.iload_n 1, 1) := qd_p qo_27 (by decide +kernel)
theorem dX4_duels_7 : decode cX4_duels 7 = .ok (.iload_n 2, 1) := qd_p qo_28 (by decide +kernel)
theorem dX4_duels_8 : decode cX4_duels 8 = .ok (.invokevirtual 257, 3) := qz_2 .invokevirtual 1 1 qo_182 (by decide +kernel) rfl
theorem dX4_duels_11 : decode cX4_duels 11 = .ok (.ifCond .ne 9, 3) := qz_s2 (.ifCond .ne) 0 9 qo_154 (by decide +kernel) rfl
theorem dX4_duels_14 : decode cX4_duels 14 = .ok (.aload_n 0, 1) := qd_p qo_42 (by decide +kernel)
theorem dX4_duels_15 : decode cX4_duels 15 = .ok (.iconst (-1), 1) := qd_p qo_2 (by decide +kernel)
theorem dX4_duels_16 : decode cX4_duels 16 = .ok (.invokevirtual 143, 3) := qz_2 .invokevirtual 0 143 qo_182 (by decide +kernel) rfl
theorem dX4_duels_19 : decode cX4_duels 19 = .ok (.ireturn, 1) := qd_p qo_172 (by decide +kernel)
theorem dX4_duels_20 : decode cX4_duels 20 = .ok (.iconst 0, 1) := qd_p qo_3 (by decide +kernel)
theorem dX4_duels_21 : decode cX4_duels 21 = .ok (.istore_n 3, 1) := qd_p qo_62 (by decide +kernel)
theorem dX4_duels_22 : decode cX4_duels 22 = .ok (.iconst 0, 1) := qd_p qo_3 (by decide +kernel)
theorem dX4_duels_23 : decode cX4_duels 23 = .ok (.istore 4, 2) := qz_1 .istore 4 qo_54 (by decide +kernel)
theorem dX4_duels_25 : decode cX4_duels 25 = .ok (.iload 4, 2) := qz_1 .iload 4 qo_21 (by decide +kernel)
theorem dX4_duels_27 : decode cX4_duels 27 = .ok (.bipush 8, 2) := qz_s1 .bipush 8 qo_16 (by decide +kernel) rfl
theorem dX4_duels_29 : decode cX4_duels 29 = .ok (.if_icmp .ge 37, 3) := qz_s2 (.if_icmp .ge) 0 37 qo_162 (by decide +kernel) rfl
theorem dX4_duels_32 : decode cX4_duels 32 = .ok (.iload_n 3, 1) := qd_p qo_29 (by decide +kernel)
theorem dX4_duels_33 : decode cX4_duels 33 = .ok (.aload_n 0, 1) := qd_p qo_42 (by decide +kernel)
theorem dX4_duels_34 : decode cX4_duels 34 = .ok (.iload_n 1, 1) := qd_p qo_27 (by decide +kernel)
theorem dX4_duels_35 : decode cX4_duels 35 = .ok (.iload 4, 2) := qz_1 .iload 4 qo_21 (by decide +kernel)
theorem dX4_duels_37 : decode cX4_duels 37 = .ok (.invokevirtual 111, 3) := qz_2 .invokevirtual 0 111 qo_182 (by decide +kernel) rfl
theorem dX4_duels_40 : decode cX4_duels 40 = .ok (.ifCond .le 17, 3) := qz_s2 (.ifCond .le) 0 17 qo_158 (by decide +kernel) rfl
theorem dX4_duels_43 : decode cX4_duels 43 = .ok (.aload_n 0, 1) := qd_p qo_42 (by decide +kernel)
theorem dX4_duels_44 : decode cX4_duels 44 = .ok (.iload_n 2, 1) := qd_p qo_28 (by decide +kernel)
theorem dX4_duels_45 : decode cX4_duels 45 = .ok (.iload 4, 2) := qz_1 .iload 4 qo_21 (by decide +kernel)
theorem dX4_duels_47 : decode cX4_duels 47 = .ok (.invokevirtual 111, 3) := qz_2 .invokevirtual 0 111 qo_182 (by decide +kernel) rfl
theorem dX4_duels_50 : decode cX4_duels 50 = .ok (.ifCond .le 7, 3) := qz_s2 (.ifCond .le) 0 7 qo_158 (by decide +kernel) rfl
theorem dX4_duels_53 : decode cX4_duels 53 = .ok (.iconst 1, 1) := qd_p qo_4 (by decide +kernel)
theorem dX4_duels_54 : decode cX4_duels 54 = .ok (.goto 4, 3) := qz_s2 .goto 0 4 qo_167 (by decide +kernel) rfl
theorem dX4_duels_57 : decode cX4_duels 57 = .ok (.iconst 0, 1) := qd_p qo_3 (by decide +kernel)
theorem dX4_duels_58 : decode cX4_duels 58 = .ok (.iadd, 1) := qd_p qo_96 (by decide +kernel)
theorem dX4_duels_59 : decode cX4_duels 59 = .ok (.istore_n 3, 1) := qd_p qo_62 (by decide +kernel)
theorem dX4_duels_60 : decode cX4_duels 60 = .ok (.iinc 4 1, 3) := qd_i (x := 4) (y := 1) qo_132 (by decide +kernel) rfl
theorem dX4_duels_63 : decode cX4_duels 63 = .ok (.goto (-38), 3) := qz_s2 .goto 255 218 qo_167 (by decide +kernel) rfl
theorem dX4_duels_66 : decode cX4_duels 66 = .ok (.iload_n 3, 1) := qd_p qo_29 (by decide +kernel)
theorem dX4_duels_67 : decode cX4_duels 67 = .ok (.ireturn, 1) := qd_p qo_172 (by decide +kernel)
section
variable {p : Program} {l : Launch} {e : Env} {s : State} {m : MethodId} {args : Array Value} {below : List Frame} {meth : Method} {c : Code} {D : va_G} {tI tII : ClassId} {B : Nat}
set_option maxHeartbeats 4000000 in
set_option maxRecDepth 100000 in
theorem w_X4_last_69 (C : wt_C p s m args meth c RX4 cX4_last 5 (some .int) D tI tII) {F : Nat} {k13 : Int32 → Int32 → Mem → Option (Int32 × Mem)} {x2 : Int32} {t0 : Int32} {σ : Mem} {r : Int32} {σ' : Mem} {H : Heap} {locs : List Loc} {ls : Array Slot} (hk13 : ∀ (x1 : Int32) (x2 : Int32) (σ : Mem) (H : Heap) (locs : List Loc) (ls : Array Slot), k13 x1 x2 σ = some (r, σ') → wt_St D tI tII B σ s H locs → lv_has ls 5 [(0, .ref (B + 101)), (1, .int x1), (2, .int x2)] → W p l e rm_X4_last s m args below meth c H locs 0 0 (MQ below (wt_Qi D tI tII B r σ') args s 0 0 (fun q => B ≤ q)) (F0 m 13 ls [])) (hf : j_X4_last_69 F k13 x2 t0 σ = some (r, σ')) (hM : wt_St D tI tII B σ s H locs) (hl : lv_has ls 5 [(0, .ref (B + 101)), (2, .int x2)]) : W p l e rm_X4_last s m args below meth c H locs 0 0 (MQ below (wt_Qi D tI tII B r σ') args s 0 0 (fun q => B ≤ q)) (F0 m 69 ls [.int t0]) := by
  obtain ⟨hx, hb, hts, hown, hml, hr, hlk, hK⟩ := id C
  replace hf := Eq.trans j_X4_last_69_e.symm hf
  refine lv_istore_n (lv' := [(1, .int t0), (0, .ref (B + 101)), (2, .int x2)]) hx hb dX4_last_69 rfl hl (by decide) rfl (fun ls hl => ?_)
  refine lv_iinc (v := (x2 + (1 : Int32))) (lv' := [(2, .int (x2 + (1 : Int32))), (1, .int t0), (0, .ref (B + 101))]) hx hb dX4_last_70 hl (k := 2) rfl rfl (by decide) rfl (fun ls hl => ?_)
  refine lv_goto (tgt := 13) hx hb dX4_last_73 (by decide) ?_
  exact hk13 _ _ _ _ _ _ hf hM (lv_sub hl [2, 1, 0] rfl)
set_option maxHeartbeats 4000000 in
set_option maxRecDepth 100000 in
theorem w_X4_last_57 (C : wt_C p s m args meth c RX4 cX4_last 5 (some .int) D tI tII) {F : Nat} {k13 : Int32 → Int32 → Mem → Option (Int32 × Mem)} {x1 : Int32} {x2 : Int32} {x4 : Int32} {σ : Mem} {r : Int32} {σ' : Mem} {H : Heap} {locs : List Loc} {ls : Array Slot} (hk13 : ∀ (x1 : Int32) (x2 : Int32) (σ : Mem) (H : Heap) (locs : List Loc) (ls : Array Slot), k13 x1 x2 σ = some (r, σ') → wt_St D tI tII B σ s H locs → lv_has ls 5 [(0, .ref (B + 101)), (1, .int x1), (2, .int x2)] → W p l e rm_X4_last s m args below meth c H locs 0 0 (MQ below (wt_Qi D tI tII B r σ') args s 0 0 (fun q => B ≤ q)) (F0 m 13 ls [])) (hf : j_X4_last_57 F k13 x1 x2 x4 σ = some (r, σ')) (hM : wt_St D tI tII B σ s H locs) (hl : lv_has ls 5 [(0, .ref (B + 101)), (1, .int x1), (2, .int x2), (4, .int x4)]) : W p l e rm_X4_last s m args below meth c H locs 0 0 (MQ below (wt_Qi D tI tII B r σ') args s 0 0 (fun q => B ≤ q)) (F0 m 57 ls []) := by
  obtain ⟨hx, hb, hts, hown, hml, hr, hlk, hK⟩ := id C
  replace hf := Eq.trans j_X4_last_57_e.symm hf
  refine lv_iload hx hb dX4_last_57 (lv_at hl 3 rfl) ?_
  refine lv_iload_n hx hb dX4_last_59 rfl (lv_at hl 1 rfl) ?_
  refine wq_icmp_le (tgt := 68) hx hb dX4_last_60 (by decide) hf (fun hf => ?_) (fun hf => ?_)
  · refine lv_iload_n hx hb dX4_last_68 rfl (lv_at hl 1 rfl) ?_
    exact w_X4_last_69 C hk13 hf hM (lv_sub hl [0, 2] rfl)
  refine lv_iload hx hb dX4_last_63 (lv_at hl 3 rfl) ?_
  refine lv_goto (tgt := 69) hx hb dX4_last_65 (by decide) ?_
  exact w_X4_last_69 C hk13 hf hM (lv_sub hl [0, 2] rfl)
set_option maxHeartbeats 4000000 in
set_option maxRecDepth 100000 in
theorem w_X4_last_33 (C : wt_C p s m args meth c RX4 cX4_last 5 (some .int) D tI tII) {F : Nat} {k13 : Int32 → Int32 → Mem → Option (Int32 × Mem)} {x1 : Int32} {x2 : Int32} {x3 : Int32} {r : Int32} {σ' : Mem} (hk13 : ∀ (x1 : Int32) (x2 : Int32) (σ : Mem) (H : Heap) (locs : List Loc) (ls : Array Slot), k13 x1 x2 σ = some (r, σ') → wt_St D tI tII B σ s H locs → lv_has ls 5 [(0, .ref (B + 101)), (1, .int x1), (2, .int x2)] → W p l e rm_X4_last s m args below meth c H locs 0 0 (MQ below (wt_Qi D tI tII B r σ') args s 0 0 (fun q => B ≤ q)) (F0 m 13 ls [])) : ∀ (N : Nat) (x4 : Int32) (σ : Mem) (H : Heap) (locs : List Loc) (ls : Array Slot), lp_X4_last_33 F k13 x1 x2 x3 N x4 σ = some (r, σ') → wt_St D tI tII B σ s H locs → lv_has ls 5 [(0, .ref (B + 101)), (1, .int x1), (2, .int x2), (3, .int x3), (4, .int x4)] → W p l e rm_X4_last s m args below meth c H locs 0 0 (MQ below (wt_Qi D tI tII B r σ') args s 0 0 (fun q => B ≤ q)) (F0 m 33 ls []) := by
  obtain ⟨hx, hb, hts, hown, hml, hr, hlk, hK⟩ := id C
  intro N
  induction N with
  | zero => intro x4 σ H locs ls hf; exact wt_none (show (none : Option (Int32 × Mem)) = some (r, σ') from hf)
  | succ N ih =>
    intro x4 σ H locs ls hf hM hl
    replace hf := Eq.trans lp_X4_last_33_s.symm hf
    refine lv_iload hx hb dX4_last_33 (lv_at hl 4 rfl) ?_
    refine wq_if_le (tgt := 57) hx hb dX4_last_35 (by decide) hf (fun hf => ?_) (fun hf => ?_)
    · exact w_X4_last_57 C hk13 hf hM (lv_sub hl [0, 1, 2, 4] rfl)
    refine lv_aload_n hx hb dX4_last_38 rfl (lv_at hl 0 rfl) ?_
    refine lv_iload_n hx hb dX4_last_39 rfl (lv_at hl 2 rfl) ?_
    refine lv_iload hx hb dX4_last_40 (lv_at hl 4 rfl) ?_
    refine lv_iconst (v := 1) hx hb dX4_last_42 (by decide) ?_
    refine lv_isub hx hb dX4_last_43 ?_
    refine wt_callVi (As := [.int x2, .int (x4 - (1 : Int32))]) (rest := []) hx hb hml hts hown hK hM wt_rc_X4 cw_X4_125 hd_X4_ownerIn rfl ⟨qz_b rfl, qz_b rfl⟩ ⟨rfl, rfl⟩ hl.1 rfl (qz_b rfl) dX4_last_44 hf (fun _ _ h9 => c_X4_ownerIn h9) (fun r1 s2 H locs hf hM => ?_)
    refine lv_iload_n hx hb dX4_last_47 rfl (lv_at hl 3 rfl) ?_
    refine wq_icmp_ne (tgt := 57) hx hb dX4_last_48 (by decide) hf (fun hf => ?_) (fun hf => ?_)
    · exact w_X4_last_57 C hk13 hf hM (lv_sub hl [0, 1, 2, 4] rfl)
    refine lv_iinc (v := (x4 + (-1 : Int32))) (lv' := [(4, .int (x4 + (-1 : Int32))), (0, .ref (B + 101)), (1, .int x1), (2, .int x2), (3, .int x3)]) hx hb dX4_last_51 hl (k := 4) rfl rfl (by decide) rfl (fun ls hl => ?_)
    refine lv_goto (tgt := 33) hx hb dX4_last_54 (by decide) ?_
    exact ih _ _ _ _ _ hf hM (lv_sub hl [1, 2, 3, 4, 0] rfl)
set_option maxHeartbeats 4000000 in
set_option maxRecDepth 100000 in
theorem w_X4_last_13 (C : wt_C p s m args meth c RX4 cX4_last 5 (some .int) D tI tII) {F : Nat} {r : Int32} {σ' : Mem} : ∀ (N : Nat) (x1 : Int32) (x2 : Int32) (σ : Mem) (H : Heap) (locs : List Loc) (ls : Array Slot), lp_X4_last_13 F N x1 x2 σ = some (r, σ') → wt_St D tI tII B σ s H locs → lv_has ls 5 [(0, .ref (B + 101)), (1, .int x1), (2, .int x2)] → W p l e rm_X4_last s m args below meth c H locs 0 0 (MQ below (wt_Qi D tI tII B r σ') args s 0 0 (fun q => B ≤ q)) (F0 m 13 ls []) := by
  obtain ⟨hx, hb, hts, hown, hml, hr, hlk, hK⟩ := id C
  intro N
  induction N with
  | zero => intro x1 x2 σ H locs ls hf; exact wt_none (show (none : Option (Int32 × Mem)) = some (r, σ') from hf)
  | succ N ih =>
    intro x1 x2 σ H locs ls hf hM hl
    replace hf := Eq.trans lp_X4_last_13_s.symm hf
    refine lv_iload_n hx hb dX4_last_13 rfl (lv_at hl 2 rfl) ?_
    refine lv_bipush (v := 8) hx hb dX4_last_14 (by decide) ?_
    refine wq_icmp_ge (tgt := 76) hx hb dX4_last_16 (by decide) hf (fun hf => ?_) (fun hf => ?_)
    · refine lv_iload_n hx hb dX4_last_76 rfl (lv_at hl 1 rfl) ?_
      exact wt_iret hx hb hr hlk hK hM hf dX4_last_77
    refine lv_aload_n hx hb dX4_last_19 rfl (lv_at hl 0 rfl) ?_
    refine lv_iload_n hx hb dX4_last_20 rfl (lv_at hl 2 rfl) ?_
    refine lv_sipush (v := 999) hx hb dX4_last_21 (by decide) ?_
    refine wt_callVi (As := [.int x2, .int (999 : Int32)]) (rest := []) hx hb hml hts hown hK hM wt_rc_X4 cw_X4_125 hd_X4_ownerIn rfl ⟨qz_b rfl, qz_b rfl⟩ ⟨rfl, rfl⟩ hl.1 rfl (qz_b rfl) dX4_last_24 hf (fun _ _ h9 => c_X4_ownerIn h9) (fun r3 s4 H locs hf hM => ?_)
    refine lv_istore_n (lv' := [(3, .int r3), (0, .ref (B + 101)), (1, .int x1), (2, .int x2)]) hx hb dX4_last_27 rfl hl (by decide) rfl (fun ls hl => ?_)
    refine lv_sipush (v := 999) hx hb dX4_last_28 (by decide) ?_
    refine lv_istore (lv' := [(4, .int (999 : Int32)), (3, .int r3), (0, .ref (B + 101)), (1, .int x1), (2, .int x2)]) hx hb dX4_last_31 hl (by decide) rfl (fun ls hl => ?_)
    exact w_X4_last_33 C ih _ _ _ _ _ _ hf hM (lv_sub hl [2, 3, 4, 1, 0] rfl)
set_option maxHeartbeats 4000000 in
set_option maxRecDepth 100000 in
theorem w_X4_last_0 (C : wt_C p s m args meth c RX4 cX4_last 5 (some .int) D tI tII) {F : Nat} {σ : Mem} {r : Int32} {σ' : Mem} {H : Heap} {locs : List Loc} {ls : Array Slot} (hf : f_X4_last F σ = some (r, σ')) (hM : wt_St D tI tII B σ s H locs) (hl : lv_has ls 5 [(0, .ref (B + 101))]) : W p l e rm_X4_last s m args below meth c H locs 0 0 (MQ below (wt_Qi D tI tII B r σ') args s 0 0 (fun q => B ≤ q)) (F0 m 0 ls []) := by
  obtain ⟨hx, hb, hts, hown, hml, hr, hlk, hK⟩ := id C
  replace hf := Eq.trans f_X4_last_e.symm hf
  refine lv_aload_n hx hb dX4_last_0 rfl (lv_at hl 0 rfl) ?_
  refine lv_iconst (v := 0) hx hb dX4_last_1 (by decide) ?_
  refine pf_X4_thrown  hx hb hts hown hK hM tw_720 dX4_last_2 hf (fun s5 H locs hf hM => ?_)
  refine lv_aload_n hx hb dX4_last_5 rfl (lv_at hl 0 rfl) ?_
  refine wt_callVv (As := []) (rest := []) hx hb hml hts hown hK hM wt_rc_X4 cw_X4_134 hd_X4_layBrings rfl ⟨qz_b rfl, qz_b rfl⟩ ⟨rfl, rfl⟩ hl.1 rfl (qz_b rfl) dX4_last_6 hf (fun _ _ h9 => c_X4_layBrings h9) (fun r6 s7 H locs hf hM => ?_)
  refine lv_iconst (v := 0) hx hb dX4_last_9 (by decide) ?_
  refine lv_istore_n (lv' := [(1, .int (0 : Int32)), (0, .ref (B + 101))]) hx hb dX4_last_10 rfl hl (by decide) rfl (fun ls hl => ?_)
  refine lv_iconst (v := 0) hx hb dX4_last_11 (by decide) ?_
  refine lv_istore_n (lv' := [(2, .int (0 : Int32)), (1, .int (0 : Int32)), (0, .ref (B + 101))]) hx hb dX4_last_12 rfl hl (by decide) rfl (fun ls hl => ?_)
  exact w_X4_last_13 C _ _ _ _ _ _ _ hf hM (lv_sub hl [2, 1, 0] rfl)
end
set_option maxHeartbeats 4000000 in
set_option maxRecDepth 100000 in
theorem c_X4_last {l : Launch} {D : va_G} {tI tII : ClassId} {B F : Nat} {σ σ' : Mem} {r : Int32} (hf : f_X4_last F σ = some (r, σ')) : wt_Mi l yX4_last cX4_last 5 (some .int) rm_X4_last [.ref (B + 101)] D tI tII B σ r σ' := by
  refine Met.ofW (cc := cX4_last) (maxL := 5) (ret := (some .int)) (by decide) rfl ?_
  intro p e s m args below meth c s₁ B9 hml hv
  obtain ⟨rfl, hP, hK⟩ := hv
  have hl := lv_entry ([.ref (B + 101)]) (n := 5) (qz_b rfl)
  rw [lg_entry_eq]
  generalize (lg_sl ([.ref (B + 101)]) ++ List.replicate (5 - (lg_sl ([.ref (B + 101)])).length) Slot.unset).toArray = ls at hl ⊢
  exact w_X4_last_0 (wt_C_of B9 hml hK) hf ⟨hP, va_S.rf⟩ hl
section
variable {p : Program} {l : Launch} {e : Env} {s : State} {m : MethodId} {args : Array Value} {below : List Frame} {meth : Method} {c : Code} {D : va_G} {tI tII : ClassId} {B : Nat}
set_option maxHeartbeats 4000000 in
set_option maxRecDepth 100000 in
theorem w_X4_countIn_0 (C : wt_C p s m args meth c RX4 cX4_countIn 4 (some .int) D tI tII) {F : Nat} {x1 : Int32} {x2 : Int32} {x3 : Int32} {σ : Mem} {r : Int32} {σ' : Mem} {H : Heap} {locs : List Loc} {ls : Array Slot} (hf : f_X4_countIn F x1 x2 x3 σ = some (r, σ')) (hM : wt_St D tI tII B σ s H locs) (hl : lv_has ls 4 [(0, .ref (B + 101)), (1, .int x1), (2, .int x2), (3, .int x3)]) : W p l e rm_X4_countIn s m args below meth c H locs 0 0 (MQ below (wt_Qi D tI tII B r σ') args s 0 0 (fun q => B ≤ q)) (F0 m 0 ls []) := by
  obtain ⟨hx, hb, hts, hown, hml, hr, hlk, hK⟩ := id C
  replace hf := Eq.trans f_X4_countIn_e.symm hf
  refine lv_aload_n hx hb dX4_countIn_0 rfl (lv_at hl 0 rfl) ?_
  refine gf_X4_counted  hx hb hts hown hK hM tw_717 dX4_countIn_1 ?_
  refine lv_bipush (v := 8) hx hb dX4_countIn_4 (by decide) ?_
  refine lv_iload_n hx hb dX4_countIn_6 rfl (lv_at hl 1 rfl) ?_
  refine lv_imul hx hb dX4_countIn_7 ?_
  refine lv_iload_n hx hb dX4_countIn_8 rfl (lv_at hl 2 rfl) ?_
  refine lv_iadd hx hb dX4_countIn_9 ?_
  obtain ⟨i1, hf⟩ := wt_chk_of hf
  refine wt_ild hx hb hK hM wt_a107 i1 dX4_countIn_10 ?_
  refine lv_iload_n hx hb dX4_countIn_11 rfl (lv_at hl 3 rfl) ?_
  refine lv_aload_n hx hb dX4_countIn_12 rfl (lv_at hl 0 rfl) ?_
  refine gf_X4_brings  hx hb hts hown hK hM tw_722 dX4_countIn_13 ?_
  refine lv_bipush (v := 8) hx hb dX4_countIn_16 (by decide) ?_
  refine lv_iload_n hx hb dX4_countIn_18 rfl (lv_at hl 1 rfl) ?_
  refine lv_imul hx hb dX4_countIn_19 ?_
  refine lv_iload_n hx hb dX4_countIn_20 rfl (lv_at hl 2 rfl) ?_
  refine lv_iadd hx hb dX4_countIn_21 ?_
  refine wt_ild hx hb hK hM wt_a109 i1 dX4_countIn_22 ?_
  refine lv_imul hx hb dX4_countIn_23 ?_
  refine lv_iadd hx hb dX4_countIn_24 ?_
  refine wt_callSi (As := [.int ((σ 107 (Int32.toNatClampNeg (((8 : Int32) * x1) + x2))) + (x3 * (σ 109 (Int32.toNatClampNeg (((8 : Int32) * x1) + x2)))))]) (rest := []) hx hb hml hts hown hK hM cw_X4_118 hd_X4_held rfl ⟨qz_b rfl, qz_b rfl⟩ ⟨rfl, rfl⟩ hl.1 rfl (qz_b rfl) dX4_countIn_25 hf (fun _ _ h9 => c_X4_held h9) (fun r2 s3 H locs hf hM => ?_)
  exact wt_iret hx hb hr hlk hK hM hf dX4_countIn_28
end
set_option maxHeartbeats 4000000 in
set_option maxRecDepth 100000 in
theorem c_X4_countIn {l : Launch} {D : va_G} {tI tII : ClassId} {B F : Nat} {x1 : Int32} {x2 : Int32} {x3 : Int32} {σ σ' : Mem} {r : Int32} (hf : f_X4_countIn F x1 x2 x3 σ = some (r, σ')) : wt_Mi l yX4_countIn cX4_countIn 4 (some .int) rm_X4_countIn [.ref (B + 101), .int x1, .int x2, .int x3] D tI tII B σ r σ' := by
  refine Met.ofW (cc := cX4_countIn) (maxL := 4) (ret := (some .int)) (by decide) rfl ?_
  intro p e s m args below meth c s₁ B9 hml hv
  obtain ⟨rfl, hP, hK⟩ := hv
  have hl := lv_entry ([.ref (B + 101), .int x1, .int x2, .int x3]) (n := 4) (qz_b rfl)
  rw [lg_entry_eq]
  generalize (lg_sl ([.ref (B + 101), .int x1, .int x2, .int x3]) ++ List.replicate (4 - (lg_sl ([.ref (B + 101), .int x1, .int x2, .int x3])).length) Slot.unset).toArray = ls at hl ⊢
  exact w_X4_countIn_0 (wt_C_of B9 hml hK) hf ⟨hP, va_S.rf⟩ hl
section
variable {p : Program} {l : Launch} {e : Env} {s : State} {m : MethodId} {args : Array Value} {below : List Frame} {meth : Method} {c : Code} {D : va_G} {tI tII : ClassId} {B : Nat}
set_option maxHeartbeats 4000000 in
set_option maxRecDepth 100000 in
theorem w_X4_joint_136 (C : wt_C p s m args meth c RX4 cX4_joint 10 (some .int) D tI tII) {F : Nat} {k50 : Int32 → Int32 → Mem → Option (Int32 × Mem)} {k91 : Int32 → Int32 → Mem → Option (Int32 × Mem)} {x1 : Int32} {x2 : Int32} {x3 : Int32} {x5 : Int32} {x6 : Int32} {x7 : Int32} {x9 : Int32} {t0 : Int32} {σ : Mem} {r : Int32} {σ' : Mem} {H : Heap} {locs : List Loc} {ls : Array Slot} (hk50 : ∀ (x5 : Int32) (x6 : Int32) (σ : Mem) (H : Heap) (locs : List Loc) (ls : Array Slot), k50 x5 x6 σ = some (r, σ') → wt_St D tI tII B σ s H locs → lv_has ls 10 [(0, .ref (B + 101)), (1, .int x1), (2, .int x2), (3, .int x3), (5, .int x5), (6, .int x6)] → W p l e rm_X4_joint s m args below meth c H locs 0 0 (MQ below (wt_Qi D tI tII B r σ') args s 0 0 (fun q => B ≤ q)) (F0 m 50 ls [])) (hk91 : ∀ (x8 : Int32) (x9 : Int32) (σ : Mem) (H : Heap) (locs : List Loc) (ls : Array Slot), k91 x8 x9 σ = some (r, σ') → wt_St D tI tII B σ s H locs → lv_has ls 10 [(0, .ref (B + 101)), (1, .int x1), (2, .int x2), (3, .int x3), (5, .int x5), (6, .int x6), (7, .int x7), (8, .int x8), (9, .int x9)] → W p l e rm_X4_joint s m args below meth c H locs 0 0 (MQ below (wt_Qi D tI tII B r σ') args s 0 0 (fun q => B ≤ q)) (F0 m 91 ls [])) (hf : j_X4_joint_136 F k50 k91 x1 x2 x3 x5 x6 x7 x9 t0 σ = some (r, σ')) (hM : wt_St D tI tII B σ s H locs) (hl : lv_has ls 10 [(0, .ref (B + 101)), (1, .int x1), (2, .int x2), (3, .int x3), (5, .int x5), (6, .int x6), (7, .int x7), (9, .int x9)]) : W p l e rm_X4_joint s m args below meth c H locs 0 0 (MQ below (wt_Qi D tI tII B r σ') args s 0 0 (fun q => B ≤ q)) (F0 m 136 ls [.int t0]) := by
  obtain ⟨hx, hb, hts, hown, hml, hr, hlk, hK⟩ := id C
  replace hf := Eq.trans j_X4_joint_136_e.symm hf
  refine lv_istore (lv' := [(8, .int t0), (0, .ref (B + 101)), (1, .int x1), (2, .int x2), (3, .int x3), (5, .int x5), (6, .int x6), (7, .int x7), (9, .int x9)]) hx hb dX4_joint_136 hl (by decide) rfl (fun ls hl => ?_)
  refine lv_iinc (v := (x9 + (1 : Int32))) (lv' := [(9, .int (x9 + (1 : Int32))), (8, .int t0), (0, .ref (B + 101)), (1, .int x1), (2, .int x2), (3, .int x3), (5, .int x5), (6, .int x6), (7, .int x7)]) hx hb dX4_joint_138 hl (k := 8) rfl rfl (by decide) rfl (fun ls hl => ?_)
  refine lv_goto (tgt := 91) hx hb dX4_joint_141 (by decide) ?_
  exact hk91 _ _ _ _ _ _ hf hM (lv_sub hl [2, 3, 4, 5, 6, 7, 8, 1, 0] rfl)
set_option maxHeartbeats 4000000 in
set_option maxRecDepth 100000 in
theorem w_X4_joint_131 (C : wt_C p s m args meth c RX4 cX4_joint 10 (some .int) D tI tII) {F : Nat} {k50 : Int32 → Int32 → Mem → Option (Int32 × Mem)} {k91 : Int32 → Int32 → Mem → Option (Int32 × Mem)} {x1 : Int32} {x2 : Int32} {x3 : Int32} {x5 : Int32} {x6 : Int32} {x7 : Int32} {x9 : Int32} {σ : Mem} {r : Int32} {σ' : Mem} {H : Heap} {locs : List Loc} {ls : Array Slot} (hk50 : ∀ (x5 : Int32) (x6 : Int32) (σ : Mem) (H : Heap) (locs : List Loc) (ls : Array Slot), k50 x5 x6 σ = some (r, σ') → wt_St D tI tII B σ s H locs → lv_has ls 10 [(0, .ref (B + 101)), (1, .int x1), (2, .int x2), (3, .int x3), (5, .int x5), (6, .int x6)] → W p l e rm_X4_joint s m args below meth c H locs 0 0 (MQ below (wt_Qi D tI tII B r σ') args s 0 0 (fun q => B ≤ q)) (F0 m 50 ls [])) (hk91 : ∀ (x8 : Int32) (x9 : Int32) (σ : Mem) (H : Heap) (locs : List Loc) (ls : Array Slot), k91 x8 x9 σ = some (r, σ') → wt_St D tI tII B σ s H locs → lv_has ls 10 [(0, .ref (B + 101)), (1, .int x1), (2, .int x2), (3, .int x3), (5, .int x5), (6, .int x6), (7, .int x7), (8, .int x8), (9, .int x9)] → W p l e rm_X4_joint s m args below meth c H locs 0 0 (MQ below (wt_Qi D tI tII B r σ') args s 0 0 (fun q => B ≤ q)) (F0 m 91 ls [])) (hf : j_X4_joint_131 F k50 k91 x1 x2 x3 x5 x6 x7 x9 σ = some (r, σ')) (hM : wt_St D tI tII B σ s H locs) (hl : lv_has ls 10 [(0, .ref (B + 101)), (1, .int x1), (2, .int x2), (3, .int x3), (5, .int x5), (6, .int x6), (7, .int x7), (9, .int x9)]) : W p l e rm_X4_joint s m args below meth c H locs 0 0 (MQ below (wt_Qi D tI tII B r σ') args s 0 0 (fun q => B ≤ q)) (F0 m 131 ls []) := by
  obtain ⟨hx, hb, hts, hown, hml, hr, hlk, hK⟩ := id C
  replace hf := Eq.trans j_X4_joint_131_e.symm hf
  refine lv_iconst (v := 1) hx hb dX4_joint_131 (by decide) ?_
  refine lv_goto (tgt := 136) hx hb dX4_joint_132 (by decide) ?_
  exact w_X4_joint_136 C hk50 hk91 hf hM hl
set_option maxHeartbeats 4000000 in
set_option maxRecDepth 100000 in
theorem w_X4_joint_135 (C : wt_C p s m args meth c RX4 cX4_joint 10 (some .int) D tI tII) {F : Nat} {k50 : Int32 → Int32 → Mem → Option (Int32 × Mem)} {k91 : Int32 → Int32 → Mem → Option (Int32 × Mem)} {x1 : Int32} {x2 : Int32} {x3 : Int32} {x5 : Int32} {x6 : Int32} {x7 : Int32} {x9 : Int32} {σ : Mem} {r : Int32} {σ' : Mem} {H : Heap} {locs : List Loc} {ls : Array Slot} (hk50 : ∀ (x5 : Int32) (x6 : Int32) (σ : Mem) (H : Heap) (locs : List Loc) (ls : Array Slot), k50 x5 x6 σ = some (r, σ') → wt_St D tI tII B σ s H locs → lv_has ls 10 [(0, .ref (B + 101)), (1, .int x1), (2, .int x2), (3, .int x3), (5, .int x5), (6, .int x6)] → W p l e rm_X4_joint s m args below meth c H locs 0 0 (MQ below (wt_Qi D tI tII B r σ') args s 0 0 (fun q => B ≤ q)) (F0 m 50 ls [])) (hk91 : ∀ (x8 : Int32) (x9 : Int32) (σ : Mem) (H : Heap) (locs : List Loc) (ls : Array Slot), k91 x8 x9 σ = some (r, σ') → wt_St D tI tII B σ s H locs → lv_has ls 10 [(0, .ref (B + 101)), (1, .int x1), (2, .int x2), (3, .int x3), (5, .int x5), (6, .int x6), (7, .int x7), (8, .int x8), (9, .int x9)] → W p l e rm_X4_joint s m args below meth c H locs 0 0 (MQ below (wt_Qi D tI tII B r σ') args s 0 0 (fun q => B ≤ q)) (F0 m 91 ls [])) (hf : j_X4_joint_135 F k50 k91 x1 x2 x3 x5 x6 x7 x9 σ = some (r, σ')) (hM : wt_St D tI tII B σ s H locs) (hl : lv_has ls 10 [(0, .ref (B + 101)), (1, .int x1), (2, .int x2), (3, .int x3), (5, .int x5), (6, .int x6), (7, .int x7), (9, .int x9)]) : W p l e rm_X4_joint s m args below meth c H locs 0 0 (MQ below (wt_Qi D tI tII B r σ') args s 0 0 (fun q => B ≤ q)) (F0 m 135 ls []) := by
  obtain ⟨hx, hb, hts, hown, hml, hr, hlk, hK⟩ := id C
  replace hf := Eq.trans j_X4_joint_135_e.symm hf
  refine lv_iconst (v := 0) hx hb dX4_joint_135 (by decide) ?_
  exact w_X4_joint_136 C hk50 hk91 hf hM hl
set_option maxHeartbeats 4000000 in
set_option maxRecDepth 100000 in
theorem w_X4_joint_159 (C : wt_C p s m args meth c RX4 cX4_joint 10 (some .int) D tI tII) {F : Nat} {k50 : Int32 → Int32 → Mem → Option (Int32 × Mem)} {x1 : Int32} {x2 : Int32} {x3 : Int32} {x6 : Int32} {t0 : Int32} {t1 : Int32} {σ : Mem} {r : Int32} {σ' : Mem} {H : Heap} {locs : List Loc} {ls : Array Slot} (hk50 : ∀ (x5 : Int32) (x6 : Int32) (σ : Mem) (H : Heap) (locs : List Loc) (ls : Array Slot), k50 x5 x6 σ = some (r, σ') → wt_St D tI tII B σ s H locs → lv_has ls 10 [(0, .ref (B + 101)), (1, .int x1), (2, .int x2), (3, .int x3), (5, .int x5), (6, .int x6)] → W p l e rm_X4_joint s m args below meth c H locs 0 0 (MQ below (wt_Qi D tI tII B r σ') args s 0 0 (fun q => B ≤ q)) (F0 m 50 ls [])) (hf : j_X4_joint_159 F k50 x1 x2 x3 x6 t0 t1 σ = some (r, σ')) (hM : wt_St D tI tII B σ s H locs) (hl : lv_has ls 10 [(0, .ref (B + 101)), (1, .int x1), (2, .int x2), (3, .int x3), (6, .int x6)]) : W p l e rm_X4_joint s m args below meth c H locs 0 0 (MQ below (wt_Qi D tI tII B r σ') args s 0 0 (fun q => B ≤ q)) (F0 m 159 ls [.int t1, .int t0]) := by
  obtain ⟨hx, hb, hts, hown, hml, hr, hlk, hK⟩ := id C
  replace hf := Eq.trans j_X4_joint_159_e.symm hf
  refine lv_ior hx hb dX4_joint_159 ?_
  refine lv_istore (lv' := [(5, .int (t0 ||| t1)), (0, .ref (B + 101)), (1, .int x1), (2, .int x2), (3, .int x3), (6, .int x6)]) hx hb dX4_joint_160 hl (by decide) rfl (fun ls hl => ?_)
  refine lv_iinc (v := (x6 + (1 : Int32))) (lv' := [(6, .int (x6 + (1 : Int32))), (5, .int (t0 ||| t1)), (0, .ref (B + 101)), (1, .int x1), (2, .int x2), (3, .int x3)]) hx hb dX4_joint_162 hl (k := 5) rfl rfl (by decide) rfl (fun ls hl => ?_)
  refine lv_goto (tgt := 50) hx hb dX4_joint_165 (by decide) ?_
  exact hk50 _ _ _ _ _ _ hf hM (lv_sub hl [2, 3, 4, 5, 1, 0] rfl)
set_option maxHeartbeats 4000000 in
set_option maxRecDepth 100000 in
theorem w_X4_joint_91 (C : wt_C p s m args meth c RX4 cX4_joint 10 (some .int) D tI tII) {F : Nat} {k50 : Int32 → Int32 → Mem → Option (Int32 × Mem)} {x1 : Int32} {x2 : Int32} {x3 : Int32} {x5 : Int32} {x6 : Int32} {x7 : Int32} {r : Int32} {σ' : Mem} (hk50 : ∀ (x5 : Int32) (x6 : Int32) (σ : Mem) (H : Heap) (locs : List Loc) (ls : Array Slot), k50 x5 x6 σ = some (r, σ') → wt_St D tI tII B σ s H locs → lv_has ls 10 [(0, .ref (B + 101)), (1, .int x1), (2, .int x2), (3, .int x3), (5, .int x5), (6, .int x6)] → W p l e rm_X4_joint s m args below meth c H locs 0 0 (MQ below (wt_Qi D tI tII B r σ') args s 0 0 (fun q => B ≤ q)) (F0 m 50 ls [])) : ∀ (N : Nat) (x8 : Int32) (x9 : Int32) (σ : Mem) (H : Heap) (locs : List Loc) (ls : Array Slot), lp_X4_joint_91 F k50 x1 x2 x3 x5 x6 x7 N x8 x9 σ = some (r, σ') → wt_St D tI tII B σ s H locs → lv_has ls 10 [(0, .ref (B + 101)), (1, .int x1), (2, .int x2), (3, .int x3), (5, .int x5), (6, .int x6), (7, .int x7), (8, .int x8), (9, .int x9)] → W p l e rm_X4_joint s m args below meth c H locs 0 0 (MQ below (wt_Qi D tI tII B r σ') args s 0 0 (fun q => B ≤ q)) (F0 m 91 ls []) := by
  obtain ⟨hx, hb, hts, hown, hml, hr, hlk, hK⟩ := id C
  intro N
  induction N with
  | zero => intro x8 x9 σ H locs ls hf; exact wt_none (show (none : Option (Int32 × Mem)) = some (r, σ') from hf)
  | succ N ih =>
    intro x8 x9 σ H locs ls hf hM hl
    replace hf := Eq.trans lp_X4_joint_91_s.symm hf
    refine lv_iload hx hb dX4_joint_91 (lv_at hl 8 rfl) ?_
    refine lv_aload_n hx hb dX4_joint_93 rfl (lv_at hl 0 rfl) ?_
    refine gf_X4_lookers  hx hb hts hown hK hM tw_713 dX4_joint_94 ?_
    refine wq_icmp_ge (tgt := 144) hx hb dX4_joint_97 (by decide) hf (fun hf => ?_) (fun hf => ?_)
    · refine lv_iload hx hb dX4_joint_144 (lv_at hl 4 rfl) ?_
      refine lv_iload hx hb dX4_joint_146 (lv_at hl 7 rfl) ?_
      refine wq_if_eq (tgt := 158) hx hb dX4_joint_148 (by decide) hf (fun hf => ?_) (fun hf => ?_)
      · refine lv_iconst (v := 0) hx hb dX4_joint_158 (by decide) ?_
        exact w_X4_joint_159 C hk50 hf hM (lv_sub hl [0, 1, 2, 3, 5] rfl)
      refine lv_iconst (v := 1) hx hb dX4_joint_151 (by decide) ?_
      refine lv_iload hx hb dX4_joint_152 (lv_at hl 5 rfl) ?_
      refine lv_ishl hx hb dX4_joint_154 ?_
      refine lv_goto (tgt := 159) hx hb dX4_joint_155 (by decide) ?_
      exact w_X4_joint_159 C hk50 hf hM (lv_sub hl [0, 1, 2, 3, 5] rfl)
    refine lv_iload hx hb dX4_joint_100 (lv_at hl 7 rfl) ?_
    refine wq_if_eq (tgt := 135) hx hb dX4_joint_102 (by decide) hf (fun hf => ?_) (fun hf => ?_)
    · exact w_X4_joint_135 C hk50 ih hf hM (lv_sub hl [0, 1, 2, 3, 4, 5, 6, 8] rfl)
    refine lv_iload hx hb dX4_joint_105 (lv_at hl 8 rfl) ?_
    refine lv_iload_n hx hb dX4_joint_107 rfl (lv_at hl 1 rfl) ?_
    refine wq_icmp_eq (tgt := 131) hx hb dX4_joint_108 (by decide) hf (fun hf => ?_) (fun hf => ?_)
    · exact w_X4_joint_131 C hk50 ih hf hM (lv_sub hl [0, 1, 2, 3, 4, 5, 6, 8] rfl)
    refine lv_iload hx hb dX4_joint_111 (lv_at hl 8 rfl) ?_
    refine lv_iload_n hx hb dX4_joint_113 rfl (lv_at hl 2 rfl) ?_
    refine wq_icmp_eq (tgt := 131) hx hb dX4_joint_114 (by decide) hf (fun hf => ?_) (fun hf => ?_)
    · exact w_X4_joint_131 C hk50 ih hf hM (lv_sub hl [0, 1, 2, 3, 4, 5, 6, 8] rfl)
    refine lv_aload_n hx hb dX4_joint_117 rfl (lv_at hl 0 rfl) ?_
    refine lv_iload hx hb dX4_joint_118 (lv_at hl 8 rfl) ?_
    refine lv_iload hx hb dX4_joint_120 (lv_at hl 5 rfl) ?_
    refine lv_iload_n hx hb dX4_joint_122 rfl (lv_at hl 3 rfl) ?_
    refine wt_callVi (As := [.int x9, .int x6, .int x3]) (rest := []) hx hb hml hts hown hK hM wt_rc_X4 cw_X4_291 hd_X4_countIn rfl ⟨qz_b rfl, qz_b rfl⟩ ⟨rfl, rfl⟩ hl.1 rfl (qz_b rfl) dX4_joint_123 hf (fun _ _ h9 => c_X4_countIn h9) (fun r1 s2 H locs hf hM => ?_)
    refine lv_iload hx hb dX4_joint_126 (lv_at hl 6 rfl) ?_
    refine wq_icmp_ge (tgt := 135) hx hb dX4_joint_128 (by decide) hf (fun hf => ?_) (fun hf => ?_)
    · exact w_X4_joint_135 C hk50 ih hf hM (lv_sub hl [0, 1, 2, 3, 4, 5, 6, 8] rfl)
    exact w_X4_joint_131 C hk50 ih hf hM (lv_sub hl [0, 1, 2, 3, 4, 5, 6, 8] rfl)
set_option maxHeartbeats 4000000 in
set_option maxRecDepth 100000 in
theorem w_X4_joint_86 (C : wt_C p s m args meth c RX4 cX4_joint 10 (some .int) D tI tII) {F : Nat} {k50 : Int32 → Int32 → Mem → Option (Int32 × Mem)} {x1 : Int32} {x2 : Int32} {x3 : Int32} {x5 : Int32} {x6 : Int32} {x7 : Int32} {t0 : Int32} {σ : Mem} {r : Int32} {σ' : Mem} {H : Heap} {locs : List Loc} {ls : Array Slot} (hk50 : ∀ (x5 : Int32) (x6 : Int32) (σ : Mem) (H : Heap) (locs : List Loc) (ls : Array Slot), k50 x5 x6 σ = some (r, σ') → wt_St D tI tII B σ s H locs → lv_has ls 10 [(0, .ref (B + 101)), (1, .int x1), (2, .int x2), (3, .int x3), (5, .int x5), (6, .int x6)] → W p l e rm_X4_joint s m args below meth c H locs 0 0 (MQ below (wt_Qi D tI tII B r σ') args s 0 0 (fun q => B ≤ q)) (F0 m 50 ls [])) (hf : j_X4_joint_86 F k50 x1 x2 x3 x5 x6 x7 t0 σ = some (r, σ')) (hM : wt_St D tI tII B σ s H locs) (hl : lv_has ls 10 [(0, .ref (B + 101)), (1, .int x1), (2, .int x2), (3, .int x3), (5, .int x5), (6, .int x6), (7, .int x7)]) : W p l e rm_X4_joint s m args below meth c H locs 0 0 (MQ below (wt_Qi D tI tII B r σ') args s 0 0 (fun q => B ≤ q)) (F0 m 86 ls [.int t0]) := by
  obtain ⟨hx, hb, hts, hown, hml, hr, hlk, hK⟩ := id C
  replace hf := Eq.trans j_X4_joint_86_e.symm hf
  refine lv_istore (lv' := [(8, .int t0), (0, .ref (B + 101)), (1, .int x1), (2, .int x2), (3, .int x3), (5, .int x5), (6, .int x6), (7, .int x7)]) hx hb dX4_joint_86 hl (by decide) rfl (fun ls hl => ?_)
  refine lv_iconst (v := 0) hx hb dX4_joint_88 (by decide) ?_
  refine lv_istore (lv' := [(9, .int (0 : Int32)), (8, .int t0), (0, .ref (B + 101)), (1, .int x1), (2, .int x2), (3, .int x3), (5, .int x5), (6, .int x6), (7, .int x7)]) hx hb dX4_joint_89 hl (by decide) rfl (fun ls hl => ?_)
  exact w_X4_joint_91 C hk50 _ _ _ _ _ _ _ hf hM (lv_sub hl [2, 3, 4, 5, 6, 7, 8, 1, 0] rfl)
set_option maxHeartbeats 4000000 in
set_option maxRecDepth 100000 in
theorem w_X4_joint_50 (C : wt_C p s m args meth c RX4 cX4_joint 10 (some .int) D tI tII) {F : Nat} {x1 : Int32} {x2 : Int32} {x3 : Int32} {r : Int32} {σ' : Mem} : ∀ (N : Nat) (x5 : Int32) (x6 : Int32) (σ : Mem) (H : Heap) (locs : List Loc) (ls : Array Slot), lp_X4_joint_50 F x1 x2 x3 N x5 x6 σ = some (r, σ') → wt_St D tI tII B σ s H locs → lv_has ls 10 [(0, .ref (B + 101)), (1, .int x1), (2, .int x2), (3, .int x3), (5, .int x5), (6, .int x6)] → W p l e rm_X4_joint s m args below meth c H locs 0 0 (MQ below (wt_Qi D tI tII B r σ') args s 0 0 (fun q => B ≤ q)) (F0 m 50 ls []) := by
  obtain ⟨hx, hb, hts, hown, hml, hr, hlk, hK⟩ := id C
  intro N
  induction N with
  | zero => intro x5 x6 σ H locs ls hf; exact wt_none (show (none : Option (Int32 × Mem)) = some (r, σ') from hf)
  | succ N ih =>
    intro x5 x6 σ H locs ls hf hM hl
    replace hf := Eq.trans lp_X4_joint_50_s.symm hf
    refine lv_iload hx hb dX4_joint_50 (lv_at hl 5 rfl) ?_
    refine lv_bipush (v := 8) hx hb dX4_joint_52 (by decide) ?_
    refine wq_icmp_ge (tgt := 168) hx hb dX4_joint_54 (by decide) hf (fun hf => ?_) (fun hf => ?_)
    · refine lv_iload hx hb dX4_joint_168 (lv_at hl 4 rfl) ?_
      exact wt_iret hx hb hr hlk hK hM hf dX4_joint_170
    refine lv_aload_n hx hb dX4_joint_57 rfl (lv_at hl 0 rfl) ?_
    refine lv_iload_n hx hb dX4_joint_58 rfl (lv_at hl 1 rfl) ?_
    refine lv_iload hx hb dX4_joint_59 (lv_at hl 5 rfl) ?_
    refine lv_iload_n hx hb dX4_joint_61 rfl (lv_at hl 3 rfl) ?_
    refine wt_callVi (As := [.int x1, .int x6, .int x3]) (rest := []) hx hb hml hts hown hK hM wt_rc_X4 cw_X4_291 hd_X4_countIn rfl ⟨qz_b rfl, qz_b rfl⟩ ⟨rfl, rfl⟩ hl.1 rfl (qz_b rfl) dX4_joint_62 hf (fun _ _ h9 => c_X4_countIn h9) (fun r3 s4 H locs hf hM => ?_)
    refine lv_aload_n hx hb dX4_joint_65 rfl (lv_at hl 0 rfl) ?_
    refine lv_iload_n hx hb dX4_joint_66 rfl (lv_at hl 2 rfl) ?_
    refine lv_iload hx hb dX4_joint_67 (lv_at hl 5 rfl) ?_
    refine lv_iload_n hx hb dX4_joint_69 rfl (lv_at hl 3 rfl) ?_
    refine wt_callVi (As := [.int x2, .int x6, .int x3]) (rest := [.int r3]) hx hb hml hts hown hK hM wt_rc_X4 cw_X4_291 hd_X4_countIn rfl ⟨qz_b rfl, qz_b rfl⟩ ⟨rfl, rfl⟩ hl.1 rfl (qz_b rfl) dX4_joint_70 hf (fun _ _ h9 => c_X4_countIn h9) (fun r5 s6 H locs hf hM => ?_)
    refine lv_iadd hx hb dX4_joint_73 ?_
    refine lv_istore (lv' := [(7, .int (r3 + r5)), (0, .ref (B + 101)), (1, .int x1), (2, .int x2), (3, .int x3), (5, .int x5), (6, .int x6)]) hx hb dX4_joint_74 hl (by decide) rfl (fun ls hl => ?_)
    refine lv_iload hx hb dX4_joint_76 (lv_at hl 0 rfl) ?_
    refine wq_if_le (tgt := 85) hx hb dX4_joint_78 (by decide) hf (fun hf => ?_) (fun hf => ?_)
    · refine lv_iconst (v := 0) hx hb dX4_joint_85 (by decide) ?_
      exact w_X4_joint_86 C ih hf hM (lv_sub hl [1, 2, 3, 4, 5, 6, 0] rfl)
    refine lv_iconst (v := 1) hx hb dX4_joint_81 (by decide) ?_
    refine lv_goto (tgt := 86) hx hb dX4_joint_82 (by decide) ?_
    exact w_X4_joint_86 C ih hf hM (lv_sub hl [1, 2, 3, 4, 5, 6, 0] rfl)
set_option maxHeartbeats 4000000 in
set_option maxRecDepth 100000 in
theorem w_X4_joint_26 (C : wt_C p s m args meth c RX4 cX4_joint 10 (some .int) D tI tII) {F : Nat} {x1 : Int32} {x2 : Int32} {x3 : Int32} {t0 : Int32} {σ : Mem} {r : Int32} {σ' : Mem} {H : Heap} {locs : List Loc} {ls : Array Slot} (hf : j_X4_joint_26 F x1 x2 x3 t0 σ = some (r, σ')) (hM : wt_St D tI tII B σ s H locs) (hl : lv_has ls 10 [(0, .ref (B + 101)), (1, .int x1), (2, .int x2), (3, .int x3)]) : W p l e rm_X4_joint s m args below meth c H locs 0 0 (MQ below (wt_Qi D tI tII B r σ') args s 0 0 (fun q => B ≤ q)) (F0 m 26 ls [.int t0]) := by
  obtain ⟨hx, hb, hts, hown, hml, hr, hlk, hK⟩ := id C
  replace hf := Eq.trans j_X4_joint_26_e.symm hf
  refine lv_istore (lv' := [(4, .int t0), (0, .ref (B + 101)), (1, .int x1), (2, .int x2), (3, .int x3)]) hx hb dX4_joint_26 hl (by decide) rfl (fun ls hl => ?_)
  refine lv_iload hx hb dX4_joint_28 (lv_at hl 0 rfl) ?_
  refine wq_if_ge (tgt := 40) hx hb dX4_joint_30 (by decide) hf (fun hf => ?_) (fun hf => ?_)
  · refine lv_aload_n hx hb dX4_joint_40 rfl (lv_at hl 1 rfl) ?_
    refine wt_callVv (As := []) (rest := []) hx hb hml hts hown hK hM wt_rc_X4 cw_X4_134 hd_X4_layBrings rfl ⟨qz_b rfl, qz_b rfl⟩ ⟨rfl, rfl⟩ hl.1 rfl (qz_b rfl) dX4_joint_41 hf (fun _ _ h9 => c_X4_layBrings h9) (fun r7 s8 H locs hf hM => ?_)
    refine lv_iconst (v := 0) hx hb dX4_joint_44 (by decide) ?_
    refine lv_istore (lv' := [(5, .int (0 : Int32)), (4, .int t0), (0, .ref (B + 101)), (1, .int x1), (2, .int x2), (3, .int x3)]) hx hb dX4_joint_45 hl (by decide) rfl (fun ls hl => ?_)
    refine lv_iconst (v := 0) hx hb dX4_joint_47 (by decide) ?_
    refine lv_istore (lv' := [(6, .int (0 : Int32)), (5, .int (0 : Int32)), (4, .int t0), (0, .ref (B + 101)), (1, .int x1), (2, .int x2), (3, .int x3)]) hx hb dX4_joint_48 hl (by decide) rfl (fun ls hl => ?_)
    exact w_X4_joint_50 C _ _ _ _ _ _ _ hf hM (lv_sub hl [3, 4, 5, 6, 1, 0] rfl)
  refine lv_aload_n hx hb dX4_joint_33 rfl (lv_at hl 1 rfl) ?_
  refine lv_iload hx hb dX4_joint_34 (lv_at hl 0 rfl) ?_
  refine wt_callVi (As := [.int t0]) (rest := []) hx hb hml hts hown hK hM wt_rc_X4 cw_X4_143 hd_X4_refuse rfl ⟨qz_b rfl, qz_b rfl⟩ ⟨rfl, rfl⟩ hl.1 rfl (qz_b rfl) dX4_joint_36 hf (fun _ _ h9 => c_X4_refuse h9) (fun r9 s10 H locs hf hM => ?_)
  exact wt_iret hx hb hr hlk hK hM hf dX4_joint_39
set_option maxHeartbeats 4000000 in
set_option maxRecDepth 100000 in
theorem w_X4_joint_0 (C : wt_C p s m args meth c RX4 cX4_joint 10 (some .int) D tI tII) {F : Nat} {x1 : Int32} {x2 : Int32} {x3 : Int32} {σ : Mem} {r : Int32} {σ' : Mem} {H : Heap} {locs : List Loc} {ls : Array Slot} (hf : f_X4_joint F x1 x2 x3 σ = some (r, σ')) (hM : wt_St D tI tII B σ s H locs) (hl : lv_has ls 10 [(0, .ref (B + 101)), (1, .int x1), (2, .int x2), (3, .int x3)]) : W p l e rm_X4_joint s m args below meth c H locs 0 0 (MQ below (wt_Qi D tI tII B r σ') args s 0 0 (fun q => B ≤ q)) (F0 m 0 ls []) := by
  obtain ⟨hx, hb, hts, hown, hml, hr, hlk, hK⟩ := id C
  replace hf := Eq.trans f_X4_joint_e.symm hf
  refine lv_aload_n hx hb dX4_joint_0 rfl (lv_at hl 0 rfl) ?_
  refine lv_iconst (v := 0) hx hb dX4_joint_1 (by decide) ?_
  refine pf_X4_thrown  hx hb hts hown hK hM tw_720 dX4_joint_2 hf (fun s11 H locs hf hM => ?_)
  refine lv_aload_n hx hb dX4_joint_5 rfl (lv_at hl 0 rfl) ?_
  refine lv_iload_n hx hb dX4_joint_6 rfl (lv_at hl 1 rfl) ?_
  refine lv_iload_n hx hb dX4_joint_7 rfl (lv_at hl 2 rfl) ?_
  refine wt_callVi (As := [.int x1, .int x2]) (rest := []) hx hb hml hts hown hK hM wt_rc_X4 cw_X4_257 hd_X4_areTwo rfl ⟨qz_b rfl, qz_b rfl⟩ ⟨rfl, rfl⟩ hl.1 rfl (qz_b rfl) dX4_joint_8 hf (fun _ _ h9 => c_X4_areTwo h9) (fun r12 s13 H locs hf hM => ?_)
  refine wq_if_eq (tgt := 25) hx hb dX4_joint_11 (by decide) hf (fun hf => ?_) (fun hf => ?_)
  · refine lv_iconst (v := -1) hx hb dX4_joint_25 (by decide) ?_
    exact w_X4_joint_26 C hf hM hl
  refine lv_iload_n hx hb dX4_joint_14 rfl (lv_at hl 3 rfl) ?_
  refine lv_iconst (v := 0) hx hb dX4_joint_15 (by decide) ?_
  refine lv_sipush (v := 999) hx hb dX4_joint_16 (by decide) ?_
  refine wt_callSi (As := [.int x3, .int (0 : Int32), .int (999 : Int32)]) (rest := []) hx hb hml hts hown hK hM cw_X4_231 hd_X4_wrongNumber rfl ⟨qz_b rfl, qz_b rfl⟩ ⟨rfl, rfl⟩ hl.1 rfl (qz_b rfl) dX4_joint_19 hf (fun _ _ h9 => c_X4_wrongNumber h9) (fun r14 s15 H locs hf hM => ?_)
  refine lv_goto (tgt := 26) hx hb dX4_joint_22 (by decide) ?_
  exact w_X4_joint_26 C hf hM hl
end
set_option maxHeartbeats 4000000 in
set_option maxRecDepth 100000 in
theorem c_X4_joint {l : Launch} {D : va_G} {tI tII : ClassId} {B F : Nat} {x1 : Int32} {x2 : Int32} {x3 : Int32} {σ σ' : Mem} {r : Int32} (hf : f_X4_joint F x1 x2 x3 σ = some (r, σ')) : wt_Mi l yX4_joint cX4_joint 10 (some .int) rm_X4_joint [.ref (B + 101), .int x1, .int x2, .int x3] D tI tII B σ r σ' := by
  refine Met.ofW (cc := cX4_joint) (maxL := 10) (ret := (some .int)) (by decide) rfl ?_
  intro p e s m args below meth c s₁ B9 hml hv
  obtain ⟨rfl, hP, hK⟩ := hv
  have hl := lv_entry ([.ref (B + 101), .int x1, .int x2, .int x3]) (n := 10) (qz_b rfl)
  rw [lg_entry_eq]
  generalize (lg_sl ([.ref (B + 101), .int x1, .int x2, .int x3]) ++ List.replicate (10 - (lg_sl ([.ref (B + 101), .int x1, .int x2, .int x3])).length) Slot.unset).toArray = ls at hl ⊢
  exact w_X4_joint_0 (wt_C_of B9 hml hK) hf ⟨hP, va_S.rf⟩ hl
section
variable {p : Program} {l : Launch} {e : Env} {s : State} {m : MethodId} {args : Array Value} {below : List Frame} {meth : Method} {c : Code} {D : va_G} {tI tII : ClassId} {B : Nat}
set_option maxHeartbeats 4000000 in
set_option maxRecDepth 100000 in
theorem w_X4_rank_115 (C : wt_C p s m args meth c RX4 cX4_rank 8 (some .int) D tI tII) {F : Nat} {k40 : Int32 → Mem → Option (Int32 × Mem)} {k55 : Int32 → Int32 → Mem → Option (Int32 × Mem)} {x1 : Int32} {x2 : Int32} {x4 : Int32} {x6 : Int32} {t0 : Int32} {t1 : Int32} {σ : Mem} {r : Int32} {σ' : Mem} {H : Heap} {locs : List Loc} {ls : Array Slot} (hk40 : ∀ (x4 : Int32) (σ : Mem) (H : Heap) (locs : List Loc) (ls : Array Slot), k40 x4 σ = some (r, σ') → wt_St D tI tII B σ s H locs → lv_has ls 8 [(0, .ref (B + 101)), (1, .int x1), (2, .int x2), (4, .int x4)] → W p l e rm_X4_rank s m args below meth c H locs 0 0 (MQ below (wt_Qi D tI tII B r σ') args s 0 0 (fun q => B ≤ q)) (F0 m 40 ls [])) (hk55 : ∀ (x5 : Int32) (x6 : Int32) (σ : Mem) (H : Heap) (locs : List Loc) (ls : Array Slot), k55 x5 x6 σ = some (r, σ') → wt_St D tI tII B σ s H locs → lv_has ls 8 [(0, .ref (B + 101)), (1, .int x1), (2, .int x2), (4, .int x4), (5, .int x5), (6, .int x6)] → W p l e rm_X4_rank s m args below meth c H locs 0 0 (MQ below (wt_Qi D tI tII B r σ') args s 0 0 (fun q => B ≤ q)) (F0 m 55 ls [])) (hf : j_X4_rank_115 F k40 k55 x1 x2 x4 x6 t0 t1 σ = some (r, σ')) (hM : wt_St D tI tII B σ s H locs) (hl : lv_has ls 8 [(0, .ref (B + 101)), (1, .int x1), (2, .int x2), (4, .int x4), (6, .int x6)]) : W p l e rm_X4_rank s m args below meth c H locs 0 0 (MQ below (wt_Qi D tI tII B r σ') args s 0 0 (fun q => B ≤ q)) (F0 m 115 ls [.int t1, .int t0]) := by
  obtain ⟨hx, hb, hts, hown, hml, hr, hlk, hK⟩ := id C
  replace hf := Eq.trans j_X4_rank_115_e.symm hf
  refine lv_iadd hx hb dX4_rank_115 ?_
  refine lv_istore (lv' := [(5, .int (t0 + t1)), (0, .ref (B + 101)), (1, .int x1), (2, .int x2), (4, .int x4), (6, .int x6)]) hx hb dX4_rank_116 hl (by decide) rfl (fun ls hl => ?_)
  refine lv_iinc (v := (x6 + (1 : Int32))) (lv' := [(6, .int (x6 + (1 : Int32))), (5, .int (t0 + t1)), (0, .ref (B + 101)), (1, .int x1), (2, .int x2), (4, .int x4)]) hx hb dX4_rank_118 hl (k := 5) rfl rfl (by decide) rfl (fun ls hl => ?_)
  refine lv_goto (tgt := 55) hx hb dX4_rank_121 (by decide) ?_
  exact hk55 _ _ _ _ _ _ hf hM (lv_sub hl [2, 3, 4, 5, 1, 0] rfl)
set_option maxHeartbeats 4000000 in
set_option maxRecDepth 100000 in
theorem w_X4_rank_110 (C : wt_C p s m args meth c RX4 cX4_rank 8 (some .int) D tI tII) {F : Nat} {k40 : Int32 → Mem → Option (Int32 × Mem)} {k55 : Int32 → Int32 → Mem → Option (Int32 × Mem)} {x1 : Int32} {x2 : Int32} {x4 : Int32} {x6 : Int32} {t0 : Int32} {σ : Mem} {r : Int32} {σ' : Mem} {H : Heap} {locs : List Loc} {ls : Array Slot} (hk40 : ∀ (x4 : Int32) (σ : Mem) (H : Heap) (locs : List Loc) (ls : Array Slot), k40 x4 σ = some (r, σ') → wt_St D tI tII B σ s H locs → lv_has ls 8 [(0, .ref (B + 101)), (1, .int x1), (2, .int x2), (4, .int x4)] → W p l e rm_X4_rank s m args below meth c H locs 0 0 (MQ below (wt_Qi D tI tII B r σ') args s 0 0 (fun q => B ≤ q)) (F0 m 40 ls [])) (hk55 : ∀ (x5 : Int32) (x6 : Int32) (σ : Mem) (H : Heap) (locs : List Loc) (ls : Array Slot), k55 x5 x6 σ = some (r, σ') → wt_St D tI tII B σ s H locs → lv_has ls 8 [(0, .ref (B + 101)), (1, .int x1), (2, .int x2), (4, .int x4), (5, .int x5), (6, .int x6)] → W p l e rm_X4_rank s m args below meth c H locs 0 0 (MQ below (wt_Qi D tI tII B r σ') args s 0 0 (fun q => B ≤ q)) (F0 m 55 ls [])) (hf : j_X4_rank_110 F k40 k55 x1 x2 x4 x6 t0 σ = some (r, σ')) (hM : wt_St D tI tII B σ s H locs) (hl : lv_has ls 8 [(0, .ref (B + 101)), (1, .int x1), (2, .int x2), (4, .int x4), (6, .int x6)]) : W p l e rm_X4_rank s m args below meth c H locs 0 0 (MQ below (wt_Qi D tI tII B r σ') args s 0 0 (fun q => B ≤ q)) (F0 m 110 ls [.int t0]) := by
  obtain ⟨hx, hb, hts, hown, hml, hr, hlk, hK⟩ := id C
  replace hf := Eq.trans j_X4_rank_110_e.symm hf
  refine lv_iconst (v := 1) hx hb dX4_rank_110 (by decide) ?_
  refine lv_goto (tgt := 115) hx hb dX4_rank_111 (by decide) ?_
  exact w_X4_rank_115 C hk40 hk55 hf hM hl
set_option maxHeartbeats 4000000 in
set_option maxRecDepth 100000 in
theorem w_X4_rank_114 (C : wt_C p s m args meth c RX4 cX4_rank 8 (some .int) D tI tII) {F : Nat} {k40 : Int32 → Mem → Option (Int32 × Mem)} {k55 : Int32 → Int32 → Mem → Option (Int32 × Mem)} {x1 : Int32} {x2 : Int32} {x4 : Int32} {x6 : Int32} {t0 : Int32} {σ : Mem} {r : Int32} {σ' : Mem} {H : Heap} {locs : List Loc} {ls : Array Slot} (hk40 : ∀ (x4 : Int32) (σ : Mem) (H : Heap) (locs : List Loc) (ls : Array Slot), k40 x4 σ = some (r, σ') → wt_St D tI tII B σ s H locs → lv_has ls 8 [(0, .ref (B + 101)), (1, .int x1), (2, .int x2), (4, .int x4)] → W p l e rm_X4_rank s m args below meth c H locs 0 0 (MQ below (wt_Qi D tI tII B r σ') args s 0 0 (fun q => B ≤ q)) (F0 m 40 ls [])) (hk55 : ∀ (x5 : Int32) (x6 : Int32) (σ : Mem) (H : Heap) (locs : List Loc) (ls : Array Slot), k55 x5 x6 σ = some (r, σ') → wt_St D tI tII B σ s H locs → lv_has ls 8 [(0, .ref (B + 101)), (1, .int x1), (2, .int x2), (4, .int x4), (5, .int x5), (6, .int x6)] → W p l e rm_X4_rank s m args below meth c H locs 0 0 (MQ below (wt_Qi D tI tII B r σ') args s 0 0 (fun q => B ≤ q)) (F0 m 55 ls [])) (hf : j_X4_rank_114 F k40 k55 x1 x2 x4 x6 t0 σ = some (r, σ')) (hM : wt_St D tI tII B σ s H locs) (hl : lv_has ls 8 [(0, .ref (B + 101)), (1, .int x1), (2, .int x2), (4, .int x4), (6, .int x6)]) : W p l e rm_X4_rank s m args below meth c H locs 0 0 (MQ below (wt_Qi D tI tII B r σ') args s 0 0 (fun q => B ≤ q)) (F0 m 114 ls [.int t0]) := by
  obtain ⟨hx, hb, hts, hown, hml, hr, hlk, hK⟩ := id C
  replace hf := Eq.trans j_X4_rank_114_e.symm hf
  refine lv_iconst (v := 0) hx hb dX4_rank_114 (by decide) ?_
  exact w_X4_rank_115 C hk40 hk55 hf hM hl
set_option maxHeartbeats 4000000 in
set_option maxRecDepth 100000 in
theorem w_X4_rank_55 (C : wt_C p s m args meth c RX4 cX4_rank 8 (some .int) D tI tII) {F : Nat} {k40 : Int32 → Mem → Option (Int32 × Mem)} {x1 : Int32} {x2 : Int32} {x4 : Int32} {r : Int32} {σ' : Mem} (hk40 : ∀ (x4 : Int32) (σ : Mem) (H : Heap) (locs : List Loc) (ls : Array Slot), k40 x4 σ = some (r, σ') → wt_St D tI tII B σ s H locs → lv_has ls 8 [(0, .ref (B + 101)), (1, .int x1), (2, .int x2), (4, .int x4)] → W p l e rm_X4_rank s m args below meth c H locs 0 0 (MQ below (wt_Qi D tI tII B r σ') args s 0 0 (fun q => B ≤ q)) (F0 m 40 ls [])) : ∀ (N : Nat) (x5 : Int32) (x6 : Int32) (σ : Mem) (H : Heap) (locs : List Loc) (ls : Array Slot), lp_X4_rank_55 F k40 x1 x2 x4 N x5 x6 σ = some (r, σ') → wt_St D tI tII B σ s H locs → lv_has ls 8 [(0, .ref (B + 101)), (1, .int x1), (2, .int x2), (4, .int x4), (5, .int x5), (6, .int x6)] → W p l e rm_X4_rank s m args below meth c H locs 0 0 (MQ below (wt_Qi D tI tII B r σ') args s 0 0 (fun q => B ≤ q)) (F0 m 55 ls []) := by
  obtain ⟨hx, hb, hts, hown, hml, hr, hlk, hK⟩ := id C
  intro N
  induction N with
  | zero => intro x5 x6 σ H locs ls hf; exact wt_none (show (none : Option (Int32 × Mem)) = some (r, σ') from hf)
  | succ N ih =>
    intro x5 x6 σ H locs ls hf hM hl
    replace hf := Eq.trans lp_X4_rank_55_s.symm hf
    refine lv_iload hx hb dX4_rank_55 (lv_at hl 5 rfl) ?_
    refine lv_aload_n hx hb dX4_rank_57 rfl (lv_at hl 0 rfl) ?_
    refine gf_X4_lookers  hx hb hts hown hK hM tw_713 dX4_rank_58 ?_
    refine wq_icmp_ge (tgt := 124) hx hb dX4_rank_61 (by decide) hf (fun hf => ?_) (fun hf => ?_)
    · refine lv_iload hx hb dX4_rank_124 (lv_at hl 4 rfl) ?_
      refine lv_iload_n hx hb dX4_rank_126 rfl (lv_at hl 2 rfl) ?_
      refine wq_icmp_ne (tgt := 133) hx hb dX4_rank_127 (by decide) hf (fun hf => ?_) (fun hf => ?_)
      · refine lv_iinc (v := (x4 + (1 : Int32))) (lv' := [(4, .int (x4 + (1 : Int32))), (0, .ref (B + 101)), (1, .int x1), (2, .int x2), (5, .int x5), (6, .int x6)]) hx hb dX4_rank_133 hl (k := 3) rfl rfl (by decide) rfl (fun ls hl => ?_)
        refine lv_goto (tgt := 40) hx hb dX4_rank_136 (by decide) ?_
        exact hk40 _ _ _ _ _ hf hM (lv_sub hl [1, 2, 3, 0] rfl)
      refine lv_iload hx hb dX4_rank_130 (lv_at hl 3 rfl) ?_
      exact wt_iret hx hb hr hlk hK hM hf dX4_rank_132
    refine lv_aload_n hx hb dX4_rank_64 rfl (lv_at hl 0 rfl) ?_
    refine gf_X4_counted  hx hb hts hown hK hM tw_717 dX4_rank_65 ?_
    refine lv_bipush (v := 8) hx hb dX4_rank_68 (by decide) ?_
    refine lv_iload hx hb dX4_rank_70 (lv_at hl 5 rfl) ?_
    refine lv_imul hx hb dX4_rank_72 ?_
    refine lv_iload_n hx hb dX4_rank_73 rfl (lv_at hl 1 rfl) ?_
    refine lv_iadd hx hb dX4_rank_74 ?_
    obtain ⟨i1, hf⟩ := wt_chk_of hf
    refine wt_ild hx hb hK hM wt_a107 i1 dX4_rank_75 ?_
    refine lv_aload_n hx hb dX4_rank_76 rfl (lv_at hl 0 rfl) ?_
    refine gf_X4_counted  hx hb hts hown hK hM tw_717 dX4_rank_77 ?_
    refine lv_bipush (v := 8) hx hb dX4_rank_80 (by decide) ?_
    refine lv_iload hx hb dX4_rank_82 (lv_at hl 3 rfl) ?_
    refine lv_imul hx hb dX4_rank_84 ?_
    refine lv_iload_n hx hb dX4_rank_85 rfl (lv_at hl 1 rfl) ?_
    refine lv_iadd hx hb dX4_rank_86 ?_
    obtain ⟨i2, hf⟩ := wt_chk_of hf
    refine wt_ild hx hb hK hM wt_a107 i2 dX4_rank_87 ?_
    refine lv_isub hx hb dX4_rank_88 ?_
    refine wt_leti hf (fun z3 hf => ?_)
    refine lv_istore (lv' := [(7, .int z3), (0, .ref (B + 101)), (1, .int x1), (2, .int x2), (4, .int x4), (5, .int x5), (6, .int x6)]) hx hb dX4_rank_89 hl (by decide) rfl (fun ls hl => ?_)
    refine lv_iload hx hb dX4_rank_91 (lv_at hl 5 rfl) ?_
    refine lv_iload hx hb dX4_rank_93 (lv_at hl 0 rfl) ?_
    refine wq_if_gt (tgt := 110) hx hb dX4_rank_95 (by decide) hf (fun hf => ?_) (fun hf => ?_)
    · exact w_X4_rank_110 C hk40 ih hf hM (lv_sub hl [1, 2, 3, 4, 6] rfl)
    refine lv_iload hx hb dX4_rank_98 (lv_at hl 0 rfl) ?_
    refine wq_if_ne (tgt := 114) hx hb dX4_rank_100 (by decide) hf (fun hf => ?_) (fun hf => ?_)
    · exact w_X4_rank_114 C hk40 ih hf hM (lv_sub hl [1, 2, 3, 4, 6] rfl)
    refine lv_iload hx hb dX4_rank_103 (lv_at hl 6 rfl) ?_
    refine lv_iload hx hb dX4_rank_105 (lv_at hl 4 rfl) ?_
    refine wq_icmp_ge (tgt := 114) hx hb dX4_rank_107 (by decide) hf (fun hf => ?_) (fun hf => ?_)
    · exact w_X4_rank_114 C hk40 ih hf hM (lv_sub hl [1, 2, 3, 4, 6] rfl)
    exact w_X4_rank_110 C hk40 ih hf hM (lv_sub hl [1, 2, 3, 4, 6] rfl)
set_option maxHeartbeats 4000000 in
set_option maxRecDepth 100000 in
theorem w_X4_rank_40 (C : wt_C p s m args meth c RX4 cX4_rank 8 (some .int) D tI tII) {F : Nat} {x1 : Int32} {x2 : Int32} {r : Int32} {σ' : Mem} : ∀ (N : Nat) (x4 : Int32) (σ : Mem) (H : Heap) (locs : List Loc) (ls : Array Slot), lp_X4_rank_40 F x1 x2 N x4 σ = some (r, σ') → wt_St D tI tII B σ s H locs → lv_has ls 8 [(0, .ref (B + 101)), (1, .int x1), (2, .int x2), (4, .int x4)] → W p l e rm_X4_rank s m args below meth c H locs 0 0 (MQ below (wt_Qi D tI tII B r σ') args s 0 0 (fun q => B ≤ q)) (F0 m 40 ls []) := by
  obtain ⟨hx, hb, hts, hown, hml, hr, hlk, hK⟩ := id C
  intro N
  induction N with
  | zero => intro x4 σ H locs ls hf; exact wt_none (show (none : Option (Int32 × Mem)) = some (r, σ') from hf)
  | succ N ih =>
    intro x4 σ H locs ls hf hM hl
    replace hf := Eq.trans lp_X4_rank_40_s.symm hf
    refine lv_iload hx hb dX4_rank_40 (lv_at hl 3 rfl) ?_
    refine lv_aload_n hx hb dX4_rank_42 rfl (lv_at hl 0 rfl) ?_
    refine gf_X4_lookers  hx hb hts hown hK hM tw_713 dX4_rank_43 ?_
    refine wq_icmp_ge (tgt := 139) hx hb dX4_rank_46 (by decide) hf (fun hf => ?_) (fun hf => ?_)
    · refine lv_bipush (v := -9) hx hb dX4_rank_139 (by decide) ?_
      exact wt_iret hx hb hr hlk hK hM hf dX4_rank_141
    refine lv_iconst (v := 0) hx hb dX4_rank_49 (by decide) ?_
    refine lv_istore (lv' := [(5, .int (0 : Int32)), (0, .ref (B + 101)), (1, .int x1), (2, .int x2), (4, .int x4)]) hx hb dX4_rank_50 hl (by decide) rfl (fun ls hl => ?_)
    refine lv_iconst (v := 0) hx hb dX4_rank_52 (by decide) ?_
    refine lv_istore (lv' := [(6, .int (0 : Int32)), (5, .int (0 : Int32)), (0, .ref (B + 101)), (1, .int x1), (2, .int x2), (4, .int x4)]) hx hb dX4_rank_53 hl (by decide) rfl (fun ls hl => ?_)
    exact w_X4_rank_55 C ih _ _ _ _ _ _ _ hf hM (lv_sub hl [2, 3, 4, 5, 1, 0] rfl)
set_option maxHeartbeats 4000000 in
set_option maxRecDepth 100000 in
theorem w_X4_rank_26 (C : wt_C p s m args meth c RX4 cX4_rank 8 (some .int) D tI tII) {F : Nat} {x1 : Int32} {x2 : Int32} {t0 : Int32} {σ : Mem} {r : Int32} {σ' : Mem} {H : Heap} {locs : List Loc} {ls : Array Slot} (hf : j_X4_rank_26 F x1 x2 t0 σ = some (r, σ')) (hM : wt_St D tI tII B σ s H locs) (hl : lv_has ls 8 [(0, .ref (B + 101)), (1, .int x1), (2, .int x2)]) : W p l e rm_X4_rank s m args below meth c H locs 0 0 (MQ below (wt_Qi D tI tII B r σ') args s 0 0 (fun q => B ≤ q)) (F0 m 26 ls [.int t0]) := by
  obtain ⟨hx, hb, hts, hown, hml, hr, hlk, hK⟩ := id C
  replace hf := Eq.trans j_X4_rank_26_e.symm hf
  refine lv_istore_n (lv' := [(3, .int t0), (0, .ref (B + 101)), (1, .int x1), (2, .int x2)]) hx hb dX4_rank_26 rfl hl (by decide) rfl (fun ls hl => ?_)
  refine lv_iload_n hx hb dX4_rank_27 rfl (lv_at hl 0 rfl) ?_
  refine wq_if_ge (tgt := 37) hx hb dX4_rank_28 (by decide) hf (fun hf => ?_) (fun hf => ?_)
  · refine lv_iconst (v := 0) hx hb dX4_rank_37 (by decide) ?_
    refine lv_istore (lv' := [(4, .int (0 : Int32)), (3, .int t0), (0, .ref (B + 101)), (1, .int x1), (2, .int x2)]) hx hb dX4_rank_38 hl (by decide) rfl (fun ls hl => ?_)
    exact w_X4_rank_40 C _ _ _ _ _ _ hf hM (lv_sub hl [2, 3, 4, 0] rfl)
  refine lv_aload_n hx hb dX4_rank_31 rfl (lv_at hl 1 rfl) ?_
  refine lv_iload_n hx hb dX4_rank_32 rfl (lv_at hl 0 rfl) ?_
  refine wt_callVi (As := [.int t0]) (rest := []) hx hb hml hts hown hK hM wt_rc_X4 cw_X4_143 hd_X4_refuse rfl ⟨qz_b rfl, qz_b rfl⟩ ⟨rfl, rfl⟩ hl.1 rfl (qz_b rfl) dX4_rank_33 hf (fun _ _ h9 => c_X4_refuse h9) (fun r4 s5 H locs hf hM => ?_)
  exact wt_iret hx hb hr hlk hK hM hf dX4_rank_36
set_option maxHeartbeats 4000000 in
set_option maxRecDepth 100000 in
theorem w_X4_rank_0 (C : wt_C p s m args meth c RX4 cX4_rank 8 (some .int) D tI tII) {F : Nat} {x1 : Int32} {x2 : Int32} {σ : Mem} {r : Int32} {σ' : Mem} {H : Heap} {locs : List Loc} {ls : Array Slot} (hf : f_X4_rank F x1 x2 σ = some (r, σ')) (hM : wt_St D tI tII B σ s H locs) (hl : lv_has ls 8 [(0, .ref (B + 101)), (1, .int x1), (2, .int x2)]) : W p l e rm_X4_rank s m args below meth c H locs 0 0 (MQ below (wt_Qi D tI tII B r σ') args s 0 0 (fun q => B ≤ q)) (F0 m 0 ls []) := by
  obtain ⟨hx, hb, hts, hown, hml, hr, hlk, hK⟩ := id C
  replace hf := Eq.trans f_X4_rank_e.symm hf
  refine lv_aload_n hx hb dX4_rank_0 rfl (lv_at hl 0 rfl) ?_
  refine lv_iconst (v := 0) hx hb dX4_rank_1 (by decide) ?_
  refine pf_X4_thrown  hx hb hts hown hK hM tw_720 dX4_rank_2 hf (fun s6 H locs hf hM => ?_)
  refine lv_iload_n hx hb dX4_rank_5 rfl (lv_at hl 1 rfl) ?_
  refine wt_callSi (As := [.int x1]) (rest := []) hx hb hml hts hown hK hM cw_X4_243 hd_X4_isView rfl ⟨qz_b rfl, qz_b rfl⟩ ⟨rfl, rfl⟩ hl.1 rfl (qz_b rfl) dX4_rank_6 hf (fun _ _ h9 => c_X4_isView h9) (fun r7 s8 H locs hf hM => ?_)
  refine wq_if_ne (tgt := 16) hx hb dX4_rank_9 (by decide) hf (fun hf => ?_) (fun hf => ?_)
  · refine lv_iload_n hx hb dX4_rank_16 rfl (lv_at hl 2 rfl) ?_
    refine wq_if_ge (tgt := 25) hx hb dX4_rank_17 (by decide) hf (fun hf => ?_) (fun hf => ?_)
    · refine lv_iconst (v := 0) hx hb dX4_rank_25 (by decide) ?_
      exact w_X4_rank_26 C hf hM hl
    refine lv_bipush (v := -4) hx hb dX4_rank_20 (by decide) ?_
    refine lv_goto (tgt := 26) hx hb dX4_rank_22 (by decide) ?_
    exact w_X4_rank_26 C hf hM hl
  refine lv_iconst (v := -1) hx hb dX4_rank_12 (by decide) ?_
  refine lv_goto (tgt := 26) hx hb dX4_rank_13 (by decide) ?_
  exact w_X4_rank_26 C hf hM hl
end
set_option maxHeartbeats 4000000 in
set_option maxRecDepth 100000 in
theorem c_X4_rank {l : Launch} {D : va_G} {tI tII : ClassId} {B F : Nat} {x1 : Int32} {x2 : Int32} {σ σ' : Mem} {r : Int32} (hf : f_X4_rank F x1 x2 σ = some (r, σ')) : wt_Mi l yX4_rank cX4_rank 8 (some .int) rm_X4_rank [.ref (B + 101), .int x1, .int x2] D tI tII B σ r σ' := by
  refine Met.ofW (cc := cX4_rank) (maxL := 8) (ret := (some .int)) (by decide) rfl ?_
  intro p e s m args below meth c s₁ B9 hml hv
  obtain ⟨rfl, hP, hK⟩ := hv
  have hl := lv_entry ([.ref (B + 101), .int x1, .int x2]) (n := 8) (qz_b rfl)
  rw [lg_entry_eq]
  generalize (lg_sl ([.ref (B + 101), .int x1, .int x2]) ++ List.replicate (8 - (lg_sl ([.ref (B + 101), .int x1, .int x2])).length) Slot.unset).toArray = ls at hl ⊢
  exact w_X4_rank_0 (wt_C_of B9 hml hK) hf ⟨hP, va_S.rf⟩ hl
section
variable {p : Program} {l : Launch} {e : Env} {s : State} {m : MethodId} {args : Array Value} {below : List Frame} {meth : Method} {c : Code} {D : va_G} {tI tII : ClassId} {B : Nat}
set_option maxHeartbeats 4000000 in
set_option maxRecDepth 100000 in
theorem w_X4_gap_109 (C : wt_C p s m args meth c RX4 cX4_gap 8 (some .int) D tI tII) {F : Nat} {k48 : Int32 → Int32 → Int32 → Mem → Option (Int32 × Mem)} {x1 : Int32} {x2 : Int32} {x5 : Int32} {x6 : Int32} {t0 : Int32} {σ : Mem} {r : Int32} {σ' : Mem} {H : Heap} {locs : List Loc} {ls : Array Slot} (hk48 : ∀ (x4 : Int32) (x5 : Int32) (x6 : Int32) (σ : Mem) (H : Heap) (locs : List Loc) (ls : Array Slot), k48 x4 x5 x6 σ = some (r, σ') → wt_St D tI tII B σ s H locs → lv_has ls 8 [(0, .ref (B + 101)), (1, .int x1), (2, .int x2), (4, .int x4), (5, .int x5), (6, .int x6)] → W p l e rm_X4_gap s m args below meth c H locs 0 0 (MQ below (wt_Qi D tI tII B r σ') args s 0 0 (fun q => B ≤ q)) (F0 m 48 ls [])) (hf : j_X4_gap_109 F k48 x1 x2 x5 x6 t0 σ = some (r, σ')) (hM : wt_St D tI tII B σ s H locs) (hl : lv_has ls 8 [(0, .ref (B + 101)), (1, .int x1), (2, .int x2), (5, .int x5), (6, .int x6)]) : W p l e rm_X4_gap s m args below meth c H locs 0 0 (MQ below (wt_Qi D tI tII B r σ') args s 0 0 (fun q => B ≤ q)) (F0 m 109 ls [.int t0]) := by
  obtain ⟨hx, hb, hts, hown, hml, hr, hlk, hK⟩ := id C
  replace hf := Eq.trans j_X4_gap_109_e.symm hf
  refine lv_istore (lv' := [(4, .int t0), (0, .ref (B + 101)), (1, .int x1), (2, .int x2), (5, .int x5), (6, .int x6)]) hx hb dX4_gap_109 hl (by decide) rfl (fun ls hl => ?_)
  refine lv_iinc (v := (x6 + (1 : Int32))) (lv' := [(6, .int (x6 + (1 : Int32))), (4, .int t0), (0, .ref (B + 101)), (1, .int x1), (2, .int x2), (5, .int x5)]) hx hb dX4_gap_111 hl (k := 5) rfl rfl (by decide) rfl (fun ls hl => ?_)
  refine lv_goto (tgt := 48) hx hb dX4_gap_114 (by decide) ?_
  exact hk48 _ _ _ _ _ _ _ hf hM (lv_sub hl [2, 3, 4, 1, 5, 0] rfl)
set_option maxHeartbeats 4000000 in
set_option maxRecDepth 100000 in
theorem w_X4_gap_93 (C : wt_C p s m args meth c RX4 cX4_gap 8 (some .int) D tI tII) {F : Nat} {k48 : Int32 → Int32 → Int32 → Mem → Option (Int32 × Mem)} {x1 : Int32} {x2 : Int32} {x4 : Int32} {x6 : Int32} {x7 : Int32} {t0 : Int32} {σ : Mem} {r : Int32} {σ' : Mem} {H : Heap} {locs : List Loc} {ls : Array Slot} (hk48 : ∀ (x4 : Int32) (x5 : Int32) (x6 : Int32) (σ : Mem) (H : Heap) (locs : List Loc) (ls : Array Slot), k48 x4 x5 x6 σ = some (r, σ') → wt_St D tI tII B σ s H locs → lv_has ls 8 [(0, .ref (B + 101)), (1, .int x1), (2, .int x2), (4, .int x4), (5, .int x5), (6, .int x6)] → W p l e rm_X4_gap s m args below meth c H locs 0 0 (MQ below (wt_Qi D tI tII B r σ') args s 0 0 (fun q => B ≤ q)) (F0 m 48 ls [])) (hf : j_X4_gap_93 F k48 x1 x2 x4 x6 x7 t0 σ = some (r, σ')) (hM : wt_St D tI tII B σ s H locs) (hl : lv_has ls 8 [(0, .ref (B + 101)), (1, .int x1), (2, .int x2), (4, .int x4), (6, .int x6), (7, .int x7)]) : W p l e rm_X4_gap s m args below meth c H locs 0 0 (MQ below (wt_Qi D tI tII B r σ') args s 0 0 (fun q => B ≤ q)) (F0 m 93 ls [.int t0]) := by
  obtain ⟨hx, hb, hts, hown, hml, hr, hlk, hK⟩ := id C
  replace hf := Eq.trans j_X4_gap_93_e.symm hf
  refine lv_istore (lv' := [(5, .int t0), (0, .ref (B + 101)), (1, .int x1), (2, .int x2), (4, .int x4), (6, .int x6), (7, .int x7)]) hx hb dX4_gap_93 hl (by decide) rfl (fun ls hl => ?_)
  refine lv_iload hx hb dX4_gap_95 (lv_at hl 6 rfl) ?_
  refine lv_iload hx hb dX4_gap_97 (lv_at hl 4 rfl) ?_
  refine wq_icmp_le (tgt := 107) hx hb dX4_gap_99 (by decide) hf (fun hf => ?_) (fun hf => ?_)
  · refine lv_iload hx hb dX4_gap_107 (lv_at hl 4 rfl) ?_
    exact w_X4_gap_109 C hk48 hf hM (lv_sub hl [1, 2, 3, 0, 5] rfl)
  refine lv_iload hx hb dX4_gap_102 (lv_at hl 6 rfl) ?_
  refine lv_goto (tgt := 109) hx hb dX4_gap_104 (by decide) ?_
  exact w_X4_gap_109 C hk48 hf hM (lv_sub hl [1, 2, 3, 0, 5] rfl)
set_option maxHeartbeats 4000000 in
set_option maxRecDepth 100000 in
theorem w_X4_gap_48 (C : wt_C p s m args meth c RX4 cX4_gap 8 (some .int) D tI tII) {F : Nat} {x1 : Int32} {x2 : Int32} {r : Int32} {σ' : Mem} : ∀ (N : Nat) (x4 : Int32) (x5 : Int32) (x6 : Int32) (σ : Mem) (H : Heap) (locs : List Loc) (ls : Array Slot), lp_X4_gap_48 F x1 x2 N x4 x5 x6 σ = some (r, σ') → wt_St D tI tII B σ s H locs → lv_has ls 8 [(0, .ref (B + 101)), (1, .int x1), (2, .int x2), (4, .int x4), (5, .int x5), (6, .int x6)] → W p l e rm_X4_gap s m args below meth c H locs 0 0 (MQ below (wt_Qi D tI tII B r σ') args s 0 0 (fun q => B ≤ q)) (F0 m 48 ls []) := by
  obtain ⟨hx, hb, hts, hown, hml, hr, hlk, hK⟩ := id C
  intro N
  induction N with
  | zero => intro x4 x5 x6 σ H locs ls hf; exact wt_none (show (none : Option (Int32 × Mem)) = some (r, σ') from hf)
  | succ N ih =>
    intro x4 x5 x6 σ H locs ls hf hM hl
    replace hf := Eq.trans lp_X4_gap_48_s.symm hf
    refine lv_iload hx hb dX4_gap_48 (lv_at hl 5 rfl) ?_
    refine lv_aload_n hx hb dX4_gap_50 rfl (lv_at hl 0 rfl) ?_
    refine gf_X4_lookers  hx hb hts hown hK hM tw_713 dX4_gap_51 ?_
    refine wq_icmp_ge (tgt := 117) hx hb dX4_gap_54 (by decide) hf (fun hf => ?_) (fun hf => ?_)
    · refine lv_iload hx hb dX4_gap_117 (lv_at hl 3 rfl) ?_
      refine lv_iload hx hb dX4_gap_119 (lv_at hl 4 rfl) ?_
      refine lv_isub hx hb dX4_gap_121 ?_
      exact wt_iret hx hb hr hlk hK hM hf dX4_gap_122
    refine lv_aload_n hx hb dX4_gap_57 rfl (lv_at hl 0 rfl) ?_
    refine lv_iload hx hb dX4_gap_58 (lv_at hl 5 rfl) ?_
    refine lv_iload_n hx hb dX4_gap_60 rfl (lv_at hl 1 rfl) ?_
    refine lv_iload_n hx hb dX4_gap_61 rfl (lv_at hl 2 rfl) ?_
    refine wt_callVi (As := [.int x6, .int x1, .int x2]) (rest := []) hx hb hml hts hown hK hM wt_rc_X4 cw_X4_291 hd_X4_countIn rfl ⟨qz_b rfl, qz_b rfl⟩ ⟨rfl, rfl⟩ hl.1 rfl (qz_b rfl) dX4_gap_62 hf (fun _ _ h9 => c_X4_countIn h9) (fun r1 s2 H locs hf hM => ?_)
    refine lv_istore (lv' := [(7, .int r1), (0, .ref (B + 101)), (1, .int x1), (2, .int x2), (4, .int x4), (5, .int x5), (6, .int x6)]) hx hb dX4_gap_65 hl (by decide) rfl (fun ls hl => ?_)
    refine lv_iload hx hb dX4_gap_67 (lv_at hl 0 rfl) ?_
    refine lv_iload hx hb dX4_gap_69 (lv_at hl 4 rfl) ?_
    refine wq_icmp_le (tgt := 79) hx hb dX4_gap_71 (by decide) hf (fun hf => ?_) (fun hf => ?_)
    · refine lv_iload hx hb dX4_gap_79 (lv_at hl 0 rfl) ?_
      refine lv_iload hx hb dX4_gap_81 (lv_at hl 5 rfl) ?_
      refine wq_icmp_le (tgt := 91) hx hb dX4_gap_83 (by decide) hf (fun hf => ?_) (fun hf => ?_)
      · refine lv_iload hx hb dX4_gap_91 (lv_at hl 5 rfl) ?_
        exact w_X4_gap_93 C ih hf hM (lv_sub hl [1, 2, 3, 4, 6, 0] rfl)
      refine lv_iload hx hb dX4_gap_86 (lv_at hl 0 rfl) ?_
      refine lv_goto (tgt := 93) hx hb dX4_gap_88 (by decide) ?_
      exact w_X4_gap_93 C ih hf hM (lv_sub hl [1, 2, 3, 4, 6, 0] rfl)
    refine lv_iload hx hb dX4_gap_74 (lv_at hl 4 rfl) ?_
    refine lv_goto (tgt := 93) hx hb dX4_gap_76 (by decide) ?_
    exact w_X4_gap_93 C ih hf hM (lv_sub hl [1, 2, 3, 4, 6, 0] rfl)
set_option maxHeartbeats 4000000 in
set_option maxRecDepth 100000 in
theorem w_X4_gap_24 (C : wt_C p s m args meth c RX4 cX4_gap 8 (some .int) D tI tII) {F : Nat} {x1 : Int32} {x2 : Int32} {t0 : Int32} {σ : Mem} {r : Int32} {σ' : Mem} {H : Heap} {locs : List Loc} {ls : Array Slot} (hf : j_X4_gap_24 F x1 x2 t0 σ = some (r, σ')) (hM : wt_St D tI tII B σ s H locs) (hl : lv_has ls 8 [(0, .ref (B + 101)), (1, .int x1), (2, .int x2)]) : W p l e rm_X4_gap s m args below meth c H locs 0 0 (MQ below (wt_Qi D tI tII B r σ') args s 0 0 (fun q => B ≤ q)) (F0 m 24 ls [.int t0]) := by
  obtain ⟨hx, hb, hts, hown, hml, hr, hlk, hK⟩ := id C
  replace hf := Eq.trans j_X4_gap_24_e.symm hf
  refine lv_istore_n (lv' := [(3, .int t0), (0, .ref (B + 101)), (1, .int x1), (2, .int x2)]) hx hb dX4_gap_24 rfl hl (by decide) rfl (fun ls hl => ?_)
  refine lv_iload_n hx hb dX4_gap_25 rfl (lv_at hl 0 rfl) ?_
  refine wq_if_ge (tgt := 35) hx hb dX4_gap_26 (by decide) hf (fun hf => ?_) (fun hf => ?_)
  · refine lv_aload_n hx hb dX4_gap_35 rfl (lv_at hl 1 rfl) ?_
    refine wt_callVv (As := []) (rest := []) hx hb hml hts hown hK hM wt_rc_X4 cw_X4_134 hd_X4_layBrings rfl ⟨qz_b rfl, qz_b rfl⟩ ⟨rfl, rfl⟩ hl.1 rfl (qz_b rfl) dX4_gap_36 hf (fun _ _ h9 => c_X4_layBrings h9) (fun r3 s4 H locs hf hM => ?_)
    refine lv_iconst (v := 0) hx hb dX4_gap_39 (by decide) ?_
    refine lv_istore (lv' := [(4, .int (0 : Int32)), (3, .int t0), (0, .ref (B + 101)), (1, .int x1), (2, .int x2)]) hx hb dX4_gap_40 hl (by decide) rfl (fun ls hl => ?_)
    refine lv_iconst (v := 0) hx hb dX4_gap_42 (by decide) ?_
    refine lv_istore (lv' := [(5, .int (0 : Int32)), (4, .int (0 : Int32)), (3, .int t0), (0, .ref (B + 101)), (1, .int x1), (2, .int x2)]) hx hb dX4_gap_43 hl (by decide) rfl (fun ls hl => ?_)
    refine lv_iconst (v := 0) hx hb dX4_gap_45 (by decide) ?_
    refine lv_istore (lv' := [(6, .int (0 : Int32)), (5, .int (0 : Int32)), (4, .int (0 : Int32)), (3, .int t0), (0, .ref (B + 101)), (1, .int x1), (2, .int x2)]) hx hb dX4_gap_46 hl (by decide) rfl (fun ls hl => ?_)
    exact w_X4_gap_48 C _ _ _ _ _ _ _ _ hf hM (lv_sub hl [4, 5, 6, 2, 1, 0] rfl)
  refine lv_aload_n hx hb dX4_gap_29 rfl (lv_at hl 1 rfl) ?_
  refine lv_iload_n hx hb dX4_gap_30 rfl (lv_at hl 0 rfl) ?_
  refine wt_callVi (As := [.int t0]) (rest := []) hx hb hml hts hown hK hM wt_rc_X4 cw_X4_143 hd_X4_refuse rfl ⟨qz_b rfl, qz_b rfl⟩ ⟨rfl, rfl⟩ hl.1 rfl (qz_b rfl) dX4_gap_31 hf (fun _ _ h9 => c_X4_refuse h9) (fun r5 s6 H locs hf hM => ?_)
  exact wt_iret hx hb hr hlk hK hM hf dX4_gap_34
set_option maxHeartbeats 4000000 in
set_option maxRecDepth 100000 in
theorem w_X4_gap_0 (C : wt_C p s m args meth c RX4 cX4_gap 8 (some .int) D tI tII) {F : Nat} {x1 : Int32} {x2 : Int32} {σ : Mem} {r : Int32} {σ' : Mem} {H : Heap} {locs : List Loc} {ls : Array Slot} (hf : f_X4_gap F x1 x2 σ = some (r, σ')) (hM : wt_St D tI tII B σ s H locs) (hl : lv_has ls 8 [(0, .ref (B + 101)), (1, .int x1), (2, .int x2)]) : W p l e rm_X4_gap s m args below meth c H locs 0 0 (MQ below (wt_Qi D tI tII B r σ') args s 0 0 (fun q => B ≤ q)) (F0 m 0 ls []) := by
  obtain ⟨hx, hb, hts, hown, hml, hr, hlk, hK⟩ := id C
  replace hf := Eq.trans f_X4_gap_e.symm hf
  refine lv_aload_n hx hb dX4_gap_0 rfl (lv_at hl 0 rfl) ?_
  refine lv_iconst (v := 0) hx hb dX4_gap_1 (by decide) ?_
  refine pf_X4_thrown  hx hb hts hown hK hM tw_720 dX4_gap_2 hf (fun s7 H locs hf hM => ?_)
  refine lv_iload_n hx hb dX4_gap_5 rfl (lv_at hl 1 rfl) ?_
  refine wt_callSi (As := [.int x1]) (rest := []) hx hb hml hts hown hK hM cw_X4_243 hd_X4_isView rfl ⟨qz_b rfl, qz_b rfl⟩ ⟨rfl, rfl⟩ hl.1 rfl (qz_b rfl) dX4_gap_6 hf (fun _ _ h9 => c_X4_isView h9) (fun r8 s9 H locs hf hM => ?_)
  refine wq_if_eq (tgt := 23) hx hb dX4_gap_9 (by decide) hf (fun hf => ?_) (fun hf => ?_)
  · refine lv_iconst (v := -1) hx hb dX4_gap_23 (by decide) ?_
    exact w_X4_gap_24 C hf hM hl
  refine lv_iload_n hx hb dX4_gap_12 rfl (lv_at hl 2 rfl) ?_
  refine lv_iconst (v := 0) hx hb dX4_gap_13 (by decide) ?_
  refine lv_sipush (v := 999) hx hb dX4_gap_14 (by decide) ?_
  refine wt_callSi (As := [.int x2, .int (0 : Int32), .int (999 : Int32)]) (rest := []) hx hb hml hts hown hK hM cw_X4_231 hd_X4_wrongNumber rfl ⟨qz_b rfl, qz_b rfl⟩ ⟨rfl, rfl⟩ hl.1 rfl (qz_b rfl) dX4_gap_17 hf (fun _ _ h9 => c_X4_wrongNumber h9) (fun r10 s11 H locs hf hM => ?_)
  refine lv_goto (tgt := 24) hx hb dX4_gap_20 (by decide) ?_
  exact w_X4_gap_24 C hf hM hl
end
set_option maxHeartbeats 4000000 in
set_option maxRecDepth 100000 in
theorem c_X4_gap {l : Launch} {D : va_G} {tI tII : ClassId} {B F : Nat} {x1 : Int32} {x2 : Int32} {σ σ' : Mem} {r : Int32} (hf : f_X4_gap F x1 x2 σ = some (r, σ')) : wt_Mi l yX4_gap cX4_gap 8 (some .int) rm_X4_gap [.ref (B + 101), .int x1, .int x2] D tI tII B σ r σ' := by
  refine Met.ofW (cc := cX4_gap) (maxL := 8) (ret := (some .int)) (by decide) rfl ?_
  intro p e s m args below meth c s₁ B9 hml hv
  obtain ⟨rfl, hP, hK⟩ := hv
  have hl := lv_entry ([.ref (B + 101), .int x1, .int x2]) (n := 8) (qz_b rfl)
  rw [lg_entry_eq]
  generalize (lg_sl ([.ref (B + 101), .int x1, .int x2]) ++ List.replicate (8 - (lg_sl ([.ref (B + 101), .int x1, .int x2])).length) Slot.unset).toArray = ls at hl ⊢
  exact w_X4_gap_0 (wt_C_of B9 hml hK) hf ⟨hP, va_S.rf⟩ hl
section
variable {p : Program} {l : Launch} {e : Env} {s : State} {m : MethodId} {args : Array Value} {below : List Frame} {meth : Method} {c : Code} {D : va_G} {tI tII : ClassId} {B : Nat}
set_option maxHeartbeats 4000000 in
set_option maxRecDepth 100000 in
theorem w_X4_wasted_125 (C : wt_C p s m args meth c RX4 cX4_wasted 8 (some .int) D tI tII) {F : Nat} {k40 : Int32 → Int32 → Mem → Option (Int32 × Mem)} {x1 : Int32} {x2 : Int32} {x5 : Int32} {t0 : Int32} {t1 : Int32} {σ : Mem} {r : Int32} {σ' : Mem} {H : Heap} {locs : List Loc} {ls : Array Slot} (hk40 : ∀ (x4 : Int32) (x5 : Int32) (σ : Mem) (H : Heap) (locs : List Loc) (ls : Array Slot), k40 x4 x5 σ = some (r, σ') → wt_St D tI tII B σ s H locs → lv_has ls 8 [(0, .ref (B + 101)), (1, .int x1), (2, .int x2), (4, .int x4), (5, .int x5)] → W p l e rm_X4_wasted s m args below meth c H locs 0 0 (MQ below (wt_Qi D tI tII B r σ') args s 0 0 (fun q => B ≤ q)) (F0 m 40 ls [])) (hf : j_X4_wasted_125 F k40 x1 x2 x5 t0 t1 σ = some (r, σ')) (hM : wt_St D tI tII B σ s H locs) (hl : lv_has ls 8 [(0, .ref (B + 101)), (1, .int x1), (2, .int x2), (5, .int x5)]) : W p l e rm_X4_wasted s m args below meth c H locs 0 0 (MQ below (wt_Qi D tI tII B r σ') args s 0 0 (fun q => B ≤ q)) (F0 m 125 ls [.int t1, .int t0]) := by
  obtain ⟨hx, hb, hts, hown, hml, hr, hlk, hK⟩ := id C
  replace hf := Eq.trans j_X4_wasted_125_e.symm hf
  refine lv_ior hx hb dX4_wasted_125 ?_
  refine lv_istore (lv' := [(4, .int (t0 ||| t1)), (0, .ref (B + 101)), (1, .int x1), (2, .int x2), (5, .int x5)]) hx hb dX4_wasted_126 hl (by decide) rfl (fun ls hl => ?_)
  refine lv_iinc (v := (x5 + (1 : Int32))) (lv' := [(5, .int (x5 + (1 : Int32))), (4, .int (t0 ||| t1)), (0, .ref (B + 101)), (1, .int x1), (2, .int x2)]) hx hb dX4_wasted_128 hl (k := 4) rfl rfl (by decide) rfl (fun ls hl => ?_)
  refine lv_goto (tgt := 40) hx hb dX4_wasted_131 (by decide) ?_
  exact hk40 _ _ _ _ _ _ hf hM (lv_sub hl [2, 3, 4, 1, 0] rfl)
set_option maxHeartbeats 4000000 in
set_option maxRecDepth 100000 in
theorem w_X4_wasted_124 (C : wt_C p s m args meth c RX4 cX4_wasted 8 (some .int) D tI tII) {F : Nat} {k40 : Int32 → Int32 → Mem → Option (Int32 × Mem)} {x1 : Int32} {x2 : Int32} {x5 : Int32} {t0 : Int32} {σ : Mem} {r : Int32} {σ' : Mem} {H : Heap} {locs : List Loc} {ls : Array Slot} (hk40 : ∀ (x4 : Int32) (x5 : Int32) (σ : Mem) (H : Heap) (locs : List Loc) (ls : Array Slot), k40 x4 x5 σ = some (r, σ') → wt_St D tI tII B σ s H locs → lv_has ls 8 [(0, .ref (B + 101)), (1, .int x1), (2, .int x2), (4, .int x4), (5, .int x5)] → W p l e rm_X4_wasted s m args below meth c H locs 0 0 (MQ below (wt_Qi D tI tII B r σ') args s 0 0 (fun q => B ≤ q)) (F0 m 40 ls [])) (hf : j_X4_wasted_124 F k40 x1 x2 x5 t0 σ = some (r, σ')) (hM : wt_St D tI tII B σ s H locs) (hl : lv_has ls 8 [(0, .ref (B + 101)), (1, .int x1), (2, .int x2), (5, .int x5)]) : W p l e rm_X4_wasted s m args below meth c H locs 0 0 (MQ below (wt_Qi D tI tII B r σ') args s 0 0 (fun q => B ≤ q)) (F0 m 124 ls [.int t0]) := by
  obtain ⟨hx, hb, hts, hown, hml, hr, hlk, hK⟩ := id C
  replace hf := Eq.trans j_X4_wasted_124_e.symm hf
  refine lv_iconst (v := 0) hx hb dX4_wasted_124 (by decide) ?_
  exact w_X4_wasted_125 C hk40 hf hM hl
set_option maxHeartbeats 4000000 in
set_option maxRecDepth 100000 in
theorem w_X4_wasted_114 (C : wt_C p s m args meth c RX4 cX4_wasted 8 (some .int) D tI tII) {F : Nat} {k40 : Int32 → Int32 → Mem → Option (Int32 × Mem)} {x1 : Int32} {x2 : Int32} {x5 : Int32} {t0 : Int32} {t1 : Int32} {t2 : Int32} {σ : Mem} {r : Int32} {σ' : Mem} {H : Heap} {locs : List Loc} {ls : Array Slot} (hk40 : ∀ (x4 : Int32) (x5 : Int32) (σ : Mem) (H : Heap) (locs : List Loc) (ls : Array Slot), k40 x4 x5 σ = some (r, σ') → wt_St D tI tII B σ s H locs → lv_has ls 8 [(0, .ref (B + 101)), (1, .int x1), (2, .int x2), (4, .int x4), (5, .int x5)] → W p l e rm_X4_wasted s m args below meth c H locs 0 0 (MQ below (wt_Qi D tI tII B r σ') args s 0 0 (fun q => B ≤ q)) (F0 m 40 ls [])) (hf : j_X4_wasted_114 F k40 x1 x2 x5 t0 t1 t2 σ = some (r, σ')) (hM : wt_St D tI tII B σ s H locs) (hl : lv_has ls 8 [(0, .ref (B + 101)), (1, .int x1), (2, .int x2), (5, .int x5)]) : W p l e rm_X4_wasted s m args below meth c H locs 0 0 (MQ below (wt_Qi D tI tII B r σ') args s 0 0 (fun q => B ≤ q)) (F0 m 114 ls [.int t2, .int t1, .int t0]) := by
  obtain ⟨hx, hb, hts, hown, hml, hr, hlk, hK⟩ := id C
  replace hf := Eq.trans j_X4_wasted_114_e.symm hf
  refine wq_icmp_ne (tgt := 124) hx hb dX4_wasted_114 (by decide) hf (fun hf => ?_) (fun hf => ?_)
  · exact w_X4_wasted_124 C hk40 hf hM hl
  refine lv_iconst (v := 1) hx hb dX4_wasted_117 (by decide) ?_
  refine lv_iload hx hb dX4_wasted_118 (lv_at hl 3 rfl) ?_
  refine lv_ishl hx hb dX4_wasted_120 ?_
  refine lv_goto (tgt := 125) hx hb dX4_wasted_121 (by decide) ?_
  exact w_X4_wasted_125 C hk40 hf hM hl
set_option maxHeartbeats 4000000 in
set_option maxRecDepth 100000 in
theorem w_X4_wasted_99 (C : wt_C p s m args meth c RX4 cX4_wasted 8 (some .int) D tI tII) {F : Nat} {k40 : Int32 → Int32 → Mem → Option (Int32 × Mem)} {x1 : Int32} {x2 : Int32} {x5 : Int32} {x7 : Int32} {t0 : Int32} {t1 : Int32} {t2 : Int32} {σ : Mem} {r : Int32} {σ' : Mem} {H : Heap} {locs : List Loc} {ls : Array Slot} (hk40 : ∀ (x4 : Int32) (x5 : Int32) (σ : Mem) (H : Heap) (locs : List Loc) (ls : Array Slot), k40 x4 x5 σ = some (r, σ') → wt_St D tI tII B σ s H locs → lv_has ls 8 [(0, .ref (B + 101)), (1, .int x1), (2, .int x2), (4, .int x4), (5, .int x5)] → W p l e rm_X4_wasted s m args below meth c H locs 0 0 (MQ below (wt_Qi D tI tII B r σ') args s 0 0 (fun q => B ≤ q)) (F0 m 40 ls [])) (hf : j_X4_wasted_99 F k40 x1 x2 x5 x7 t0 t1 t2 σ = some (r, σ')) (hM : wt_St D tI tII B σ s H locs) (hl : lv_has ls 8 [(0, .ref (B + 101)), (1, .int x1), (2, .int x2), (5, .int x5), (7, .int x7)]) : W p l e rm_X4_wasted s m args below meth c H locs 0 0 (MQ below (wt_Qi D tI tII B r σ') args s 0 0 (fun q => B ≤ q)) (F0 m 99 ls [.int t2, .int t1, .int t0]) := by
  obtain ⟨hx, hb, hts, hown, hml, hr, hlk, hK⟩ := id C
  replace hf := Eq.trans j_X4_wasted_99_e.symm hf
  refine wq_icmp_ne (tgt := 124) hx hb dX4_wasted_99 (by decide) hf (fun hf => ?_) (fun hf => ?_)
  · exact w_X4_wasted_124 C hk40 hf hM (lv_sub hl [0, 1, 2, 3] rfl)
  refine lv_iload hx hb dX4_wasted_102 (lv_at hl 4 rfl) ?_
  refine lv_iload_n hx hb dX4_wasted_104 rfl (lv_at hl 2 rfl) ?_
  refine lv_iconst (v := 1) hx hb dX4_wasted_105 (by decide) ?_
  refine wq_icmp_ne (tgt := 113) hx hb dX4_wasted_106 (by decide) hf (fun hf => ?_) (fun hf => ?_)
  · refine lv_iconst (v := 0) hx hb dX4_wasted_113 (by decide) ?_
    exact w_X4_wasted_114 C hk40 hf hM (lv_sub hl [0, 1, 2, 3] rfl)
  refine lv_iconst (v := 1) hx hb dX4_wasted_109 (by decide) ?_
  refine lv_goto (tgt := 114) hx hb dX4_wasted_110 (by decide) ?_
  exact w_X4_wasted_114 C hk40 hf hM (lv_sub hl [0, 1, 2, 3] rfl)
set_option maxHeartbeats 4000000 in
set_option maxRecDepth 100000 in
theorem w_X4_wasted_84 (C : wt_C p s m args meth c RX4 cX4_wasted 8 (some .int) D tI tII) {F : Nat} {k40 : Int32 → Int32 → Mem → Option (Int32 × Mem)} {x1 : Int32} {x2 : Int32} {x4 : Int32} {x5 : Int32} {x6 : Int32} {t0 : Int32} {σ : Mem} {r : Int32} {σ' : Mem} {H : Heap} {locs : List Loc} {ls : Array Slot} (hk40 : ∀ (x4 : Int32) (x5 : Int32) (σ : Mem) (H : Heap) (locs : List Loc) (ls : Array Slot), k40 x4 x5 σ = some (r, σ') → wt_St D tI tII B σ s H locs → lv_has ls 8 [(0, .ref (B + 101)), (1, .int x1), (2, .int x2), (4, .int x4), (5, .int x5)] → W p l e rm_X4_wasted s m args below meth c H locs 0 0 (MQ below (wt_Qi D tI tII B r σ') args s 0 0 (fun q => B ≤ q)) (F0 m 40 ls [])) (hf : j_X4_wasted_84 F k40 x1 x2 x4 x5 x6 t0 σ = some (r, σ')) (hM : wt_St D tI tII B σ s H locs) (hl : lv_has ls 8 [(0, .ref (B + 101)), (1, .int x1), (2, .int x2), (4, .int x4), (5, .int x5), (6, .int x6)]) : W p l e rm_X4_wasted s m args below meth c H locs 0 0 (MQ below (wt_Qi D tI tII B r σ') args s 0 0 (fun q => B ≤ q)) (F0 m 84 ls [.int t0]) := by
  obtain ⟨hx, hb, hts, hown, hml, hr, hlk, hK⟩ := id C
  replace hf := Eq.trans j_X4_wasted_84_e.symm hf
  refine lv_istore (lv' := [(7, .int t0), (0, .ref (B + 101)), (1, .int x1), (2, .int x2), (4, .int x4), (5, .int x5), (6, .int x6)]) hx hb dX4_wasted_84 hl (by decide) rfl (fun ls hl => ?_)
  refine lv_iload hx hb dX4_wasted_86 (lv_at hl 4 rfl) ?_
  refine lv_iload hx hb dX4_wasted_88 (lv_at hl 6 rfl) ?_
  refine lv_iload_n hx hb dX4_wasted_90 rfl (lv_at hl 3 rfl) ?_
  refine wq_if_ne (tgt := 98) hx hb dX4_wasted_91 (by decide) hf (fun hf => ?_) (fun hf => ?_)
  · refine lv_iconst (v := 0) hx hb dX4_wasted_98 (by decide) ?_
    exact w_X4_wasted_99 C hk40 hf hM (lv_sub hl [1, 2, 3, 5, 0] rfl)
  refine lv_iconst (v := 1) hx hb dX4_wasted_94 (by decide) ?_
  refine lv_goto (tgt := 99) hx hb dX4_wasted_95 (by decide) ?_
  exact w_X4_wasted_99 C hk40 hf hM (lv_sub hl [1, 2, 3, 5, 0] rfl)
set_option maxHeartbeats 4000000 in
set_option maxRecDepth 100000 in
theorem w_X4_wasted_67 (C : wt_C p s m args meth c RX4 cX4_wasted 8 (some .int) D tI tII) {F : Nat} {k40 : Int32 → Int32 → Mem → Option (Int32 × Mem)} {x1 : Int32} {x2 : Int32} {x4 : Int32} {x5 : Int32} {t0 : Int32} {σ : Mem} {r : Int32} {σ' : Mem} {H : Heap} {locs : List Loc} {ls : Array Slot} (hk40 : ∀ (x4 : Int32) (x5 : Int32) (σ : Mem) (H : Heap) (locs : List Loc) (ls : Array Slot), k40 x4 x5 σ = some (r, σ') → wt_St D tI tII B σ s H locs → lv_has ls 8 [(0, .ref (B + 101)), (1, .int x1), (2, .int x2), (4, .int x4), (5, .int x5)] → W p l e rm_X4_wasted s m args below meth c H locs 0 0 (MQ below (wt_Qi D tI tII B r σ') args s 0 0 (fun q => B ≤ q)) (F0 m 40 ls [])) (hf : j_X4_wasted_67 F k40 x1 x2 x4 x5 t0 σ = some (r, σ')) (hM : wt_St D tI tII B σ s H locs) (hl : lv_has ls 8 [(0, .ref (B + 101)), (1, .int x1), (2, .int x2), (4, .int x4), (5, .int x5)]) : W p l e rm_X4_wasted s m args below meth c H locs 0 0 (MQ below (wt_Qi D tI tII B r σ') args s 0 0 (fun q => B ≤ q)) (F0 m 67 ls [.int t0]) := by
  obtain ⟨hx, hb, hts, hown, hml, hr, hlk, hK⟩ := id C
  replace hf := Eq.trans j_X4_wasted_67_e.symm hf
  refine lv_istore (lv' := [(6, .int t0), (0, .ref (B + 101)), (1, .int x1), (2, .int x2), (4, .int x4), (5, .int x5)]) hx hb dX4_wasted_67 hl (by decide) rfl (fun ls hl => ?_)
  refine lv_aload_n hx hb dX4_wasted_69 rfl (lv_at hl 1 rfl) ?_
  refine lv_iload_n hx hb dX4_wasted_70 rfl (lv_at hl 2 rfl) ?_
  refine lv_iload hx hb dX4_wasted_71 (lv_at hl 5 rfl) ?_
  refine wt_callVi (As := [.int x1, .int x5]) (rest := []) hx hb hml hts hown hK hM wt_rc_X4 cw_X4_108 hd_X4_pullOf rfl ⟨qz_b rfl, qz_b rfl⟩ ⟨rfl, rfl⟩ hl.1 rfl (qz_b rfl) dX4_wasted_73 hf (fun _ _ h9 => c_X4_pullOf h9) (fun r1 s2 H locs hf hM => ?_)
  refine wq_if_le (tgt := 83) hx hb dX4_wasted_76 (by decide) hf (fun hf => ?_) (fun hf => ?_)
  · refine lv_iconst (v := 0) hx hb dX4_wasted_83 (by decide) ?_
    exact w_X4_wasted_84 C hk40 hf hM (lv_sub hl [1, 2, 3, 4, 5, 0] rfl)
  refine lv_iconst (v := 1) hx hb dX4_wasted_79 (by decide) ?_
  refine lv_goto (tgt := 84) hx hb dX4_wasted_80 (by decide) ?_
  exact w_X4_wasted_84 C hk40 hf hM (lv_sub hl [1, 2, 3, 4, 5, 0] rfl)
set_option maxHeartbeats 4000000 in
set_option maxRecDepth 100000 in
theorem w_X4_wasted_40 (C : wt_C p s m args meth c RX4 cX4_wasted 8 (some .int) D tI tII) {F : Nat} {x1 : Int32} {x2 : Int32} {r : Int32} {σ' : Mem} : ∀ (N : Nat) (x4 : Int32) (x5 : Int32) (σ : Mem) (H : Heap) (locs : List Loc) (ls : Array Slot), lp_X4_wasted_40 F x1 x2 N x4 x5 σ = some (r, σ') → wt_St D tI tII B σ s H locs → lv_has ls 8 [(0, .ref (B + 101)), (1, .int x1), (2, .int x2), (4, .int x4), (5, .int x5)] → W p l e rm_X4_wasted s m args below meth c H locs 0 0 (MQ below (wt_Qi D tI tII B r σ') args s 0 0 (fun q => B ≤ q)) (F0 m 40 ls []) := by
  obtain ⟨hx, hb, hts, hown, hml, hr, hlk, hK⟩ := id C
  intro N
  induction N with
  | zero => intro x4 x5 σ H locs ls hf; exact wt_none (show (none : Option (Int32 × Mem)) = some (r, σ') from hf)
  | succ N ih =>
    intro x4 x5 σ H locs ls hf hM hl
    replace hf := Eq.trans lp_X4_wasted_40_s.symm hf
    refine lv_iload hx hb dX4_wasted_40 (lv_at hl 4 rfl) ?_
    refine lv_bipush (v := 24) hx hb dX4_wasted_42 (by decide) ?_
    refine wq_icmp_ge (tgt := 134) hx hb dX4_wasted_44 (by decide) hf (fun hf => ?_) (fun hf => ?_)
    · refine lv_iload hx hb dX4_wasted_134 (lv_at hl 3 rfl) ?_
      exact wt_iret hx hb hr hlk hK hM hf dX4_wasted_136
    refine lv_aload_n hx hb dX4_wasted_47 rfl (lv_at hl 0 rfl) ?_
    refine gf_X4_rosters  hx hb hts hown hK hM tw_716 dX4_wasted_48 ?_
    refine lv_bipush (v := 24) hx hb dX4_wasted_51 (by decide) ?_
    refine lv_iload_n hx hb dX4_wasted_53 rfl (lv_at hl 1 rfl) ?_
    refine lv_imul hx hb dX4_wasted_54 ?_
    refine lv_iload hx hb dX4_wasted_55 (lv_at hl 4 rfl) ?_
    refine lv_iadd hx hb dX4_wasted_57 ?_
    obtain ⟨i3, hf⟩ := wt_chk_of hf
    refine wt_ild hx hb hK hM wt_a106 i3 dX4_wasted_58 ?_
    refine wq_if_lt (tgt := 66) hx hb dX4_wasted_59 (by decide) hf (fun hf => ?_) (fun hf => ?_)
    · refine lv_iconst (v := 0) hx hb dX4_wasted_66 (by decide) ?_
      exact w_X4_wasted_67 C ih hf hM hl
    refine lv_iconst (v := 1) hx hb dX4_wasted_62 (by decide) ?_
    refine lv_goto (tgt := 67) hx hb dX4_wasted_63 (by decide) ?_
    exact w_X4_wasted_67 C ih hf hM hl
set_option maxHeartbeats 4000000 in
set_option maxRecDepth 100000 in
theorem w_X4_wasted_23 (C : wt_C p s m args meth c RX4 cX4_wasted 8 (some .int) D tI tII) {F : Nat} {x1 : Int32} {x2 : Int32} {t0 : Int32} {σ : Mem} {r : Int32} {σ' : Mem} {H : Heap} {locs : List Loc} {ls : Array Slot} (hf : j_X4_wasted_23 F x1 x2 t0 σ = some (r, σ')) (hM : wt_St D tI tII B σ s H locs) (hl : lv_has ls 8 [(0, .ref (B + 101)), (1, .int x1), (2, .int x2)]) : W p l e rm_X4_wasted s m args below meth c H locs 0 0 (MQ below (wt_Qi D tI tII B r σ') args s 0 0 (fun q => B ≤ q)) (F0 m 23 ls [.int t0]) := by
  obtain ⟨hx, hb, hts, hown, hml, hr, hlk, hK⟩ := id C
  replace hf := Eq.trans j_X4_wasted_23_e.symm hf
  refine lv_istore_n (lv' := [(3, .int t0), (0, .ref (B + 101)), (1, .int x1), (2, .int x2)]) hx hb dX4_wasted_23 rfl hl (by decide) rfl (fun ls hl => ?_)
  refine lv_iload_n hx hb dX4_wasted_24 rfl (lv_at hl 0 rfl) ?_
  refine wq_if_ge (tgt := 34) hx hb dX4_wasted_25 (by decide) hf (fun hf => ?_) (fun hf => ?_)
  · refine lv_iconst (v := 0) hx hb dX4_wasted_34 (by decide) ?_
    refine lv_istore (lv' := [(4, .int (0 : Int32)), (3, .int t0), (0, .ref (B + 101)), (1, .int x1), (2, .int x2)]) hx hb dX4_wasted_35 hl (by decide) rfl (fun ls hl => ?_)
    refine lv_iconst (v := 0) hx hb dX4_wasted_37 (by decide) ?_
    refine lv_istore (lv' := [(5, .int (0 : Int32)), (4, .int (0 : Int32)), (3, .int t0), (0, .ref (B + 101)), (1, .int x1), (2, .int x2)]) hx hb dX4_wasted_38 hl (by decide) rfl (fun ls hl => ?_)
    exact w_X4_wasted_40 C _ _ _ _ _ _ _ hf hM (lv_sub hl [3, 4, 5, 1, 0] rfl)
  refine lv_aload_n hx hb dX4_wasted_28 rfl (lv_at hl 1 rfl) ?_
  refine lv_iload_n hx hb dX4_wasted_29 rfl (lv_at hl 0 rfl) ?_
  refine wt_callVi (As := [.int t0]) (rest := []) hx hb hml hts hown hK hM wt_rc_X4 cw_X4_143 hd_X4_refuse rfl ⟨qz_b rfl, qz_b rfl⟩ ⟨rfl, rfl⟩ hl.1 rfl (qz_b rfl) dX4_wasted_30 hf (fun _ _ h9 => c_X4_refuse h9) (fun r4 s5 H locs hf hM => ?_)
  exact wt_iret hx hb hr hlk hK hM hf dX4_wasted_33
set_option maxHeartbeats 4000000 in
set_option maxRecDepth 100000 in
theorem w_X4_wasted_0 (C : wt_C p s m args meth c RX4 cX4_wasted 8 (some .int) D tI tII) {F : Nat} {x1 : Int32} {x2 : Int32} {σ : Mem} {r : Int32} {σ' : Mem} {H : Heap} {locs : List Loc} {ls : Array Slot} (hf : f_X4_wasted F x1 x2 σ = some (r, σ')) (hM : wt_St D tI tII B σ s H locs) (hl : lv_has ls 8 [(0, .ref (B + 101)), (1, .int x1), (2, .int x2)]) : W p l e rm_X4_wasted s m args below meth c H locs 0 0 (MQ below (wt_Qi D tI tII B r σ') args s 0 0 (fun q => B ≤ q)) (F0 m 0 ls []) := by
  obtain ⟨hx, hb, hts, hown, hml, hr, hlk, hK⟩ := id C
  replace hf := Eq.trans f_X4_wasted_e.symm hf
  refine lv_aload_n hx hb dX4_wasted_0 rfl (lv_at hl 0 rfl) ?_
  refine lv_iconst (v := 0) hx hb dX4_wasted_1 (by decide) ?_
  refine pf_X4_thrown  hx hb hts hown hK hM tw_720 dX4_wasted_2 hf (fun s6 H locs hf hM => ?_)
  refine lv_aload_n hx hb dX4_wasted_5 rfl (lv_at hl 0 rfl) ?_
  refine lv_iload_n hx hb dX4_wasted_6 rfl (lv_at hl 1 rfl) ?_
  refine wt_callVi (As := [.int x1]) (rest := []) hx hb hml hts hown hK hM wt_rc_X4 cw_X4_88 hd_X4_isLooker rfl ⟨qz_b rfl, qz_b rfl⟩ ⟨rfl, rfl⟩ hl.1 rfl (qz_b rfl) dX4_wasted_7 hf (fun _ _ h9 => c_X4_isLooker h9) (fun r7 s8 H locs hf hM => ?_)
  refine wq_if_eq (tgt := 22) hx hb dX4_wasted_10 (by decide) hf (fun hf => ?_) (fun hf => ?_)
  · refine lv_iconst (v := -1) hx hb dX4_wasted_22 (by decide) ?_
    exact w_X4_wasted_23 C hf hM hl
  refine lv_iconst (v := 0) hx hb dX4_wasted_13 (by decide) ?_
  refine lv_iload_n hx hb dX4_wasted_14 rfl (lv_at hl 2 rfl) ?_
  refine lv_iconst (v := 1) hx hb dX4_wasted_15 (by decide) ?_
  refine wt_callSi (As := [.int (0 : Int32), .int x2, .int (1 : Int32)]) (rest := []) hx hb hml hts hown hK hM cw_X4_251 hd_X4_wrongBit rfl ⟨qz_b rfl, qz_b rfl⟩ ⟨rfl, rfl⟩ hl.1 rfl (qz_b rfl) dX4_wasted_16 hf (fun _ _ h9 => c_X4_wrongBit h9) (fun r9 s10 H locs hf hM => ?_)
  refine lv_goto (tgt := 23) hx hb dX4_wasted_19 (by decide) ?_
  exact w_X4_wasted_23 C hf hM hl
end
set_option maxHeartbeats 4000000 in
set_option maxRecDepth 100000 in
theorem c_X4_wasted {l : Launch} {D : va_G} {tI tII : ClassId} {B F : Nat} {x1 : Int32} {x2 : Int32} {σ σ' : Mem} {r : Int32} (hf : f_X4_wasted F x1 x2 σ = some (r, σ')) : wt_Mi l yX4_wasted cX4_wasted 8 (some .int) rm_X4_wasted [.ref (B + 101), .int x1, .int x2] D tI tII B σ r σ' := by
  refine Met.ofW (cc := cX4_wasted) (maxL := 8) (ret := (some .int)) (by decide) rfl ?_
  intro p e s m args below meth c s₁ B9 hml hv
  obtain ⟨rfl, hP, hK⟩ := hv
  have hl := lv_entry ([.ref (B + 101), .int x1, .int x2]) (n := 8) (qz_b rfl)
  rw [lg_entry_eq]
  generalize (lg_sl ([.ref (B + 101), .int x1, .int x2]) ++ List.replicate (8 - (lg_sl ([.ref (B + 101), .int x1, .int x2])).length) Slot.unset).toArray = ls at hl ⊢
  exact w_X4_wasted_0 (wt_C_of B9 hml hK) hf ⟨hP, va_S.rf⟩ hl
section
variable {p : Program} {l : Launch} {e : Env} {s : State} {m : MethodId} {args : Array Value} {below : List Frame} {meth : Method} {c : Code} {D : va_G} {tI tII : ClassId} {B : Nat}
set_option maxHeartbeats 4000000 in
set_option maxRecDepth 100000 in
theorem w_X4_ahead_26 (C : wt_C p s m args meth c RX4 cX4_ahead 4 (some .int) D tI tII) {F : Nat} {x1 : Int32} {x2 : Int32} {r : Int32} {σ' : Mem} : ∀ (N : Nat) (x3 : Int32) (σ : Mem) (H : Heap) (locs : List Loc) (ls : Array Slot), lp_X4_ahead_26 F x1 x2 N x3 σ = some (r, σ') → wt_St D tI tII B σ s H locs → lv_has ls 4 [(0, .ref (B + 101)), (1, .int x1), (2, .int x2), (3, .int x3)] → W p l e rm_X4_ahead s m args below meth c H locs 0 0 (MQ below (wt_Qi D tI tII B r σ') args s 0 0 (fun q => B ≤ q)) (F0 m 26 ls []) := by
  obtain ⟨hx, hb, hts, hown, hml, hr, hlk, hK⟩ := id C
  intro N
  induction N with
  | zero => intro x3 σ H locs ls hf; exact wt_none (show (none : Option (Int32 × Mem)) = some (r, σ') from hf)
  | succ N ih =>
    intro x3 σ H locs ls hf hM hl
    replace hf := Eq.trans lp_X4_ahead_26_s.symm hf
    refine lv_iload_n hx hb dX4_ahead_26 rfl (lv_at hl 3 rfl) ?_
    refine lv_sipush (v := 999) hx hb dX4_ahead_27 (by decide) ?_
    refine wq_icmp_gt (tgt := 56) hx hb dX4_ahead_30 (by decide) hf (fun hf => ?_) (fun hf => ?_)
    · refine lv_bipush (v := -9) hx hb dX4_ahead_56 (by decide) ?_
      exact wt_iret hx hb hr hlk hK hM hf dX4_ahead_58
    refine lv_aload_n hx hb dX4_ahead_33 rfl (lv_at hl 0 rfl) ?_
    refine lv_iload_n hx hb dX4_ahead_34 rfl (lv_at hl 1 rfl) ?_
    refine lv_iload_n hx hb dX4_ahead_35 rfl (lv_at hl 3 rfl) ?_
    refine wt_callVi (As := [.int x1, .int x3]) (rest := []) hx hb hml hts hown hK hM wt_rc_X4 cw_X4_137 hd_X4_worthIn rfl ⟨qz_b rfl, qz_b rfl⟩ ⟨rfl, rfl⟩ hl.1 rfl (qz_b rfl) dX4_ahead_36 hf (fun _ _ h9 => c_X4_worthIn h9) (fun r1 s2 H locs hf hM => ?_)
    refine lv_aload_n hx hb dX4_ahead_39 rfl (lv_at hl 0 rfl) ?_
    refine lv_iload_n hx hb dX4_ahead_40 rfl (lv_at hl 2 rfl) ?_
    refine lv_iload_n hx hb dX4_ahead_41 rfl (lv_at hl 3 rfl) ?_
    refine wt_callVi (As := [.int x2, .int x3]) (rest := [.int r1]) hx hb hml hts hown hK hM wt_rc_X4 cw_X4_137 hd_X4_worthIn rfl ⟨qz_b rfl, qz_b rfl⟩ ⟨rfl, rfl⟩ hl.1 rfl (qz_b rfl) dX4_ahead_42 hf (fun _ _ h9 => c_X4_worthIn h9) (fun r3 s4 H locs hf hM => ?_)
    refine wq_icmp_le (tgt := 50) hx hb dX4_ahead_45 (by decide) hf (fun hf => ?_) (fun hf => ?_)
    · refine lv_iinc (v := (x3 + (1 : Int32))) (lv' := [(3, .int (x3 + (1 : Int32))), (0, .ref (B + 101)), (1, .int x1), (2, .int x2)]) hx hb dX4_ahead_50 hl (k := 3) rfl rfl (by decide) rfl (fun ls hl => ?_)
      refine lv_goto (tgt := 26) hx hb dX4_ahead_53 (by decide) ?_
      exact ih _ _ _ _ _ hf hM (lv_sub hl [1, 2, 3, 0] rfl)
    refine lv_iload_n hx hb dX4_ahead_48 rfl (lv_at hl 3 rfl) ?_
    exact wt_iret hx hb hr hlk hK hM hf dX4_ahead_49
set_option maxHeartbeats 4000000 in
set_option maxRecDepth 100000 in
theorem w_X4_ahead_0 (C : wt_C p s m args meth c RX4 cX4_ahead 4 (some .int) D tI tII) {F : Nat} {x1 : Int32} {x2 : Int32} {σ : Mem} {r : Int32} {σ' : Mem} {H : Heap} {locs : List Loc} {ls : Array Slot} (hf : f_X4_ahead F x1 x2 σ = some (r, σ')) (hM : wt_St D tI tII B σ s H locs) (hl : lv_has ls 4 [(0, .ref (B + 101)), (1, .int x1), (2, .int x2)]) : W p l e rm_X4_ahead s m args below meth c H locs 0 0 (MQ below (wt_Qi D tI tII B r σ') args s 0 0 (fun q => B ≤ q)) (F0 m 0 ls []) := by
  obtain ⟨hx, hb, hts, hown, hml, hr, hlk, hK⟩ := id C
  replace hf := Eq.trans f_X4_ahead_e.symm hf
  refine lv_aload_n hx hb dX4_ahead_0 rfl (lv_at hl 0 rfl) ?_
  refine lv_iconst (v := 0) hx hb dX4_ahead_1 (by decide) ?_
  refine pf_X4_thrown  hx hb hts hown hK hM tw_720 dX4_ahead_2 hf (fun s5 H locs hf hM => ?_)
  refine lv_aload_n hx hb dX4_ahead_5 rfl (lv_at hl 0 rfl) ?_
  refine lv_iload_n hx hb dX4_ahead_6 rfl (lv_at hl 1 rfl) ?_
  refine lv_iload_n hx hb dX4_ahead_7 rfl (lv_at hl 2 rfl) ?_
  refine wt_callVi (As := [.int x1, .int x2]) (rest := []) hx hb hml hts hown hK hM wt_rc_X4 cw_X4_257 hd_X4_areTwo rfl ⟨qz_b rfl, qz_b rfl⟩ ⟨rfl, rfl⟩ hl.1 rfl (qz_b rfl) dX4_ahead_8 hf (fun _ _ h9 => c_X4_areTwo h9) (fun r6 s7 H locs hf hM => ?_)
  refine wq_if_ne (tgt := 20) hx hb dX4_ahead_11 (by decide) hf (fun hf => ?_) (fun hf => ?_)
  · refine lv_aload_n hx hb dX4_ahead_20 rfl (lv_at hl 0 rfl) ?_
    refine wt_callVv (As := []) (rest := []) hx hb hml hts hown hK hM wt_rc_X4 cw_X4_134 hd_X4_layBrings rfl ⟨qz_b rfl, qz_b rfl⟩ ⟨rfl, rfl⟩ hl.1 rfl (qz_b rfl) dX4_ahead_21 hf (fun _ _ h9 => c_X4_layBrings h9) (fun r8 s9 H locs hf hM => ?_)
    refine lv_iconst (v := 0) hx hb dX4_ahead_24 (by decide) ?_
    refine lv_istore_n (lv' := [(3, .int (0 : Int32)), (0, .ref (B + 101)), (1, .int x1), (2, .int x2)]) hx hb dX4_ahead_25 rfl hl (by decide) rfl (fun ls hl => ?_)
    exact w_X4_ahead_26 C _ _ _ _ _ _ hf hM (lv_sub hl [1, 2, 3, 0] rfl)
  refine lv_aload_n hx hb dX4_ahead_14 rfl (lv_at hl 0 rfl) ?_
  refine lv_iconst (v := -1) hx hb dX4_ahead_15 (by decide) ?_
  refine wt_callVi (As := [.int (-1 : Int32)]) (rest := []) hx hb hml hts hown hK hM wt_rc_X4 cw_X4_143 hd_X4_refuse rfl ⟨qz_b rfl, qz_b rfl⟩ ⟨rfl, rfl⟩ hl.1 rfl (qz_b rfl) dX4_ahead_16 hf (fun _ _ h9 => c_X4_refuse h9) (fun r10 s11 H locs hf hM => ?_)
  exact wt_iret hx hb hr hlk hK hM hf dX4_ahead_19
end
set_option maxHeartbeats 4000000 in
set_option maxRecDepth 100000 in
theorem c_X4_ahead {l : Launch} {D : va_G} {tI tII : ClassId} {B F : Nat} {x1 : Int32} {x2 : Int32} {σ σ' : Mem} {r : Int32} (hf : f_X4_ahead F x1 x2 σ = some (r, σ')) : wt_Mi l yX4_ahead cX4_ahead 4 (some .int) rm_X4_ahead [.ref (B + 101), .int x1, .int x2] D tI tII B σ r σ' := by
  refine Met.ofW (cc := cX4_ahead) (maxL := 4) (ret := (some .int)) (by decide) rfl ?_
  intro p e s m args below meth c s₁ B9 hml hv
  obtain ⟨rfl, hP, hK⟩ := hv
  have hl := lv_entry ([.ref (B + 101), .int x1, .int x2]) (n := 4) (qz_b rfl)
  rw [lg_entry_eq]
  generalize (lg_sl ([.ref (B + 101), .int x1, .int x2]) ++ List.replicate (4 - (lg_sl ([.ref (B + 101), .int x1, .int x2])).length) Slot.unset).toArray = ls at hl ⊢
  exact w_X4_ahead_0 (wt_C_of B9 hml hK) hf ⟨hP, va_S.rf⟩ hl
section
variable {p : Program} {l : Launch} {e : Env} {s : State} {m : MethodId} {args : Array Value} {below : List Frame} {meth : Method} {c : Code} {D : va_G} {tI tII : ClassId} {B : Nat}
set_option maxHeartbeats 4000000 in
set_option maxRecDepth 100000 in
theorem w_X4_bestLaw_105 (C : wt_C p s m args meth c RX4 cX4_bestLaw 9 (some .int) D tI tII) {F : Nat} {k55 : Int32 → Int32 → Int32 → Mem → Option (Int32 × Mem)} {x1 : Int32} {x2 : Int32} {x4 : Int32} {x5 : Int32} {x7 : Int32} {t0 : Int32} {σ : Mem} {r : Int32} {σ' : Mem} {H : Heap} {locs : List Loc} {ls : Array Slot} (hk55 : ∀ (x5 : Int32) (x6 : Int32) (x7 : Int32) (σ : Mem) (H : Heap) (locs : List Loc) (ls : Array Slot), k55 x5 x6 x7 σ = some (r, σ') → wt_St D tI tII B σ s H locs → lv_has ls 9 [(0, .ref (B + 101)), (1, .int x1), (2, .int x2), (4, .int x4), (5, .int x5), (6, .int x6), (7, .int x7)] → W p l e rm_X4_bestLaw s m args below meth c H locs 0 0 (MQ below (wt_Qi D tI tII B r σ') args s 0 0 (fun q => B ≤ q)) (F0 m 55 ls [])) (hf : j_X4_bestLaw_105 F k55 x1 x2 x4 x5 x7 t0 σ = some (r, σ')) (hM : wt_St D tI tII B σ s H locs) (hl : lv_has ls 9 [(0, .ref (B + 101)), (1, .int x1), (2, .int x2), (4, .int x4), (5, .int x5), (7, .int x7)]) : W p l e rm_X4_bestLaw s m args below meth c H locs 0 0 (MQ below (wt_Qi D tI tII B r σ') args s 0 0 (fun q => B ≤ q)) (F0 m 105 ls [.int t0]) := by
  obtain ⟨hx, hb, hts, hown, hml, hr, hlk, hK⟩ := id C
  replace hf := Eq.trans j_X4_bestLaw_105_e.symm hf
  refine lv_istore (lv' := [(6, .int t0), (0, .ref (B + 101)), (1, .int x1), (2, .int x2), (4, .int x4), (5, .int x5), (7, .int x7)]) hx hb dX4_bestLaw_105 hl (by decide) rfl (fun ls hl => ?_)
  refine lv_iinc (v := (x7 + (1 : Int32))) (lv' := [(7, .int (x7 + (1 : Int32))), (6, .int t0), (0, .ref (B + 101)), (1, .int x1), (2, .int x2), (4, .int x4), (5, .int x5)]) hx hb dX4_bestLaw_107 hl (k := 6) rfl rfl (by decide) rfl (fun ls hl => ?_)
  refine lv_goto (tgt := 55) hx hb dX4_bestLaw_110 (by decide) ?_
  exact hk55 _ _ _ _ _ _ _ hf hM (lv_sub hl [2, 3, 4, 5, 6, 1, 0] rfl)
set_option maxHeartbeats 4000000 in
set_option maxRecDepth 100000 in
theorem w_X4_bestLaw_89 (C : wt_C p s m args meth c RX4 cX4_bestLaw 9 (some .int) D tI tII) {F : Nat} {k55 : Int32 → Int32 → Int32 → Mem → Option (Int32 × Mem)} {x1 : Int32} {x2 : Int32} {x4 : Int32} {x6 : Int32} {x7 : Int32} {x8 : Int32} {t0 : Int32} {σ : Mem} {r : Int32} {σ' : Mem} {H : Heap} {locs : List Loc} {ls : Array Slot} (hk55 : ∀ (x5 : Int32) (x6 : Int32) (x7 : Int32) (σ : Mem) (H : Heap) (locs : List Loc) (ls : Array Slot), k55 x5 x6 x7 σ = some (r, σ') → wt_St D tI tII B σ s H locs → lv_has ls 9 [(0, .ref (B + 101)), (1, .int x1), (2, .int x2), (4, .int x4), (5, .int x5), (6, .int x6), (7, .int x7)] → W p l e rm_X4_bestLaw s m args below meth c H locs 0 0 (MQ below (wt_Qi D tI tII B r σ') args s 0 0 (fun q => B ≤ q)) (F0 m 55 ls [])) (hf : j_X4_bestLaw_89 F k55 x1 x2 x4 x6 x7 x8 t0 σ = some (r, σ')) (hM : wt_St D tI tII B σ s H locs) (hl : lv_has ls 9 [(0, .ref (B + 101)), (1, .int x1), (2, .int x2), (4, .int x4), (6, .int x6), (7, .int x7), (8, .int x8)]) : W p l e rm_X4_bestLaw s m args below meth c H locs 0 0 (MQ below (wt_Qi D tI tII B r σ') args s 0 0 (fun q => B ≤ q)) (F0 m 89 ls [.int t0]) := by
  obtain ⟨hx, hb, hts, hown, hml, hr, hlk, hK⟩ := id C
  replace hf := Eq.trans j_X4_bestLaw_89_e.symm hf
  refine lv_istore (lv' := [(5, .int t0), (0, .ref (B + 101)), (1, .int x1), (2, .int x2), (4, .int x4), (6, .int x6), (7, .int x7), (8, .int x8)]) hx hb dX4_bestLaw_89 hl (by decide) rfl (fun ls hl => ?_)
  refine lv_iload hx hb dX4_bestLaw_91 (lv_at hl 7 rfl) ?_
  refine lv_iload hx hb dX4_bestLaw_93 (lv_at hl 5 rfl) ?_
  refine wq_icmp_le (tgt := 103) hx hb dX4_bestLaw_95 (by decide) hf (fun hf => ?_) (fun hf => ?_)
  · refine lv_iload hx hb dX4_bestLaw_103 (lv_at hl 5 rfl) ?_
    exact w_X4_bestLaw_105 C hk55 hf hM (lv_sub hl [1, 2, 3, 4, 0, 6] rfl)
  refine lv_iload hx hb dX4_bestLaw_98 (lv_at hl 7 rfl) ?_
  refine lv_goto (tgt := 105) hx hb dX4_bestLaw_100 (by decide) ?_
  exact w_X4_bestLaw_105 C hk55 hf hM (lv_sub hl [1, 2, 3, 4, 0, 6] rfl)
set_option maxHeartbeats 4000000 in
set_option maxRecDepth 100000 in
theorem w_X4_bestLaw_55 (C : wt_C p s m args meth c RX4 cX4_bestLaw 9 (some .int) D tI tII) {F : Nat} {x1 : Int32} {x2 : Int32} {x4 : Int32} {r : Int32} {σ' : Mem} : ∀ (N : Nat) (x5 : Int32) (x6 : Int32) (x7 : Int32) (σ : Mem) (H : Heap) (locs : List Loc) (ls : Array Slot), lp_X4_bestLaw_55 F x1 x2 x4 N x5 x6 x7 σ = some (r, σ') → wt_St D tI tII B σ s H locs → lv_has ls 9 [(0, .ref (B + 101)), (1, .int x1), (2, .int x2), (4, .int x4), (5, .int x5), (6, .int x6), (7, .int x7)] → W p l e rm_X4_bestLaw s m args below meth c H locs 0 0 (MQ below (wt_Qi D tI tII B r σ') args s 0 0 (fun q => B ≤ q)) (F0 m 55 ls []) := by
  obtain ⟨hx, hb, hts, hown, hml, hr, hlk, hK⟩ := id C
  intro N
  induction N with
  | zero => intro x5 x6 x7 σ H locs ls hf; exact wt_none (show (none : Option (Int32 × Mem)) = some (r, σ') from hf)
  | succ N ih =>
    intro x5 x6 x7 σ H locs ls hf hM hl
    replace hf := Eq.trans lp_X4_bestLaw_55_s.symm hf
    refine lv_iload hx hb dX4_bestLaw_55 (lv_at hl 6 rfl) ?_
    refine lv_iconst (v := 3) hx hb dX4_bestLaw_57 (by decide) ?_
    refine wq_icmp_ge (tgt := 113) hx hb dX4_bestLaw_58 (by decide) hf (fun hf => ?_) (fun hf => ?_)
    · refine lv_aload_n hx hb dX4_bestLaw_113 rfl (lv_at hl 0 rfl) ?_
      refine lv_iload hx hb dX4_bestLaw_114 (lv_at hl 3 rfl) ?_
      refine pf_X4_law0  hx hb hts hown hK hM tw_718 dX4_bestLaw_116 hf (fun s1 H locs hf hM => ?_)
      refine lv_iload hx hb dX4_bestLaw_119 (lv_at hl 4 rfl) ?_
      exact wt_iret hx hb hr hlk hK hM hf dX4_bestLaw_121
    refine lv_aload_n hx hb dX4_bestLaw_61 rfl (lv_at hl 0 rfl) ?_
    refine lv_iload hx hb dX4_bestLaw_62 (lv_at hl 6 rfl) ?_
    refine pf_X4_law0  hx hb hts hown hK hM tw_718 dX4_bestLaw_64 hf (fun s2 H locs hf hM => ?_)
    refine lv_aload_n hx hb dX4_bestLaw_67 rfl (lv_at hl 0 rfl) ?_
    refine lv_iload_n hx hb dX4_bestLaw_68 rfl (lv_at hl 1 rfl) ?_
    refine lv_iload_n hx hb dX4_bestLaw_69 rfl (lv_at hl 2 rfl) ?_
    refine wt_callVi (As := [.int x1, .int x2]) (rest := []) hx hb hml hts hown hK hM wt_rc_X4 cw_X4_137 hd_X4_worthIn rfl ⟨qz_b rfl, qz_b rfl⟩ ⟨rfl, rfl⟩ hl.1 rfl (qz_b rfl) dX4_bestLaw_70 hf (fun _ _ h9 => c_X4_worthIn h9) (fun r3 s4 H locs hf hM => ?_)
    refine lv_istore (lv' := [(8, .int r3), (0, .ref (B + 101)), (1, .int x1), (2, .int x2), (4, .int x4), (5, .int x5), (6, .int x6), (7, .int x7)]) hx hb dX4_bestLaw_73 hl (by decide) rfl (fun ls hl => ?_)
    refine lv_iload hx hb dX4_bestLaw_75 (lv_at hl 0 rfl) ?_
    refine lv_iload hx hb dX4_bestLaw_77 (lv_at hl 6 rfl) ?_
    refine wq_icmp_le (tgt := 87) hx hb dX4_bestLaw_79 (by decide) hf (fun hf => ?_) (fun hf => ?_)
    · refine lv_iload hx hb dX4_bestLaw_87 (lv_at hl 5 rfl) ?_
      exact w_X4_bestLaw_89 C ih hf hM (lv_sub hl [1, 2, 3, 4, 6, 7, 0] rfl)
    refine lv_iload hx hb dX4_bestLaw_82 (lv_at hl 7 rfl) ?_
    refine lv_goto (tgt := 89) hx hb dX4_bestLaw_84 (by decide) ?_
    exact w_X4_bestLaw_89 C ih hf hM (lv_sub hl [1, 2, 3, 4, 6, 7, 0] rfl)
set_option maxHeartbeats 4000000 in
set_option maxRecDepth 100000 in
theorem w_X4_bestLaw_25 (C : wt_C p s m args meth c RX4 cX4_bestLaw 9 (some .int) D tI tII) {F : Nat} {x1 : Int32} {x2 : Int32} {t0 : Int32} {σ : Mem} {r : Int32} {σ' : Mem} {H : Heap} {locs : List Loc} {ls : Array Slot} (hf : j_X4_bestLaw_25 F x1 x2 t0 σ = some (r, σ')) (hM : wt_St D tI tII B σ s H locs) (hl : lv_has ls 9 [(0, .ref (B + 101)), (1, .int x1), (2, .int x2)]) : W p l e rm_X4_bestLaw s m args below meth c H locs 0 0 (MQ below (wt_Qi D tI tII B r σ') args s 0 0 (fun q => B ≤ q)) (F0 m 25 ls [.int t0]) := by
  obtain ⟨hx, hb, hts, hown, hml, hr, hlk, hK⟩ := id C
  replace hf := Eq.trans j_X4_bestLaw_25_e.symm hf
  refine lv_istore_n (lv' := [(3, .int t0), (0, .ref (B + 101)), (1, .int x1), (2, .int x2)]) hx hb dX4_bestLaw_25 rfl hl (by decide) rfl (fun ls hl => ?_)
  refine lv_iload_n hx hb dX4_bestLaw_26 rfl (lv_at hl 0 rfl) ?_
  refine wq_if_ge (tgt := 36) hx hb dX4_bestLaw_27 (by decide) hf (fun hf => ?_) (fun hf => ?_)
  · refine lv_aload_n hx hb dX4_bestLaw_36 rfl (lv_at hl 1 rfl) ?_
    refine wt_callVv (As := []) (rest := []) hx hb hml hts hown hK hM wt_rc_X4 cw_X4_134 hd_X4_layBrings rfl ⟨qz_b rfl, qz_b rfl⟩ ⟨rfl, rfl⟩ hl.1 rfl (qz_b rfl) dX4_bestLaw_37 hf (fun _ _ h9 => c_X4_layBrings h9) (fun r5 s6 H locs hf hM => ?_)
    refine lv_aload_n hx hb dX4_bestLaw_40 rfl (lv_at hl 1 rfl) ?_
    refine gf_X4_law0  hx hb hts hown hK hM tw_718 dX4_bestLaw_41 ?_
    refine lv_istore (lv' := [(4, .int (s6 101 8)), (3, .int t0), (0, .ref (B + 101)), (1, .int x1), (2, .int x2)]) hx hb dX4_bestLaw_44 hl (by decide) rfl (fun ls hl => ?_)
    refine lv_iconst (v := 0) hx hb dX4_bestLaw_46 (by decide) ?_
    refine lv_istore (lv' := [(5, .int (0 : Int32)), (4, .int (s6 101 8)), (3, .int t0), (0, .ref (B + 101)), (1, .int x1), (2, .int x2)]) hx hb dX4_bestLaw_47 hl (by decide) rfl (fun ls hl => ?_)
    refine lv_iconst (v := -1) hx hb dX4_bestLaw_49 (by decide) ?_
    refine lv_istore (lv' := [(6, .int (-1 : Int32)), (5, .int (0 : Int32)), (4, .int (s6 101 8)), (3, .int t0), (0, .ref (B + 101)), (1, .int x1), (2, .int x2)]) hx hb dX4_bestLaw_50 hl (by decide) rfl (fun ls hl => ?_)
    refine lv_iconst (v := 0) hx hb dX4_bestLaw_52 (by decide) ?_
    refine lv_istore (lv' := [(7, .int (0 : Int32)), (6, .int (-1 : Int32)), (5, .int (0 : Int32)), (4, .int (s6 101 8)), (3, .int t0), (0, .ref (B + 101)), (1, .int x1), (2, .int x2)]) hx hb dX4_bestLaw_53 hl (by decide) rfl (fun ls hl => ?_)
    exact w_X4_bestLaw_55 C _ _ _ _ _ _ _ _ hf hM (lv_sub hl [5, 6, 7, 3, 2, 1, 0] rfl)
  refine lv_aload_n hx hb dX4_bestLaw_30 rfl (lv_at hl 1 rfl) ?_
  refine lv_iload_n hx hb dX4_bestLaw_31 rfl (lv_at hl 0 rfl) ?_
  refine wt_callVi (As := [.int t0]) (rest := []) hx hb hml hts hown hK hM wt_rc_X4 cw_X4_143 hd_X4_refuse rfl ⟨qz_b rfl, qz_b rfl⟩ ⟨rfl, rfl⟩ hl.1 rfl (qz_b rfl) dX4_bestLaw_32 hf (fun _ _ h9 => c_X4_refuse h9) (fun r7 s8 H locs hf hM => ?_)
  exact wt_iret hx hb hr hlk hK hM hf dX4_bestLaw_35
set_option maxHeartbeats 4000000 in
set_option maxRecDepth 100000 in
theorem w_X4_bestLaw_0 (C : wt_C p s m args meth c RX4 cX4_bestLaw 9 (some .int) D tI tII) {F : Nat} {x1 : Int32} {x2 : Int32} {σ : Mem} {r : Int32} {σ' : Mem} {H : Heap} {locs : List Loc} {ls : Array Slot} (hf : f_X4_bestLaw F x1 x2 σ = some (r, σ')) (hM : wt_St D tI tII B σ s H locs) (hl : lv_has ls 9 [(0, .ref (B + 101)), (1, .int x1), (2, .int x2)]) : W p l e rm_X4_bestLaw s m args below meth c H locs 0 0 (MQ below (wt_Qi D tI tII B r σ') args s 0 0 (fun q => B ≤ q)) (F0 m 0 ls []) := by
  obtain ⟨hx, hb, hts, hown, hml, hr, hlk, hK⟩ := id C
  replace hf := Eq.trans f_X4_bestLaw_e.symm hf
  refine lv_aload_n hx hb dX4_bestLaw_0 rfl (lv_at hl 0 rfl) ?_
  refine lv_iconst (v := 0) hx hb dX4_bestLaw_1 (by decide) ?_
  refine pf_X4_thrown  hx hb hts hown hK hM tw_720 dX4_bestLaw_2 hf (fun s9 H locs hf hM => ?_)
  refine lv_aload_n hx hb dX4_bestLaw_5 rfl (lv_at hl 0 rfl) ?_
  refine lv_iload_n hx hb dX4_bestLaw_6 rfl (lv_at hl 1 rfl) ?_
  refine wt_callVi (As := [.int x1]) (rest := []) hx hb hml hts hown hK hM wt_rc_X4 cw_X4_88 hd_X4_isLooker rfl ⟨qz_b rfl, qz_b rfl⟩ ⟨rfl, rfl⟩ hl.1 rfl (qz_b rfl) dX4_bestLaw_7 hf (fun _ _ h9 => c_X4_isLooker h9) (fun r10 s11 H locs hf hM => ?_)
  refine wq_if_eq (tgt := 24) hx hb dX4_bestLaw_10 (by decide) hf (fun hf => ?_) (fun hf => ?_)
  · refine lv_iconst (v := -1) hx hb dX4_bestLaw_24 (by decide) ?_
    exact w_X4_bestLaw_25 C hf hM hl
  refine lv_iload_n hx hb dX4_bestLaw_13 rfl (lv_at hl 2 rfl) ?_
  refine lv_iconst (v := 0) hx hb dX4_bestLaw_14 (by decide) ?_
  refine lv_sipush (v := 999) hx hb dX4_bestLaw_15 (by decide) ?_
  refine wt_callSi (As := [.int x2, .int (0 : Int32), .int (999 : Int32)]) (rest := []) hx hb hml hts hown hK hM cw_X4_231 hd_X4_wrongNumber rfl ⟨qz_b rfl, qz_b rfl⟩ ⟨rfl, rfl⟩ hl.1 rfl (qz_b rfl) dX4_bestLaw_18 hf (fun _ _ h9 => c_X4_wrongNumber h9) (fun r12 s13 H locs hf hM => ?_)
  refine lv_goto (tgt := 25) hx hb dX4_bestLaw_21 (by decide) ?_
  exact w_X4_bestLaw_25 C hf hM hl
end
set_option maxHeartbeats 4000000 in
set_option maxRecDepth 100000 in
theorem c_X4_bestLaw {l : Launch} {D : va_G} {tI tII : ClassId} {B F : Nat} {x1 : Int32} {x2 : Int32} {σ σ' : Mem} {r : Int32} (hf : f_X4_bestLaw F x1 x2 σ = some (r, σ')) : wt_Mi l yX4_bestLaw cX4_bestLaw 9 (some .int) rm_X4_bestLaw [.ref (B + 101), .int x1, .int x2] D tI tII B σ r σ' := by
  refine Met.ofW (cc := cX4_bestLaw) (maxL := 9) (ret := (some .int)) (by decide) rfl ?_
  intro p e s m args below meth c s₁ B9 hml hv
  obtain ⟨rfl, hP, hK⟩ := hv
  have hl := lv_entry ([.ref (B + 101), .int x1, .int x2]) (n := 9) (qz_b rfl)
  rw [lg_entry_eq]
  generalize (lg_sl ([.ref (B + 101), .int x1, .int x2]) ++ List.replicate (9 - (lg_sl ([.ref (B + 101), .int x1, .int x2])).length) Slot.unset).toArray = ls at hl ⊢
  exact w_X4_bestLaw_0 (wt_C_of B9 hml hK) hf ⟨hP, va_S.rf⟩ hl
section
variable {p : Program} {l : Launch} {e : Env} {s : State} {m : MethodId} {args : Array Value} {below : List Frame} {meth : Method} {c : Code} {D : va_G} {tI tII : ClassId} {B : Nat}
set_option maxHeartbeats 4000000 in
set_option maxRecDepth 100000 in
theorem w_X4_newcomer_181 (C : wt_C p s m args meth c RX4 cX4_newcomer 11 (some .int) D tI tII) {F : Nat} {k113 : Int32 → Int32 → Int32 → Mem → Option (Int32 × Mem)} {k130 : Int32 → Int32 → Int32 → Mem → Option (Int32 × Mem)} {x3 : Int32} {x5 : Int32} {x6 : Int32} {x8 : Int32} {x9 : Int32} {t0 : Int32} {σ : Mem} {r : Int32} {σ' : Mem} {H : Heap} {locs : List Loc} {ls : Array Slot} (hk113 : ∀ (x6 : Int32) (x7 : Int32) (x8 : Int32) (σ : Mem) (H : Heap) (locs : List Loc) (ls : Array Slot), k113 x6 x7 x8 σ = some (r, σ') → wt_St D tI tII B σ s H locs → lv_has ls 11 [(0, .ref (B + 101)), (3, .int x3), (5, .int x5), (6, .int x6), (7, .int x7), (8, .int x8)] → W p l e rm_X4_newcomer s m args below meth c H locs 0 0 (MQ below (wt_Qi D tI tII B r σ') args s 0 0 (fun q => B ≤ q)) (F0 m 113 ls [])) (hk130 : ∀ (x6 : Int32) (x7 : Int32) (x9 : Int32) (σ : Mem) (H : Heap) (locs : List Loc) (ls : Array Slot), k130 x6 x7 x9 σ = some (r, σ') → wt_St D tI tII B σ s H locs → lv_has ls 11 [(0, .ref (B + 101)), (3, .int x3), (5, .int x5), (6, .int x6), (7, .int x7), (8, .int x8), (9, .int x9)] → W p l e rm_X4_newcomer s m args below meth c H locs 0 0 (MQ below (wt_Qi D tI tII B r σ') args s 0 0 (fun q => B ≤ q)) (F0 m 130 ls [])) (hf : j_X4_newcomer_181 F k113 k130 x3 x5 x6 x8 x9 t0 σ = some (r, σ')) (hM : wt_St D tI tII B σ s H locs) (hl : lv_has ls 11 [(0, .ref (B + 101)), (3, .int x3), (5, .int x5), (6, .int x6), (8, .int x8), (9, .int x9)]) : W p l e rm_X4_newcomer s m args below meth c H locs 0 0 (MQ below (wt_Qi D tI tII B r σ') args s 0 0 (fun q => B ≤ q)) (F0 m 181 ls [.int t0]) := by
  obtain ⟨hx, hb, hts, hown, hml, hr, hlk, hK⟩ := id C
  replace hf := Eq.trans j_X4_newcomer_181_e.symm hf
  refine lv_istore (lv' := [(7, .int t0), (0, .ref (B + 101)), (3, .int x3), (5, .int x5), (6, .int x6), (8, .int x8), (9, .int x9)]) hx hb dX4_newcomer_181 hl (by decide) rfl (fun ls hl => ?_)
  refine lv_iinc (v := (x9 + (-1 : Int32))) (lv' := [(9, .int (x9 + (-1 : Int32))), (7, .int t0), (0, .ref (B + 101)), (3, .int x3), (5, .int x5), (6, .int x6), (8, .int x8)]) hx hb dX4_newcomer_183 hl (k := 6) rfl rfl (by decide) rfl (fun ls hl => ?_)
  refine lv_goto (tgt := 130) hx hb dX4_newcomer_186 (by decide) ?_
  exact hk130 _ _ _ _ _ _ _ hf hM (lv_sub hl [2, 3, 4, 5, 1, 6, 0] rfl)
set_option maxHeartbeats 4000000 in
set_option maxRecDepth 100000 in
theorem w_X4_newcomer_167 (C : wt_C p s m args meth c RX4 cX4_newcomer 11 (some .int) D tI tII) {F : Nat} {k113 : Int32 → Int32 → Int32 → Mem → Option (Int32 × Mem)} {k130 : Int32 → Int32 → Int32 → Mem → Option (Int32 × Mem)} {x3 : Int32} {x5 : Int32} {x7 : Int32} {x8 : Int32} {x9 : Int32} {x10 : Int32} {t0 : Int32} {σ : Mem} {r : Int32} {σ' : Mem} {H : Heap} {locs : List Loc} {ls : Array Slot} (hk113 : ∀ (x6 : Int32) (x7 : Int32) (x8 : Int32) (σ : Mem) (H : Heap) (locs : List Loc) (ls : Array Slot), k113 x6 x7 x8 σ = some (r, σ') → wt_St D tI tII B σ s H locs → lv_has ls 11 [(0, .ref (B + 101)), (3, .int x3), (5, .int x5), (6, .int x6), (7, .int x7), (8, .int x8)] → W p l e rm_X4_newcomer s m args below meth c H locs 0 0 (MQ below (wt_Qi D tI tII B r σ') args s 0 0 (fun q => B ≤ q)) (F0 m 113 ls [])) (hk130 : ∀ (x6 : Int32) (x7 : Int32) (x9 : Int32) (σ : Mem) (H : Heap) (locs : List Loc) (ls : Array Slot), k130 x6 x7 x9 σ = some (r, σ') → wt_St D tI tII B σ s H locs → lv_has ls 11 [(0, .ref (B + 101)), (3, .int x3), (5, .int x5), (6, .int x6), (7, .int x7), (8, .int x8), (9, .int x9)] → W p l e rm_X4_newcomer s m args below meth c H locs 0 0 (MQ below (wt_Qi D tI tII B r σ') args s 0 0 (fun q => B ≤ q)) (F0 m 130 ls [])) (hf : j_X4_newcomer_167 F k113 k130 x3 x5 x7 x8 x9 x10 t0 σ = some (r, σ')) (hM : wt_St D tI tII B σ s H locs) (hl : lv_has ls 11 [(0, .ref (B + 101)), (3, .int x3), (5, .int x5), (7, .int x7), (8, .int x8), (9, .int x9), (10, .int x10)]) : W p l e rm_X4_newcomer s m args below meth c H locs 0 0 (MQ below (wt_Qi D tI tII B r σ') args s 0 0 (fun q => B ≤ q)) (F0 m 167 ls [.int t0]) := by
  obtain ⟨hx, hb, hts, hown, hml, hr, hlk, hK⟩ := id C
  replace hf := Eq.trans j_X4_newcomer_167_e.symm hf
  refine lv_istore (lv' := [(6, .int t0), (0, .ref (B + 101)), (3, .int x3), (5, .int x5), (7, .int x7), (8, .int x8), (9, .int x9), (10, .int x10)]) hx hb dX4_newcomer_167 hl (by decide) rfl (fun ls hl => ?_)
  refine lv_iload hx hb dX4_newcomer_169 (lv_at hl 7 rfl) ?_
  refine wq_if_eq (tgt := 179) hx hb dX4_newcomer_171 (by decide) hf (fun hf => ?_) (fun hf => ?_)
  · refine lv_iload hx hb dX4_newcomer_179 (lv_at hl 4 rfl) ?_
    exact w_X4_newcomer_181 C hk113 hk130 hf hM (lv_sub hl [1, 2, 3, 0, 5, 6] rfl)
  refine lv_iload hx hb dX4_newcomer_174 (lv_at hl 5 rfl) ?_
  refine lv_goto (tgt := 181) hx hb dX4_newcomer_176 (by decide) ?_
  exact w_X4_newcomer_181 C hk113 hk130 hf hM (lv_sub hl [1, 2, 3, 0, 5, 6] rfl)
set_option maxHeartbeats 4000000 in
set_option maxRecDepth 100000 in
theorem w_X4_newcomer_153 (C : wt_C p s m args meth c RX4 cX4_newcomer 11 (some .int) D tI tII) {F : Nat} {k113 : Int32 → Int32 → Int32 → Mem → Option (Int32 × Mem)} {k130 : Int32 → Int32 → Int32 → Mem → Option (Int32 × Mem)} {x3 : Int32} {x5 : Int32} {x6 : Int32} {x7 : Int32} {x8 : Int32} {x9 : Int32} {t0 : Int32} {σ : Mem} {r : Int32} {σ' : Mem} {H : Heap} {locs : List Loc} {ls : Array Slot} (hk113 : ∀ (x6 : Int32) (x7 : Int32) (x8 : Int32) (σ : Mem) (H : Heap) (locs : List Loc) (ls : Array Slot), k113 x6 x7 x8 σ = some (r, σ') → wt_St D tI tII B σ s H locs → lv_has ls 11 [(0, .ref (B + 101)), (3, .int x3), (5, .int x5), (6, .int x6), (7, .int x7), (8, .int x8)] → W p l e rm_X4_newcomer s m args below meth c H locs 0 0 (MQ below (wt_Qi D tI tII B r σ') args s 0 0 (fun q => B ≤ q)) (F0 m 113 ls [])) (hk130 : ∀ (x6 : Int32) (x7 : Int32) (x9 : Int32) (σ : Mem) (H : Heap) (locs : List Loc) (ls : Array Slot), k130 x6 x7 x9 σ = some (r, σ') → wt_St D tI tII B σ s H locs → lv_has ls 11 [(0, .ref (B + 101)), (3, .int x3), (5, .int x5), (6, .int x6), (7, .int x7), (8, .int x8), (9, .int x9)] → W p l e rm_X4_newcomer s m args below meth c H locs 0 0 (MQ below (wt_Qi D tI tII B r σ') args s 0 0 (fun q => B ≤ q)) (F0 m 130 ls [])) (hf : j_X4_newcomer_153 F k113 k130 x3 x5 x6 x7 x8 x9 t0 σ = some (r, σ')) (hM : wt_St D tI tII B σ s H locs) (hl : lv_has ls 11 [(0, .ref (B + 101)), (3, .int x3), (5, .int x5), (6, .int x6), (7, .int x7), (8, .int x8), (9, .int x9)]) : W p l e rm_X4_newcomer s m args below meth c H locs 0 0 (MQ below (wt_Qi D tI tII B r σ') args s 0 0 (fun q => B ≤ q)) (F0 m 153 ls [.int t0]) := by
  obtain ⟨hx, hb, hts, hown, hml, hr, hlk, hK⟩ := id C
  replace hf := Eq.trans j_X4_newcomer_153_e.symm hf
  refine lv_istore (lv' := [(10, .int t0), (0, .ref (B + 101)), (3, .int x3), (5, .int x5), (6, .int x6), (7, .int x7), (8, .int x8), (9, .int x9)]) hx hb dX4_newcomer_153 hl (by decide) rfl (fun ls hl => ?_)
  refine lv_iload hx hb dX4_newcomer_155 (lv_at hl 0 rfl) ?_
  refine wq_if_eq (tgt := 165) hx hb dX4_newcomer_157 (by decide) hf (fun hf => ?_) (fun hf => ?_)
  · refine lv_iload hx hb dX4_newcomer_165 (lv_at hl 4 rfl) ?_
    exact w_X4_newcomer_167 C hk113 hk130 hf hM (lv_sub hl [1, 2, 3, 5, 6, 7, 0] rfl)
  refine lv_iload hx hb dX4_newcomer_160 (lv_at hl 7 rfl) ?_
  refine lv_goto (tgt := 167) hx hb dX4_newcomer_162 (by decide) ?_
  exact w_X4_newcomer_167 C hk113 hk130 hf hM (lv_sub hl [1, 2, 3, 5, 6, 7, 0] rfl)
set_option maxHeartbeats 4000000 in
set_option maxRecDepth 100000 in
theorem w_X4_newcomer_130 (C : wt_C p s m args meth c RX4 cX4_newcomer 11 (some .int) D tI tII) {F : Nat} {k113 : Int32 → Int32 → Int32 → Mem → Option (Int32 × Mem)} {x3 : Int32} {x5 : Int32} {x8 : Int32} {r : Int32} {σ' : Mem} (hk113 : ∀ (x6 : Int32) (x7 : Int32) (x8 : Int32) (σ : Mem) (H : Heap) (locs : List Loc) (ls : Array Slot), k113 x6 x7 x8 σ = some (r, σ') → wt_St D tI tII B σ s H locs → lv_has ls 11 [(0, .ref (B + 101)), (3, .int x3), (5, .int x5), (6, .int x6), (7, .int x7), (8, .int x8)] → W p l e rm_X4_newcomer s m args below meth c H locs 0 0 (MQ below (wt_Qi D tI tII B r σ') args s 0 0 (fun q => B ≤ q)) (F0 m 113 ls [])) : ∀ (N : Nat) (x6 : Int32) (x7 : Int32) (x9 : Int32) (σ : Mem) (H : Heap) (locs : List Loc) (ls : Array Slot), lp_X4_newcomer_130 F k113 x3 x5 x8 N x6 x7 x9 σ = some (r, σ') → wt_St D tI tII B σ s H locs → lv_has ls 11 [(0, .ref (B + 101)), (3, .int x3), (5, .int x5), (6, .int x6), (7, .int x7), (8, .int x8), (9, .int x9)] → W p l e rm_X4_newcomer s m args below meth c H locs 0 0 (MQ below (wt_Qi D tI tII B r σ') args s 0 0 (fun q => B ≤ q)) (F0 m 130 ls []) := by
  obtain ⟨hx, hb, hts, hown, hml, hr, hlk, hK⟩ := id C
  intro N
  induction N with
  | zero => intro x6 x7 x9 σ H locs ls hf; exact wt_none (show (none : Option (Int32 × Mem)) = some (r, σ') from hf)
  | succ N ih =>
    intro x6 x7 x9 σ H locs ls hf hM hl
    replace hf := Eq.trans lp_X4_newcomer_130_s.symm hf
    refine lv_iload hx hb dX4_newcomer_130 (lv_at hl 6 rfl) ?_
    refine wq_if_lt (tgt := 189) hx hb dX4_newcomer_132 (by decide) hf (fun hf => ?_) (fun hf => ?_)
    · refine lv_iinc (v := (x8 + (1 : Int32))) (lv' := [(8, .int (x8 + (1 : Int32))), (0, .ref (B + 101)), (3, .int x3), (5, .int x5), (6, .int x6), (7, .int x7), (9, .int x9)]) hx hb dX4_newcomer_189 hl (k := 5) rfl rfl (by decide) rfl (fun ls hl => ?_)
      refine lv_goto (tgt := 113) hx hb dX4_newcomer_192 (by decide) ?_
      exact hk113 _ _ _ _ _ _ _ hf hM (lv_sub hl [1, 2, 3, 4, 5, 0] rfl)
    refine lv_aload_n hx hb dX4_newcomer_135 rfl (lv_at hl 0 rfl) ?_
    refine lv_iload hx hb dX4_newcomer_136 (lv_at hl 6 rfl) ?_
    refine lv_iload hx hb dX4_newcomer_138 (lv_at hl 5 rfl) ?_
    refine wt_callVi (As := [.int x9, .int x8]) (rest := []) hx hb hml hts hown hK hM wt_rc_X4 cw_X4_125 hd_X4_ownerIn rfl ⟨qz_b rfl, qz_b rfl⟩ ⟨rfl, rfl⟩ hl.1 rfl (qz_b rfl) dX4_newcomer_140 hf (fun _ _ h9 => c_X4_ownerIn h9) (fun r1 s2 H locs hf hM => ?_)
    refine lv_iload hx hb dX4_newcomer_143 (lv_at hl 2 rfl) ?_
    refine wq_icmp_ne (tgt := 152) hx hb dX4_newcomer_145 (by decide) hf (fun hf => ?_) (fun hf => ?_)
    · refine lv_iconst (v := 0) hx hb dX4_newcomer_152 (by decide) ?_
      exact w_X4_newcomer_153 C hk113 ih hf hM hl
    refine lv_iconst (v := 1) hx hb dX4_newcomer_148 (by decide) ?_
    refine lv_goto (tgt := 153) hx hb dX4_newcomer_149 (by decide) ?_
    exact w_X4_newcomer_153 C hk113 ih hf hM hl
set_option maxHeartbeats 4000000 in
set_option maxRecDepth 100000 in
theorem w_X4_newcomer_195 (C : wt_C p s m args meth c RX4 cX4_newcomer 11 (some .int) D tI tII) {F : Nat} {x3 : Int32} {x5 : Int32} {x6 : Int32} {x7 : Int32} {σ : Mem} {r : Int32} {σ' : Mem} {H : Heap} {locs : List Loc} {ls : Array Slot} (hf : j_X4_newcomer_195 F x3 x5 x6 x7 σ = some (r, σ')) (hM : wt_St D tI tII B σ s H locs) (hl : lv_has ls 11 [(0, .ref (B + 101)), (3, .int x3), (5, .int x5), (6, .int x6), (7, .int x7)]) : W p l e rm_X4_newcomer s m args below meth c H locs 0 0 (MQ below (wt_Qi D tI tII B r σ') args s 0 0 (fun q => B ≤ q)) (F0 m 195 ls []) := by
  obtain ⟨hx, hb, hts, hown, hml, hr, hlk, hK⟩ := id C
  replace hf := Eq.trans j_X4_newcomer_195_e.symm hf
  refine lv_aload_n hx hb dX4_newcomer_195 rfl (lv_at hl 0 rfl) ?_
  refine lv_iload hx hb dX4_newcomer_196 (lv_at hl 2 rfl) ?_
  refine lv_iconst (v := 0) hx hb dX4_newcomer_198 (by decide) ?_
  refine lv_bipush (v := 23) hx hb dX4_newcomer_199 (by decide) ?_
  refine lv_bipush (v := 9) hx hb dX4_newcomer_201 (by decide) ?_
  refine wt_callVv (As := [.int x5, .int (0 : Int32), .int (23 : Int32), .int (9 : Int32)]) (rest := []) hx hb hml hts hown hK hM wt_rc_X4 cw_X4_182 hd_X4_stand rfl ⟨qz_b rfl, qz_b rfl⟩ ⟨rfl, rfl⟩ hl.1 rfl (qz_b rfl) dX4_newcomer_203 hf (fun _ _ h9 => c_X4_stand h9) (fun r3 s4 H locs hf hM => ?_)
  refine lv_aload_n hx hb dX4_newcomer_206 rfl (lv_at hl 0 rfl) ?_
  refine wt_callVv (As := []) (rest := []) hx hb hml hts hown hK hM wt_rc_X4 cw_X4_201 hd_X4_again rfl ⟨qz_b rfl, qz_b rfl⟩ ⟨rfl, rfl⟩ hl.1 rfl (qz_b rfl) dX4_newcomer_207 hf (fun _ _ h9 => c_X4_again h9) (fun r5 s6 H locs hf hM => ?_)
  refine lv_iload_n hx hb dX4_newcomer_210 rfl (lv_at hl 1 rfl) ?_
  refine wq_if_ne (tgt := 219) hx hb dX4_newcomer_211 (by decide) hf (fun hf => ?_) (fun hf => ?_)
  · refine lv_iload hx hb dX4_newcomer_219 (lv_at hl 3 rfl) ?_
    exact wt_iret hx hb hr hlk hK hM hf dX4_newcomer_221
  refine lv_iload hx hb dX4_newcomer_214 (lv_at hl 4 rfl) ?_
  refine lv_goto (tgt := 221) hx hb dX4_newcomer_216 (by decide) ?_
  exact wt_iret hx hb hr hlk hK hM hf dX4_newcomer_221
set_option maxHeartbeats 4000000 in
set_option maxRecDepth 100000 in
theorem w_X4_newcomer_113 (C : wt_C p s m args meth c RX4 cX4_newcomer 11 (some .int) D tI tII) {F : Nat} {x3 : Int32} {x5 : Int32} {r : Int32} {σ' : Mem} : ∀ (N : Nat) (x6 : Int32) (x7 : Int32) (x8 : Int32) (σ : Mem) (H : Heap) (locs : List Loc) (ls : Array Slot), lp_X4_newcomer_113 F x3 x5 N x6 x7 x8 σ = some (r, σ') → wt_St D tI tII B σ s H locs → lv_has ls 11 [(0, .ref (B + 101)), (3, .int x3), (5, .int x5), (6, .int x6), (7, .int x7), (8, .int x8)] → W p l e rm_X4_newcomer s m args below meth c H locs 0 0 (MQ below (wt_Qi D tI tII B r σ') args s 0 0 (fun q => B ≤ q)) (F0 m 113 ls []) := by
  obtain ⟨hx, hb, hts, hown, hml, hr, hlk, hK⟩ := id C
  intro N
  induction N with
  | zero => intro x6 x7 x8 σ H locs ls hf; exact wt_none (show (none : Option (Int32 × Mem)) = some (r, σ') from hf)
  | succ N ih =>
    intro x6 x7 x8 σ H locs ls hf hM hl
    replace hf := Eq.trans lp_X4_newcomer_113_s.symm hf
    refine lv_iload hx hb dX4_newcomer_113 (lv_at hl 5 rfl) ?_
    refine lv_sipush (v := 999) hx hb dX4_newcomer_115 (by decide) ?_
    refine wq_icmp_gt (tgt := 195) hx hb dX4_newcomer_118 (by decide) hf (fun hf => ?_) (fun hf => ?_)
    · exact w_X4_newcomer_195 C hf hM (lv_sub hl [0, 1, 2, 3, 4] rfl)
    refine lv_iload hx hb dX4_newcomer_121 (lv_at hl 4 rfl) ?_
    refine wq_if_ge (tgt := 195) hx hb dX4_newcomer_123 (by decide) hf (fun hf => ?_) (fun hf => ?_)
    · exact w_X4_newcomer_195 C hf hM (lv_sub hl [0, 1, 2, 3, 4] rfl)
    refine lv_bipush (v := 7) hx hb dX4_newcomer_126 (by decide) ?_
    refine lv_istore (lv' := [(9, .int (7 : Int32)), (0, .ref (B + 101)), (3, .int x3), (5, .int x5), (6, .int x6), (7, .int x7), (8, .int x8)]) hx hb dX4_newcomer_128 hl (by decide) rfl (fun ls hl => ?_)
    exact w_X4_newcomer_130 C ih _ _ _ _ _ _ _ _ hf hM (lv_sub hl [1, 2, 3, 4, 5, 6, 0] rfl)
set_option maxHeartbeats 4000000 in
set_option maxRecDepth 100000 in
theorem w_X4_newcomer_58 (C : wt_C p s m args meth c RX4 cX4_newcomer 11 (some .int) D tI tII) {F : Nat} {x1 : Int32} {x2 : Int32} {x3 : Int32} {t0 : Int32} {σ : Mem} {r : Int32} {σ' : Mem} {H : Heap} {locs : List Loc} {ls : Array Slot} (hf : j_X4_newcomer_58 F x1 x2 x3 t0 σ = some (r, σ')) (hM : wt_St D tI tII B σ s H locs) (hl : lv_has ls 11 [(0, .ref (B + 101)), (1, .int x1), (2, .int x2), (3, .int x3)]) : W p l e rm_X4_newcomer s m args below meth c H locs 0 0 (MQ below (wt_Qi D tI tII B r σ') args s 0 0 (fun q => B ≤ q)) (F0 m 58 ls [.int t0]) := by
  obtain ⟨hx, hb, hts, hown, hml, hr, hlk, hK⟩ := id C
  replace hf := Eq.trans j_X4_newcomer_58_e.symm hf
  refine lv_istore (lv' := [(4, .int t0), (0, .ref (B + 101)), (1, .int x1), (2, .int x2), (3, .int x3)]) hx hb dX4_newcomer_58 hl (by decide) rfl (fun ls hl => ?_)
  refine lv_iload hx hb dX4_newcomer_60 (lv_at hl 0 rfl) ?_
  refine wq_if_ge (tgt := 72) hx hb dX4_newcomer_62 (by decide) hf (fun hf => ?_) (fun hf => ?_)
  · refine lv_aload_n hx hb dX4_newcomer_72 rfl (lv_at hl 1 rfl) ?_
    refine gf_X4_lookers  hx hb hts hown hK hM tw_713 dX4_newcomer_73 ?_
    refine lv_istore (lv' := [(5, .int (σ 101 3)), (4, .int t0), (0, .ref (B + 101)), (1, .int x1), (2, .int x2), (3, .int x3)]) hx hb dX4_newcomer_76 hl (by decide) rfl (fun ls hl => ?_)
    refine lv_bipush (v := -9) hx hb dX4_newcomer_78 (by decide) ?_
    refine lv_istore (lv' := [(6, .int (-9 : Int32)), (5, .int (σ 101 3)), (4, .int t0), (0, .ref (B + 101)), (1, .int x1), (2, .int x2), (3, .int x3)]) hx hb dX4_newcomer_80 hl (by decide) rfl (fun ls hl => ?_)
    refine lv_bipush (v := -9) hx hb dX4_newcomer_82 (by decide) ?_
    refine lv_istore (lv' := [(7, .int (-9 : Int32)), (6, .int (-9 : Int32)), (5, .int (σ 101 3)), (4, .int t0), (0, .ref (B + 101)), (1, .int x1), (2, .int x2), (3, .int x3)]) hx hb dX4_newcomer_84 hl (by decide) rfl (fun ls hl => ?_)
    refine lv_aload_n hx hb dX4_newcomer_86 rfl (lv_at hl 4 rfl) ?_
    refine wt_callVv (As := []) (rest := []) hx hb hml hts hown hK hM wt_rc_X4 cw_X4_195 hd_X4_think rfl ⟨qz_b rfl, qz_b rfl⟩ ⟨rfl, rfl⟩ hl.1 rfl (qz_b rfl) dX4_newcomer_87 hf (fun _ _ h9 => c_X4_think h9) (fun r7 s8 H locs hf hM => ?_)
    refine lv_aload_n hx hb dX4_newcomer_90 rfl (lv_at hl 4 rfl) ?_
    refine lv_iload_n hx hb dX4_newcomer_91 rfl (lv_at hl 5 rfl) ?_
    refine lv_iconst (v := 5) hx hb dX4_newcomer_92 (by decide) ?_
    refine wt_callVv (As := [.int x1, .int (5 : Int32)]) (rest := []) hx hb hml hts hown hK hM wt_rc_X4 cw_X4_176 hd_X4_lookerComes rfl ⟨qz_b rfl, qz_b rfl⟩ ⟨rfl, rfl⟩ hl.1 rfl (qz_b rfl) dX4_newcomer_93 hf (fun _ _ h9 => c_X4_lookerComes h9) (fun r9 s10 H locs hf hM => ?_)
    refine lv_aload_n hx hb dX4_newcomer_96 rfl (lv_at hl 4 rfl) ?_
    refine lv_iload hx hb dX4_newcomer_97 (lv_at hl 2 rfl) ?_
    refine lv_iconst (v := 0) hx hb dX4_newcomer_99 (by decide) ?_
    refine lv_bipush (v := 23) hx hb dX4_newcomer_100 (by decide) ?_
    refine lv_iload_n hx hb dX4_newcomer_102 rfl (lv_at hl 6 rfl) ?_
    refine wt_callVv (As := [.int (σ 101 3), .int (0 : Int32), .int (23 : Int32), .int x2]) (rest := []) hx hb hml hts hown hK hM wt_rc_X4 cw_X4_182 hd_X4_stand rfl ⟨qz_b rfl, qz_b rfl⟩ ⟨rfl, rfl⟩ hl.1 rfl (qz_b rfl) dX4_newcomer_103 hf (fun _ _ h9 => c_X4_stand h9) (fun r11 s12 H locs hf hM => ?_)
    refine lv_aload_n hx hb dX4_newcomer_106 rfl (lv_at hl 4 rfl) ?_
    refine wt_callVv (As := []) (rest := []) hx hb hml hts hown hK hM wt_rc_X4 cw_X4_134 hd_X4_layBrings rfl ⟨qz_b rfl, qz_b rfl⟩ ⟨rfl, rfl⟩ hl.1 rfl (qz_b rfl) dX4_newcomer_107 hf (fun _ _ h9 => c_X4_layBrings h9) (fun r13 s14 H locs hf hM => ?_)
    refine lv_iconst (v := 0) hx hb dX4_newcomer_110 (by decide) ?_
    refine lv_istore (lv' := [(8, .int (0 : Int32)), (7, .int (-9 : Int32)), (6, .int (-9 : Int32)), (5, .int (σ 101 3)), (4, .int t0), (0, .ref (B + 101)), (1, .int x1), (2, .int x2), (3, .int x3)]) hx hb dX4_newcomer_111 hl (by decide) rfl (fun ls hl => ?_)
    exact w_X4_newcomer_113 C _ _ _ _ _ _ _ _ hf hM (lv_sub hl [5, 8, 3, 2, 1, 0] rfl)
  refine lv_aload_n hx hb dX4_newcomer_65 rfl (lv_at hl 1 rfl) ?_
  refine lv_iload hx hb dX4_newcomer_66 (lv_at hl 0 rfl) ?_
  refine wt_callVi (As := [.int t0]) (rest := []) hx hb hml hts hown hK hM wt_rc_X4 cw_X4_143 hd_X4_refuse rfl ⟨qz_b rfl, qz_b rfl⟩ ⟨rfl, rfl⟩ hl.1 rfl (qz_b rfl) dX4_newcomer_68 hf (fun _ _ h9 => c_X4_refuse h9) (fun r15 s16 H locs hf hM => ?_)
  exact wt_iret hx hb hr hlk hK hM hf dX4_newcomer_71
set_option maxHeartbeats 4000000 in
set_option maxRecDepth 100000 in
theorem w_X4_newcomer_39 (C : wt_C p s m args meth c RX4 cX4_newcomer 11 (some .int) D tI tII) {F : Nat} {x1 : Int32} {x2 : Int32} {x3 : Int32} {σ : Mem} {r : Int32} {σ' : Mem} {H : Heap} {locs : List Loc} {ls : Array Slot} (hf : j_X4_newcomer_39 F x1 x2 x3 σ = some (r, σ')) (hM : wt_St D tI tII B σ s H locs) (hl : lv_has ls 11 [(0, .ref (B + 101)), (1, .int x1), (2, .int x2), (3, .int x3)]) : W p l e rm_X4_newcomer s m args below meth c H locs 0 0 (MQ below (wt_Qi D tI tII B r σ') args s 0 0 (fun q => B ≤ q)) (F0 m 39 ls []) := by
  obtain ⟨hx, hb, hts, hown, hml, hr, hlk, hK⟩ := id C
  replace hf := Eq.trans j_X4_newcomer_39_e.symm hf
  refine lv_bipush (v := -2) hx hb dX4_newcomer_39 (by decide) ?_
  refine lv_goto (tgt := 58) hx hb dX4_newcomer_41 (by decide) ?_
  exact w_X4_newcomer_58 C hf hM hl
set_option maxHeartbeats 4000000 in
set_option maxRecDepth 100000 in
theorem w_X4_newcomer_0 (C : wt_C p s m args meth c RX4 cX4_newcomer 11 (some .int) D tI tII) {F : Nat} {x1 : Int32} {x2 : Int32} {x3 : Int32} {σ : Mem} {r : Int32} {σ' : Mem} {H : Heap} {locs : List Loc} {ls : Array Slot} (hf : f_X4_newcomer F x1 x2 x3 σ = some (r, σ')) (hM : wt_St D tI tII B σ s H locs) (hl : lv_has ls 11 [(0, .ref (B + 101)), (1, .int x1), (2, .int x2), (3, .int x3)]) : W p l e rm_X4_newcomer s m args below meth c H locs 0 0 (MQ below (wt_Qi D tI tII B r σ') args s 0 0 (fun q => B ≤ q)) (F0 m 0 ls []) := by
  obtain ⟨hx, hb, hts, hown, hml, hr, hlk, hK⟩ := id C
  replace hf := Eq.trans f_X4_newcomer_e.symm hf
  refine lv_aload_n hx hb dX4_newcomer_0 rfl (lv_at hl 0 rfl) ?_
  refine lv_iconst (v := 0) hx hb dX4_newcomer_1 (by decide) ?_
  refine pf_X4_thrown  hx hb hts hown hK hM tw_720 dX4_newcomer_2 hf (fun s17 H locs hf hM => ?_)
  refine lv_aload_n hx hb dX4_newcomer_5 rfl (lv_at hl 0 rfl) ?_
  refine lv_iload_n hx hb dX4_newcomer_6 rfl (lv_at hl 2 rfl) ?_
  refine wt_callVi (As := [.int x2]) (rest := []) hx hb hml hts hown hK hM wt_rc_X4 cw_X4_179 hd_X4_isPane rfl ⟨qz_b rfl, qz_b rfl⟩ ⟨rfl, rfl⟩ hl.1 rfl (qz_b rfl) dX4_newcomer_7 hf (fun _ _ h9 => c_X4_isPane h9) (fun r18 s19 H locs hf hM => ?_)
  refine wq_if_ne (tgt := 17) hx hb dX4_newcomer_10 (by decide) hf (fun hf => ?_) (fun hf => ?_)
  · refine lv_iload_n hx hb dX4_newcomer_17 rfl (lv_at hl 1 rfl) ?_
    refine lv_i2l (v := (Int32.toInt64 x1)) hx hb dX4_newcomer_18 rfl ?_
    refine lv_lconst (v := 0) hx hb dX4_newcomer_19 (by decide) ?_
    refine lv_ldc2 (v := 5) hx hb hown (hts _ tw_973) dX4_newcomer_20 ?_
    refine wt_callSi (As := [.long (Int32.toInt64 x1), .long (0 : Int64), .long (5 : Int64)]) (rest := []) hx hb hml hts hown hK hM cw_X4_77 hd_X4_in rfl ⟨qz_b rfl, qz_b rfl⟩ ⟨rfl, rfl⟩ hl.1 rfl (qz_b rfl) dX4_newcomer_23 hf (fun _ _ h9 => c_X4_in h9) (fun r20 s21 H locs hf hM => ?_)
    refine wq_if_eq (tgt := 39) hx hb dX4_newcomer_26 (by decide) hf (fun hf => ?_) (fun hf => ?_)
    · exact w_X4_newcomer_39 C hf hM hl
    refine lv_iload_n hx hb dX4_newcomer_29 rfl (lv_at hl 3 rfl) ?_
    refine lv_i2l (v := (Int32.toInt64 x3)) hx hb dX4_newcomer_30 rfl ?_
    refine lv_lconst (v := 0) hx hb dX4_newcomer_31 (by decide) ?_
    refine lv_lconst (v := 1) hx hb dX4_newcomer_32 (by decide) ?_
    refine wt_callSi (As := [.long (Int32.toInt64 x3), .long (0 : Int64), .long (1 : Int64)]) (rest := []) hx hb hml hts hown hK hM cw_X4_77 hd_X4_in rfl ⟨qz_b rfl, qz_b rfl⟩ ⟨rfl, rfl⟩ hl.1 rfl (qz_b rfl) dX4_newcomer_33 hf (fun _ _ h9 => c_X4_in h9) (fun r22 s23 H locs hf hM => ?_)
    refine wq_if_ne (tgt := 44) hx hb dX4_newcomer_36 (by decide) hf (fun hf => ?_) (fun hf => ?_)
    · refine lv_aload_n hx hb dX4_newcomer_44 rfl (lv_at hl 0 rfl) ?_
      refine gf_X4_lookers  hx hb hts hown hK hM tw_713 dX4_newcomer_45 ?_
      refine lv_iconst (v := 5) hx hb dX4_newcomer_48 (by decide) ?_
      refine wq_icmp_ne (tgt := 57) hx hb dX4_newcomer_49 (by decide) hf (fun hf => ?_) (fun hf => ?_)
      · refine lv_iconst (v := 0) hx hb dX4_newcomer_57 (by decide) ?_
        exact w_X4_newcomer_58 C hf hM hl
      refine lv_bipush (v := -3) hx hb dX4_newcomer_52 (by decide) ?_
      refine lv_goto (tgt := 58) hx hb dX4_newcomer_54 (by decide) ?_
      exact w_X4_newcomer_58 C hf hM hl
    exact w_X4_newcomer_39 C hf hM hl
  refine lv_iconst (v := -1) hx hb dX4_newcomer_13 (by decide) ?_
  refine lv_goto (tgt := 58) hx hb dX4_newcomer_14 (by decide) ?_
  exact w_X4_newcomer_58 C hf hM hl
end
set_option maxHeartbeats 4000000 in
set_option maxRecDepth 100000 in
theorem c_X4_newcomer {l : Launch} {D : va_G} {tI tII : ClassId} {B F : Nat} {x1 : Int32} {x2 : Int32} {x3 : Int32} {σ σ' : Mem} {r : Int32} (hf : f_X4_newcomer F x1 x2 x3 σ = some (r, σ')) : wt_Mi l yX4_newcomer cX4_newcomer 11 (some .int) rm_X4_newcomer [.ref (B + 101), .int x1, .int x2, .int x3] D tI tII B σ r σ' := by
  refine Met.ofW (cc := cX4_newcomer) (maxL := 11) (ret := (some .int)) (by decide) rfl ?_
  intro p e s m args below meth c s₁ B9 hml hv
  obtain ⟨rfl, hP, hK⟩ := hv
  have hl := lv_entry ([.ref (B + 101), .int x1, .int x2, .int x3]) (n := 11) (qz_b rfl)
  rw [lg_entry_eq]
  generalize (lg_sl ([.ref (B + 101), .int x1, .int x2, .int x3]) ++ List.replicate (11 - (lg_sl ([.ref (B + 101), .int x1, .int x2, .int x3])).length) Slot.unset).toArray = ls at hl ⊢
  exact w_X4_newcomer_0 (wt_C_of B9 hml hK) hf ⟨hP, va_S.rf⟩ hl
section
variable {p : Program} {l : Launch} {e : Env} {s : State} {m : MethodId} {args : Array Value} {below : List Frame} {meth : Method} {c : Code} {D : va_G} {tI tII : ClassId} {B : Nat}
set_option maxHeartbeats 4000000 in
set_option maxRecDepth 100000 in
theorem w_X4_broughtToAll_4 (C : wt_C p s m args meth c RX4 cX4_broughtToAll 4 (some .int) D tI tII) {F : Nat} {x1 : Int32} {r : Int32} {σ' : Mem} : ∀ (N : Nat) (x2 : Int32) (x3 : Int32) (σ : Mem) (H : Heap) (locs : List Loc) (ls : Array Slot), lp_X4_broughtToAll_4 F x1 N x2 x3 σ = some (r, σ') → wt_St D tI tII B σ s H locs → lv_has ls 4 [(0, .ref (B + 101)), (1, .int x1), (2, .int x2), (3, .int x3)] → W p l e rm_X4_broughtToAll s m args below meth c H locs 0 0 (MQ below (wt_Qi D tI tII B r σ') args s 0 0 (fun q => B ≤ q)) (F0 m 4 ls []) := by
  obtain ⟨hx, hb, hts, hown, hml, hr, hlk, hK⟩ := id C
  intro N
  induction N with
  | zero => intro x2 x3 σ H locs ls hf; exact wt_none (show (none : Option (Int32 × Mem)) = some (r, σ') from hf)
  | succ N ih =>
    intro x2 x3 σ H locs ls hf hM hl
    replace hf := Eq.trans lp_X4_broughtToAll_4_s.symm hf
    refine lv_iload_n hx hb dX4_broughtToAll_4 rfl (lv_at hl 3 rfl) ?_
    refine lv_aload_n hx hb dX4_broughtToAll_5 rfl (lv_at hl 0 rfl) ?_
    refine gf_X4_lookers  hx hb hts hown hK hM tw_713 dX4_broughtToAll_6 ?_
    refine wq_icmp_ge (tgt := 32) hx hb dX4_broughtToAll_9 (by decide) hf (fun hf => ?_) (fun hf => ?_)
    · refine lv_iload_n hx hb dX4_broughtToAll_32 rfl (lv_at hl 2 rfl) ?_
      exact wt_iret hx hb hr hlk hK hM hf dX4_broughtToAll_33
    refine lv_iload_n hx hb dX4_broughtToAll_12 rfl (lv_at hl 2 rfl) ?_
    refine lv_aload_n hx hb dX4_broughtToAll_13 rfl (lv_at hl 0 rfl) ?_
    refine gf_X4_brings  hx hb hts hown hK hM tw_722 dX4_broughtToAll_14 ?_
    refine lv_bipush (v := 8) hx hb dX4_broughtToAll_17 (by decide) ?_
    refine lv_iload_n hx hb dX4_broughtToAll_19 rfl (lv_at hl 3 rfl) ?_
    refine lv_imul hx hb dX4_broughtToAll_20 ?_
    refine lv_iload_n hx hb dX4_broughtToAll_21 rfl (lv_at hl 1 rfl) ?_
    refine lv_iadd hx hb dX4_broughtToAll_22 ?_
    obtain ⟨i1, hf⟩ := wt_chk_of hf
    refine wt_ild hx hb hK hM wt_a109 i1 dX4_broughtToAll_23 ?_
    refine lv_iadd hx hb dX4_broughtToAll_24 ?_
    refine wt_leti hf (fun z2 hf => ?_)
    refine lv_istore_n (lv' := [(2, .int z2), (0, .ref (B + 101)), (1, .int x1), (3, .int x3)]) hx hb dX4_broughtToAll_25 rfl hl (by decide) rfl (fun ls hl => ?_)
    refine lv_iinc (v := (x3 + (1 : Int32))) (lv' := [(3, .int (x3 + (1 : Int32))), (2, .int z2), (0, .ref (B + 101)), (1, .int x1)]) hx hb dX4_broughtToAll_26 hl (k := 3) rfl rfl (by decide) rfl (fun ls hl => ?_)
    refine lv_goto (tgt := 4) hx hb dX4_broughtToAll_29 (by decide) ?_
    exact ih _ _ _ _ _ _ hf hM (lv_sub hl [2, 3, 1, 0] rfl)
set_option maxHeartbeats 4000000 in
set_option maxRecDepth 100000 in
theorem w_X4_broughtToAll_0 (C : wt_C p s m args meth c RX4 cX4_broughtToAll 4 (some .int) D tI tII) {F : Nat} {x1 : Int32} {σ : Mem} {r : Int32} {σ' : Mem} {H : Heap} {locs : List Loc} {ls : Array Slot} (hf : f_X4_broughtToAll F x1 σ = some (r, σ')) (hM : wt_St D tI tII B σ s H locs) (hl : lv_has ls 4 [(0, .ref (B + 101)), (1, .int x1)]) : W p l e rm_X4_broughtToAll s m args below meth c H locs 0 0 (MQ below (wt_Qi D tI tII B r σ') args s 0 0 (fun q => B ≤ q)) (F0 m 0 ls []) := by
  obtain ⟨hx, hb, hts, hown, hml, hr, hlk, hK⟩ := id C
  replace hf := Eq.trans f_X4_broughtToAll_e.symm hf
  refine lv_iconst (v := 0) hx hb dX4_broughtToAll_0 (by decide) ?_
  refine lv_istore_n (lv' := [(2, .int (0 : Int32)), (0, .ref (B + 101)), (1, .int x1)]) hx hb dX4_broughtToAll_1 rfl hl (by decide) rfl (fun ls hl => ?_)
  refine lv_iconst (v := 0) hx hb dX4_broughtToAll_2 (by decide) ?_
  refine lv_istore_n (lv' := [(3, .int (0 : Int32)), (2, .int (0 : Int32)), (0, .ref (B + 101)), (1, .int x1)]) hx hb dX4_broughtToAll_3 rfl hl (by decide) rfl (fun ls hl => ?_)
  exact w_X4_broughtToAll_4 C _ _ _ _ _ _ _ hf hM (lv_sub hl [2, 3, 1, 0] rfl)
end
set_option maxHeartbeats 4000000 in
set_option maxRecDepth 100000 in
theorem c_X4_broughtToAll {l : Launch} {D : va_G} {tI tII : ClassId} {B F : Nat} {x1 : Int32} {σ σ' : Mem} {r : Int32} (hf : f_X4_broughtToAll F x1 σ = some (r, σ')) : wt_Mi l yX4_broughtToAll cX4_broughtToAll 4 (some .int) rm_X4_broughtToAll [.ref (B + 101), .int x1] D tI tII B σ r σ' := by
  refine Met.ofW (cc := cX4_broughtToAll) (maxL := 4) (ret := (some .int)) (by decide) rfl ?_
  intro p e s m args below meth c s₁ B9 hml hv
  obtain ⟨rfl, hP, hK⟩ := hv
  have hl := lv_entry ([.ref (B + 101), .int x1]) (n := 4) (qz_b rfl)
  rw [lg_entry_eq]
  generalize (lg_sl ([.ref (B + 101), .int x1]) ++ List.replicate (4 - (lg_sl ([.ref (B + 101), .int x1])).length) Slot.unset).toArray = ls at hl ⊢
  exact w_X4_broughtToAll_0 (wt_C_of B9 hml hK) hf ⟨hP, va_S.rf⟩ hl
section
variable {p : Program} {l : Launch} {e : Env} {s : State} {m : MethodId} {args : Array Value} {below : List Frame} {meth : Method} {c : Code} {D : va_G} {tI tII : ClassId} {B : Nat}
set_option maxHeartbeats 4000000 in
set_option maxRecDepth 100000 in
theorem w_X4_mostSeen_54 (C : wt_C p s m args meth c RX4 cX4_mostSeen 4 (some .int) D tI tII) {F : Nat} {k30 : Int32 → Int32 → Mem → Option (Int32 × Mem)} {x1 : Int32} {x3 : Int32} {t0 : Int32} {σ : Mem} {r : Int32} {σ' : Mem} {H : Heap} {locs : List Loc} {ls : Array Slot} (hk30 : ∀ (x2 : Int32) (x3 : Int32) (σ : Mem) (H : Heap) (locs : List Loc) (ls : Array Slot), k30 x2 x3 σ = some (r, σ') → wt_St D tI tII B σ s H locs → lv_has ls 4 [(0, .ref (B + 101)), (1, .int x1), (2, .int x2), (3, .int x3)] → W p l e rm_X4_mostSeen s m args below meth c H locs 0 0 (MQ below (wt_Qi D tI tII B r σ') args s 0 0 (fun q => B ≤ q)) (F0 m 30 ls [])) (hf : j_X4_mostSeen_54 F k30 x1 x3 t0 σ = some (r, σ')) (hM : wt_St D tI tII B σ s H locs) (hl : lv_has ls 4 [(0, .ref (B + 101)), (1, .int x1), (3, .int x3)]) : W p l e rm_X4_mostSeen s m args below meth c H locs 0 0 (MQ below (wt_Qi D tI tII B r σ') args s 0 0 (fun q => B ≤ q)) (F0 m 54 ls [.int t0]) := by
  obtain ⟨hx, hb, hts, hown, hml, hr, hlk, hK⟩ := id C
  replace hf := Eq.trans j_X4_mostSeen_54_e.symm hf
  refine lv_istore_n (lv' := [(2, .int t0), (0, .ref (B + 101)), (1, .int x1), (3, .int x3)]) hx hb dX4_mostSeen_54 rfl hl (by decide) rfl (fun ls hl => ?_)
  refine lv_iinc (v := (x3 + (1 : Int32))) (lv' := [(3, .int (x3 + (1 : Int32))), (2, .int t0), (0, .ref (B + 101)), (1, .int x1)]) hx hb dX4_mostSeen_55 hl (k := 3) rfl rfl (by decide) rfl (fun ls hl => ?_)
  refine lv_goto (tgt := 30) hx hb dX4_mostSeen_58 (by decide) ?_
  exact hk30 _ _ _ _ _ _ hf hM (lv_sub hl [2, 3, 1, 0] rfl)
set_option maxHeartbeats 4000000 in
set_option maxRecDepth 100000 in
theorem w_X4_mostSeen_30 (C : wt_C p s m args meth c RX4 cX4_mostSeen 4 (some .int) D tI tII) {F : Nat} {x1 : Int32} {r : Int32} {σ' : Mem} : ∀ (N : Nat) (x2 : Int32) (x3 : Int32) (σ : Mem) (H : Heap) (locs : List Loc) (ls : Array Slot), lp_X4_mostSeen_30 F x1 N x2 x3 σ = some (r, σ') → wt_St D tI tII B σ s H locs → lv_has ls 4 [(0, .ref (B + 101)), (1, .int x1), (2, .int x2), (3, .int x3)] → W p l e rm_X4_mostSeen s m args below meth c H locs 0 0 (MQ below (wt_Qi D tI tII B r σ') args s 0 0 (fun q => B ≤ q)) (F0 m 30 ls []) := by
  obtain ⟨hx, hb, hts, hown, hml, hr, hlk, hK⟩ := id C
  intro N
  induction N with
  | zero => intro x2 x3 σ H locs ls hf; exact wt_none (show (none : Option (Int32 × Mem)) = some (r, σ') from hf)
  | succ N ih =>
    intro x2 x3 σ H locs ls hf hM hl
    replace hf := Eq.trans lp_X4_mostSeen_30_s.symm hf
    refine lv_iload_n hx hb dX4_mostSeen_30 rfl (lv_at hl 3 rfl) ?_
    refine lv_bipush (v := 8) hx hb dX4_mostSeen_31 (by decide) ?_
    refine wq_icmp_ge (tgt := 61) hx hb dX4_mostSeen_33 (by decide) hf (fun hf => ?_) (fun hf => ?_)
    · refine lv_iload_n hx hb dX4_mostSeen_61 rfl (lv_at hl 1 rfl) ?_
      refine wq_if_ne (tgt := 69) hx hb dX4_mostSeen_62 (by decide) hf (fun hf => ?_) (fun hf => ?_)
      · refine lv_aload_n hx hb dX4_mostSeen_69 rfl (lv_at hl 0 rfl) ?_
        refine lv_iload_n hx hb dX4_mostSeen_70 rfl (lv_at hl 2 rfl) ?_
        refine wt_callVi (As := [.int x2]) (rest := []) hx hb hml hts hown hK hM wt_rc_X4 cw_X4_294 hd_X4_broughtToAll rfl ⟨qz_b rfl, qz_b rfl⟩ ⟨rfl, rfl⟩ hl.1 rfl (qz_b rfl) dX4_mostSeen_71 hf (fun _ _ h9 => c_X4_broughtToAll h9) (fun r1 s2 H locs hf hM => ?_)
        exact wt_iret hx hb hr hlk hK hM hf dX4_mostSeen_74
      refine lv_iload_n hx hb dX4_mostSeen_65 rfl (lv_at hl 2 rfl) ?_
      refine lv_goto (tgt := 74) hx hb dX4_mostSeen_66 (by decide) ?_
      exact wt_iret hx hb hr hlk hK hM hf dX4_mostSeen_74
    refine lv_aload_n hx hb dX4_mostSeen_36 rfl (lv_at hl 0 rfl) ?_
    refine lv_iload_n hx hb dX4_mostSeen_37 rfl (lv_at hl 3 rfl) ?_
    refine wt_callVi (As := [.int x3]) (rest := []) hx hb hml hts hown hK hM wt_rc_X4 cw_X4_294 hd_X4_broughtToAll rfl ⟨qz_b rfl, qz_b rfl⟩ ⟨rfl, rfl⟩ hl.1 rfl (qz_b rfl) dX4_mostSeen_38 hf (fun _ _ h9 => c_X4_broughtToAll h9) (fun r3 s4 H locs hf hM => ?_)
    refine lv_aload_n hx hb dX4_mostSeen_41 rfl (lv_at hl 0 rfl) ?_
    refine lv_iload_n hx hb dX4_mostSeen_42 rfl (lv_at hl 2 rfl) ?_
    refine wt_callVi (As := [.int x2]) (rest := [.int r3]) hx hb hml hts hown hK hM wt_rc_X4 cw_X4_294 hd_X4_broughtToAll rfl ⟨qz_b rfl, qz_b rfl⟩ ⟨rfl, rfl⟩ hl.1 rfl (qz_b rfl) dX4_mostSeen_43 hf (fun _ _ h9 => c_X4_broughtToAll h9) (fun r5 s6 H locs hf hM => ?_)
    refine wq_icmp_le (tgt := 53) hx hb dX4_mostSeen_46 (by decide) hf (fun hf => ?_) (fun hf => ?_)
    · refine lv_iload_n hx hb dX4_mostSeen_53 rfl (lv_at hl 2 rfl) ?_
      exact w_X4_mostSeen_54 C ih hf hM (lv_sub hl [0, 1, 3] rfl)
    refine lv_iload_n hx hb dX4_mostSeen_49 rfl (lv_at hl 3 rfl) ?_
    refine lv_goto (tgt := 54) hx hb dX4_mostSeen_50 (by decide) ?_
    exact w_X4_mostSeen_54 C ih hf hM (lv_sub hl [0, 1, 3] rfl)
set_option maxHeartbeats 4000000 in
set_option maxRecDepth 100000 in
theorem w_X4_mostSeen_0 (C : wt_C p s m args meth c RX4 cX4_mostSeen 4 (some .int) D tI tII) {F : Nat} {x1 : Int32} {σ : Mem} {r : Int32} {σ' : Mem} {H : Heap} {locs : List Loc} {ls : Array Slot} (hf : f_X4_mostSeen F x1 σ = some (r, σ')) (hM : wt_St D tI tII B σ s H locs) (hl : lv_has ls 4 [(0, .ref (B + 101)), (1, .int x1)]) : W p l e rm_X4_mostSeen s m args below meth c H locs 0 0 (MQ below (wt_Qi D tI tII B r σ') args s 0 0 (fun q => B ≤ q)) (F0 m 0 ls []) := by
  obtain ⟨hx, hb, hts, hown, hml, hr, hlk, hK⟩ := id C
  replace hf := Eq.trans f_X4_mostSeen_e.symm hf
  refine lv_aload_n hx hb dX4_mostSeen_0 rfl (lv_at hl 0 rfl) ?_
  refine lv_iconst (v := 0) hx hb dX4_mostSeen_1 (by decide) ?_
  refine pf_X4_thrown  hx hb hts hown hK hM tw_720 dX4_mostSeen_2 hf (fun s7 H locs hf hM => ?_)
  refine lv_iload_n hx hb dX4_mostSeen_5 rfl (lv_at hl 1 rfl) ?_
  refine lv_i2l (v := (Int32.toInt64 x1)) hx hb dX4_mostSeen_6 rfl ?_
  refine lv_lconst (v := 0) hx hb dX4_mostSeen_7 (by decide) ?_
  refine lv_lconst (v := 1) hx hb dX4_mostSeen_8 (by decide) ?_
  refine wt_callSi (As := [.long (Int32.toInt64 x1), .long (0 : Int64), .long (1 : Int64)]) (rest := []) hx hb hml hts hown hK hM cw_X4_77 hd_X4_in rfl ⟨qz_b rfl, qz_b rfl⟩ ⟨rfl, rfl⟩ hl.1 rfl (qz_b rfl) dX4_mostSeen_9 hf (fun _ _ h9 => c_X4_in h9) (fun r8 s9 H locs hf hM => ?_)
  refine wq_if_ne (tgt := 22) hx hb dX4_mostSeen_12 (by decide) hf (fun hf => ?_) (fun hf => ?_)
  · refine lv_aload_n hx hb dX4_mostSeen_22 rfl (lv_at hl 0 rfl) ?_
    refine wt_callVv (As := []) (rest := []) hx hb hml hts hown hK hM wt_rc_X4 cw_X4_134 hd_X4_layBrings rfl ⟨qz_b rfl, qz_b rfl⟩ ⟨rfl, rfl⟩ hl.1 rfl (qz_b rfl) dX4_mostSeen_23 hf (fun _ _ h9 => c_X4_layBrings h9) (fun r10 s11 H locs hf hM => ?_)
    refine lv_iconst (v := 0) hx hb dX4_mostSeen_26 (by decide) ?_
    refine lv_istore_n (lv' := [(2, .int (0 : Int32)), (0, .ref (B + 101)), (1, .int x1)]) hx hb dX4_mostSeen_27 rfl hl (by decide) rfl (fun ls hl => ?_)
    refine lv_iconst (v := 1) hx hb dX4_mostSeen_28 (by decide) ?_
    refine lv_istore_n (lv' := [(3, .int (1 : Int32)), (2, .int (0 : Int32)), (0, .ref (B + 101)), (1, .int x1)]) hx hb dX4_mostSeen_29 rfl hl (by decide) rfl (fun ls hl => ?_)
    exact w_X4_mostSeen_30 C _ _ _ _ _ _ _ hf hM (lv_sub hl [2, 3, 1, 0] rfl)
  refine lv_aload_n hx hb dX4_mostSeen_15 rfl (lv_at hl 0 rfl) ?_
  refine lv_bipush (v := -2) hx hb dX4_mostSeen_16 (by decide) ?_
  refine wt_callVi (As := [.int (-2 : Int32)]) (rest := []) hx hb hml hts hown hK hM wt_rc_X4 cw_X4_143 hd_X4_refuse rfl ⟨qz_b rfl, qz_b rfl⟩ ⟨rfl, rfl⟩ hl.1 rfl (qz_b rfl) dX4_mostSeen_18 hf (fun _ _ h9 => c_X4_refuse h9) (fun r12 s13 H locs hf hM => ?_)
  exact wt_iret hx hb hr hlk hK hM hf dX4_mostSeen_21
end
set_option maxHeartbeats 4000000 in
set_option maxRecDepth 100000 in
theorem c_X4_mostSeen {l : Launch} {D : va_G} {tI tII : ClassId} {B F : Nat} {x1 : Int32} {σ σ' : Mem} {r : Int32} (hf : f_X4_mostSeen F x1 σ = some (r, σ')) : wt_Mi l yX4_mostSeen cX4_mostSeen 4 (some .int) rm_X4_mostSeen [.ref (B + 101), .int x1] D tI tII B σ r σ' := by
  refine Met.ofW (cc := cX4_mostSeen) (maxL := 4) (ret := (some .int)) (by decide) rfl ?_
  intro p e s m args below meth c s₁ B9 hml hv
  obtain ⟨rfl, hP, hK⟩ := hv
  have hl := lv_entry ([.ref (B + 101), .int x1]) (n := 4) (qz_b rfl)
  rw [lg_entry_eq]
  generalize (lg_sl ([.ref (B + 101), .int x1]) ++ List.replicate (4 - (lg_sl ([.ref (B + 101), .int x1])).length) Slot.unset).toArray = ls at hl ⊢
  exact w_X4_mostSeen_0 (wt_C_of B9 hml hK) hf ⟨hP, va_S.rf⟩ hl
section
variable {p : Program} {l : Launch} {e : Env} {s : State} {m : MethodId} {args : Array Value} {below : List Frame} {meth : Method} {c : Code} {D : va_G} {tI tII : ClassId} {B : Nat}
set_option maxHeartbeats 4000000 in
set_option maxRecDepth 100000 in
theorem w_X4_duels_58 (C : wt_C p s m args meth c RX4 cX4_duels 5 (some .int) D tI tII) {F : Nat} {k25 : Int32 → Int32 → Mem → Option (Int32 × Mem)} {x1 : Int32} {x2 : Int32} {x4 : Int32} {t0 : Int32} {t1 : Int32} {σ : Mem} {r : Int32} {σ' : Mem} {H : Heap} {locs : List Loc} {ls : Array Slot} (hk25 : ∀ (x3 : Int32) (x4 : Int32) (σ : Mem) (H : Heap) (locs : List Loc) (ls : Array Slot), k25 x3 x4 σ = some (r, σ') → wt_St D tI tII B σ s H locs → lv_has ls 5 [(0, .ref (B + 101)), (1, .int x1), (2, .int x2), (3, .int x3), (4, .int x4)] → W p l e rm_X4_duels s m args below meth c H locs 0 0 (MQ below (wt_Qi D tI tII B r σ') args s 0 0 (fun q => B ≤ q)) (F0 m 25 ls [])) (hf : j_X4_duels_58 F k25 x1 x2 x4 t0 t1 σ = some (r, σ')) (hM : wt_St D tI tII B σ s H locs) (hl : lv_has ls 5 [(0, .ref (B + 101)), (1, .int x1), (2, .int x2), (4, .int x4)]) : W p l e rm_X4_duels s m args below meth c H locs 0 0 (MQ below (wt_Qi D tI tII B r σ') args s 0 0 (fun q => B ≤ q)) (F0 m 58 ls [.int t1, .int t0]) := by
  obtain ⟨hx, hb, hts, hown, hml, hr, hlk, hK⟩ := id C
  replace hf := Eq.trans j_X4_duels_58_e.symm hf
  refine lv_iadd hx hb dX4_duels_58 ?_
  refine lv_istore_n (lv' := [(3, .int (t0 + t1)), (0, .ref (B + 101)), (1, .int x1), (2, .int x2), (4, .int x4)]) hx hb dX4_duels_59 rfl hl (by decide) rfl (fun ls hl => ?_)
  refine lv_iinc (v := (x4 + (1 : Int32))) (lv' := [(4, .int (x4 + (1 : Int32))), (3, .int (t0 + t1)), (0, .ref (B + 101)), (1, .int x1), (2, .int x2)]) hx hb dX4_duels_60 hl (k := 4) rfl rfl (by decide) rfl (fun ls hl => ?_)
  refine lv_goto (tgt := 25) hx hb dX4_duels_63 (by decide) ?_
  exact hk25 _ _ _ _ _ _ hf hM (lv_sub hl [2, 3, 4, 1, 0] rfl)
set_option maxHeartbeats 4000000 in
set_option maxRecDepth 100000 in
theorem w_X4_duels_57 (C : wt_C p s m args meth c RX4 cX4_duels 5 (some .int) D tI tII) {F : Nat} {k25 : Int32 → Int32 → Mem → Option (Int32 × Mem)} {x1 : Int32} {x2 : Int32} {x4 : Int32} {t0 : Int32} {σ : Mem} {r : Int32} {σ' : Mem} {H : Heap} {locs : List Loc} {ls : Array Slot} (hk25 : ∀ (x3 : Int32) (x4 : Int32) (σ : Mem) (H : Heap) (locs : List Loc) (ls : Array Slot), k25 x3 x4 σ = some (r, σ') → wt_St D tI tII B σ s H locs → lv_has ls 5 [(0, .ref (B + 101)), (1, .int x1), (2, .int x2), (3, .int x3), (4, .int x4)] → W p l e rm_X4_duels s m args below meth c H locs 0 0 (MQ below (wt_Qi D tI tII B r σ') args s 0 0 (fun q => B ≤ q)) (F0 m 25 ls [])) (hf : j_X4_duels_57 F k25 x1 x2 x4 t0 σ = some (r, σ')) (hM : wt_St D tI tII B σ s H locs) (hl : lv_has ls 5 [(0, .ref (B + 101)), (1, .int x1), (2, .int x2), (4, .int x4)]) : W p l e rm_X4_duels s m args below meth c H locs 0 0 (MQ below (wt_Qi D tI tII B r σ') args s 0 0 (fun q => B ≤ q)) (F0 m 57 ls [.int t0]) := by
  obtain ⟨hx, hb, hts, hown, hml, hr, hlk, hK⟩ := id C
  replace hf := Eq.trans j_X4_duels_57_e.symm hf
  refine lv_iconst (v := 0) hx hb dX4_duels_57 (by decide) ?_
  exact w_X4_duels_58 C hk25 hf hM hl
set_option maxHeartbeats 4000000 in
set_option maxRecDepth 100000 in
theorem w_X4_duels_25 (C : wt_C p s m args meth c RX4 cX4_duels 5 (some .int) D tI tII) {F : Nat} {x1 : Int32} {x2 : Int32} {r : Int32} {σ' : Mem} : ∀ (N : Nat) (x3 : Int32) (x4 : Int32) (σ : Mem) (H : Heap) (locs : List Loc) (ls : Array Slot), lp_X4_duels_25 F x1 x2 N x3 x4 σ = some (r, σ') → wt_St D tI tII B σ s H locs → lv_has ls 5 [(0, .ref (B + 101)), (1, .int x1), (2, .int x2), (3, .int x3), (4, .int x4)] → W p l e rm_X4_duels s m args below meth c H locs 0 0 (MQ below (wt_Qi D tI tII B r σ') args s 0 0 (fun q => B ≤ q)) (F0 m 25 ls []) := by
  obtain ⟨hx, hb, hts, hown, hml, hr, hlk, hK⟩ := id C
  intro N
  induction N with
  | zero => intro x3 x4 σ H locs ls hf; exact wt_none (show (none : Option (Int32 × Mem)) = some (r, σ') from hf)
  | succ N ih =>
    intro x3 x4 σ H locs ls hf hM hl
    replace hf := Eq.trans lp_X4_duels_25_s.symm hf
    refine lv_iload hx hb dX4_duels_25 (lv_at hl 4 rfl) ?_
    refine lv_bipush (v := 8) hx hb dX4_duels_27 (by decide) ?_
    refine wq_icmp_ge (tgt := 66) hx hb dX4_duels_29 (by decide) hf (fun hf => ?_) (fun hf => ?_)
    · refine lv_iload_n hx hb dX4_duels_66 rfl (lv_at hl 3 rfl) ?_
      exact wt_iret hx hb hr hlk hK hM hf dX4_duels_67
    refine lv_iload_n hx hb dX4_duels_32 rfl (lv_at hl 3 rfl) ?_
    refine lv_aload_n hx hb dX4_duels_33 rfl (lv_at hl 0 rfl) ?_
    refine lv_iload_n hx hb dX4_duels_34 rfl (lv_at hl 1 rfl) ?_
    refine lv_iload hx hb dX4_duels_35 (lv_at hl 4 rfl) ?_
    refine wt_callVi (As := [.int x1, .int x4]) (rest := [.int x3]) hx hb hml hts hown hK hM wt_rc_X4 cw_X4_111 hd_X4_bringsOf rfl ⟨qz_b rfl, qz_b rfl⟩ ⟨rfl, rfl⟩ hl.1 rfl (qz_b rfl) dX4_duels_37 hf (fun _ _ h9 => c_X4_bringsOf h9) (fun r1 s2 H locs hf hM => ?_)
    refine wq_if_le (tgt := 57) hx hb dX4_duels_40 (by decide) hf (fun hf => ?_) (fun hf => ?_)
    · exact w_X4_duels_57 C ih hf hM (lv_sub hl [0, 1, 2, 4] rfl)
    refine lv_aload_n hx hb dX4_duels_43 rfl (lv_at hl 0 rfl) ?_
    refine lv_iload_n hx hb dX4_duels_44 rfl (lv_at hl 2 rfl) ?_
    refine lv_iload hx hb dX4_duels_45 (lv_at hl 4 rfl) ?_
    refine wt_callVi (As := [.int x2, .int x4]) (rest := [.int x3]) hx hb hml hts hown hK hM wt_rc_X4 cw_X4_111 hd_X4_bringsOf rfl ⟨qz_b rfl, qz_b rfl⟩ ⟨rfl, rfl⟩ hl.1 rfl (qz_b rfl) dX4_duels_47 hf (fun _ _ h9 => c_X4_bringsOf h9) (fun r3 s4 H locs hf hM => ?_)
    refine wq_if_le (tgt := 57) hx hb dX4_duels_50 (by decide) hf (fun hf => ?_) (fun hf => ?_)
    · exact w_X4_duels_57 C ih hf hM (lv_sub hl [0, 1, 2, 4] rfl)
    refine lv_iconst (v := 1) hx hb dX4_duels_53 (by decide) ?_
    refine lv_goto (tgt := 58) hx hb dX4_duels_54 (by decide) ?_
    exact w_X4_duels_58 C ih hf hM (lv_sub hl [0, 1, 2, 4] rfl)
set_option maxHeartbeats 4000000 in
set_option maxRecDepth 100000 in
theorem w_X4_duels_0 (C : wt_C p s m args meth c RX4 cX4_duels 5 (some .int) D tI tII) {F : Nat} {x1 : Int32} {x2 : Int32} {σ : Mem} {r : Int32} {σ' : Mem} {H : Heap} {locs : List Loc} {ls : Array Slot} (hf : f_X4_duels F x1 x2 σ = some (r, σ')) (hM : wt_St D tI tII B σ s H locs) (hl : lv_has ls 5 [(0, .ref (B + 101)), (1, .int x1), (2, .int x2)]) : W p l e rm_X4_duels s m args below meth c H locs 0 0 (MQ below (wt_Qi D tI tII B r σ') args s 0 0 (fun q => B ≤ q)) (F0 m 0 ls []) := by
  obtain ⟨hx, hb, hts, hown, hml, hr, hlk, hK⟩ := id C
  replace hf := Eq.trans f_X4_duels_e.symm hf
  refine lv_aload_n hx hb dX4_duels_0 rfl (lv_at hl 0 rfl) ?_
  refine lv_iconst (v := 0) hx hb dX4_duels_1 (by decide) ?_
  refine pf_X4_thrown  hx hb hts hown hK hM tw_720 dX4_duels_2 hf (fun s5 H locs hf hM => ?_)
  refine lv_aload_n hx hb dX4_duels_5 rfl (lv_at hl 0 rfl) ?_
  refine lv_iload_n hx hb dX4_duels_6 rfl (lv_at hl 1 rfl) ?_
  refine lv_iload_n hx hb dX4_duels_7 rfl (lv_at hl 2 rfl) ?_
  refine wt_callVi (As := [.int x1, .int x2]) (rest := []) hx hb hml hts hown hK hM wt_rc_X4 cw_X4_257 hd_X4_areTwo rfl ⟨qz_b rfl, qz_b rfl⟩ ⟨rfl, rfl⟩ hl.1 rfl (qz_b rfl) dX4_duels_8 hf (fun _ _ h9 => c_X4_areTwo h9) (fun r6 s7 H locs hf hM => ?_)
  refine wq_if_ne (tgt := 20) hx hb dX4_duels_11 (by decide) hf (fun hf => ?_) (fun hf => ?_)
  · refine lv_iconst (v := 0) hx hb dX4_duels_20 (by decide) ?_
    refine lv_istore_n (lv' := [(3, .int (0 : Int32)), (0, .ref (B + 101)), (1, .int x1), (2, .int x2)]) hx hb dX4_duels_21 rfl hl (by decide) rfl (fun ls hl => ?_)
    refine lv_iconst (v := 0) hx hb dX4_duels_22 (by decide) ?_
    refine lv_istore (lv' := [(4, .int (0 : Int32)), (3, .int (0 : Int32)), (0, .ref (B + 101)), (1, .int x1), (2, .int x2)]) hx hb dX4_duels_23 hl (by decide) rfl (fun ls hl => ?_)
    exact w_X4_duels_25 C _ _ _ _ _ _ _ hf hM (lv_sub hl [2, 3, 4, 1, 0] rfl)
  refine lv_aload_n hx hb dX4_duels_14 rfl (lv_at hl 0 rfl) ?_
  refine lv_iconst (v := -1) hx hb dX4_duels_15 (by decide) ?_
  refine wt_callVi (As := [.int (-1 : Int32)]) (rest := []) hx hb hml hts hown hK hM wt_rc_X4 cw_X4_143 hd_X4_refuse rfl ⟨qz_b rfl, qz_b rfl⟩ ⟨rfl, rfl⟩ hl.1 rfl (qz_b rfl) dX4_duels_16 hf (fun _ _ h9 => c_X4_refuse h9) (fun r8 s9 H locs hf hM => ?_)
  exact wt_iret hx hb hr hlk hK hM hf dX4_duels_19
end
set_option maxHeartbeats 4000000 in
set_option maxRecDepth 100000 in
theorem c_X4_duels {l : Launch} {D : va_G} {tI tII : ClassId} {B F : Nat} {x1 : Int32} {x2 : Int32} {σ σ' : Mem} {r : Int32} (hf : f_X4_duels F x1 x2 σ = some (r, σ')) : wt_Mi l yX4_duels cX4_duels 5 (some .int) rm_X4_duels [.ref (B + 101), .int x1, .int x2] D tI tII B σ r σ' := by
  refine Met.ofW (cc := cX4_duels) (maxL := 5) (ret := (some .int)) (by decide) rfl ?_
  intro p e s m args below meth c s₁ B9 hml hv
  obtain ⟨rfl, hP, hK⟩ := hv
  have hl := lv_entry ([.ref (B + 101), .int x1, .int x2]) (n := 5) (qz_b rfl)
  rw [lg_entry_eq]
  generalize (lg_sl ([.ref (B + 101), .int x1, .int x2]) ++ List.replicate (5 - (lg_sl ([.ref (B + 101), .int x1, .int x2])).length) Slot.unset).toArray = ls at hl ⊢
  exact w_X4_duels_0 (wt_C_of B9 hml hK) hf ⟨hP, va_S.rf⟩ hl
