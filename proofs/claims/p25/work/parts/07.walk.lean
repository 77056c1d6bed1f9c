theorem dX2_keepRoster_0 : decode cX2_keepRoster 0 = .ok (.aload_n 0, 1) := qd_p qo_42 (by decide +kernel)
theorem dX2_keepRoster_1 : decode cX2_keepRoster 1 = .ok (.invokevirtual 33, 3) := qz_2 .invokevirtual 0 33 qo_182 (by decide +kernel) rfl
theorem dX2_keepRoster_4 : decode cX2_keepRoster 4 = .ok (.istore_n 3, 1) := qd_p qo_62 (by decide +kernel)
theorem dX2_keepRoster_5 : decode cX2_keepRoster 5 = .ok (.aload_n 0, 1) := qd_p qo_42 (by decide +kernel)
theorem dX2_keepRoster_6 : decode cX2_keepRoster 6 = .ok (.getfield 9, 3) := qz_2 .getfield 0 9 qo_180 (by decide +kernel) rfl
theorem dX2_keepRoster_9 : decode cX2_keepRoster 9 = .ok (.iload_n 3, 1) := qd_p qo_29 (by decide +kernel)
theorem dX2_keepRoster_10 : decode cX2_keepRoster 10 = .ok (.iconst 0, 1) := qd_p qo_3 (by decide +kernel)
theorem dX2_keepRoster_11 : decode cX2_keepRoster 11 = .ok (.iastore, 1) := qd_p qo_79 (by decide +kernel)
theorem dX2_keepRoster_12 : decode cX2_keepRoster 12 = .ok (.aload_n 0, 1) := qd_p qo_42 (by decide +kernel)
theorem dX2_keepRoster_13 : decode cX2_keepRoster 13 = .ok (.getfield 15, 3) := qz_2 .getfield 0 15 qo_180 (by decide +kernel) rfl
theorem dX2_keepRoster_16 : decode cX2_keepRoster 16 = .ok (.iload_n 3, 1) := qd_p qo_29 (by decide +kernel)
theorem dX2_keepRoster_17 : decode cX2_keepRoster 17 = .ok (.iload_n 1, 1) := qd_p qo_27 (by decide +kernel)
theorem dX2_keepRoster_18 : decode cX2_keepRoster 18 = .ok (.iastore, 1) := qd_p qo_79 (by decide +kernel)
theorem dX2_keepRoster_19 : decode cX2_keepRoster 19 = .ok (.iconst 0, 1) := qd_p qo_3 (by decide +kernel)
theorem dX2_keepRoster_20 : decode cX2_keepRoster 20 = .ok (.istore 4, 2) := qz_1 .istore 4 qo_54 (by decide +kernel)
theorem dX2_keepRoster_22 : decode cX2_keepRoster 22 = .ok (.iload 4, 2) := qz_1 .iload 4 qo_21 (by decide +kernel)
theorem dX2_keepRoster_24 : decode cX2_keepRoster 24 = .ok (.bipush 24, 2) := qz_s1 .bipush 24 qo_16 (by decide +kernel) rfl
theorem dX2_keepRoster_26 : decode cX2_keepRoster 26 = .ok (.if_icmp .ge 29, 3) := qz_s2 (.if_icmp .ge) 0 29 qo_162 (by decide +kernel) rfl
theorem dX2_keepRoster_29 : decode cX2_keepRoster 29 = .ok (.iload 4, 2) := qz_1 .iload 4 qo_21 (by decide +kernel)
theorem dX2_keepRoster_31 : decode cX2_keepRoster 31 = .ok (.aload_n 2, 1) := qd_p qo_44 (by decide +kernel)
theorem dX2_keepRoster_32 : decode cX2_keepRoster 32 = .ok (.arraylength, 1) := qd_p qo_190 (by decide +kernel)
theorem dX2_keepRoster_33 : decode cX2_keepRoster 33 = .ok (.if_icmp .ge 22, 3) := qz_s2 (.if_icmp .ge) 0 22 qo_162 (by decide +kernel) rfl
theorem dX2_keepRoster_36 : decode cX2_keepRoster 36 = .ok (.aload_n 0, 1) := qd_p qo_42 (by decide +kernel)
theorem dX2_keepRoster_37 : decode cX2_keepRoster 37 = .ok (.getfield 23, 3) := qz_2 .getfield 0 23 qo_180 (by decide +kernel) rfl
theorem dX2_keepRoster_40 : decode cX2_keepRoster 40 = .ok (.iload_n 3, 1) := qd_p qo_29 (by decide +kernel)
theorem dX2_keepRoster_41 : decode cX2_keepRoster 41 = .ok (.aaload, 1) := qd_p qo_50 (by decide +kernel)
theorem dX2_keepRoster_42 : decode cX2_keepRoster 42 = .ok (.iload 4, 2) := qz_1 .iload 4 qo_21 (by decide +kernel)
theorem dX2_keepRoster_44 : decode cX2_keepRoster 44 = .ok (.aload_n 2, 1) := qd_p qo_44 (by decide +kernel)
theorem dX2_keepRoster_45 : decode cX2_keepRoster 45 = .ok (.iload 4, 2) := qz_1 .iload 4 qo_21 (by decide +kernel)
theorem dX2_keepRoster_47 : decode cX2_keepRoster 47 = .ok (.iaload, 1) := qd_p qo_46 (by decide +kernel)
theorem dX2_keepRoster_48 : decode cX2_keepRoster 48 = .ok (.iastore, 1) := qd_p qo_79 (by decide +kernel)
theorem dX2_keepRoster_49 : decode cX2_keepRoster 49 = .ok (.iinc 4 1, 3) := qd_i (x := 4) (y := 1) qo_132 (by decide +kernel) rfl
theorem dX2_keepRoster_52 : decode cX2_keepRoster 52 = .ok (.goto (-30), 3) := qz_s2 .goto 255 226 qo_167 (by decide +kernel) rfl
theorem dX2_keepRoster_55 : decode cX2_keepRoster 55 = .ok (.return_, 1) := qd_p qo_177 (by decide +kernel)
theorem dX2_undoLatest_0 : decode cX2_undoLatest 0 = .ok (.aload_n 0, 1) := qd_p qo_42 (by decide +kernel)
theorem dX2_undoLatest_1 : decode cX2_undoLatest 1 = .ok (.getfield 30, 3) := qz_2 .getfield 0 30 qo_180 (by decide +kernel) rfl
theorem dX2_undoLatest_4 : decode cX2_undoLatest 4 = .ok (.ifCond .gt 4, 3) := qz_s2 (.ifCond .gt) 0 4 qo_157 (by decide +kernel) rfl
theorem dX2_undoLatest_7 : decode cX2_undoLatest 7 = .ok (.return_, 1) := qd_p qo_177 (by decide +kernel)
theorem dX2_undoLatest_8 : decode cX2_undoLatest 8 = .ok (.aload_n 0, 1) := qd_p qo_42 (by decide +kernel)
theorem dX2_undoLatest_9 : decode cX2_undoLatest 9 = .ok (.dup, 1) := qd_p qo_89 (by decide +kernel)
theorem dX2_undoLatest_10 : decode cX2_undoLatest 10 = .ok (.getfield 30, 3) := qz_2 .getfield 0 30 qo_180 (by decide +kernel) rfl
theorem dX2_undoLatest_13 : decode cX2_undoLatest 13 = .ok (.iconst 1, 1) := qd_p qo_4 (by decide +kernel)
theorem dX2_undoLatest_14 : decode cX2_undoLatest 14 = .ok (.isub, 1) := qd_p qo_100 (by decide +kernel)
theorem dX2_undoLatest_15 : decode cX2_undoLatest 15 = .ok (.putfield 30, 3) := qz_2 .putfield 0 30 qo_181 (by decide +kernel) rfl
theorem dX2_undoLatest_18 : decode cX2_undoLatest 18 = .ok (.aload_n 0, 1) := qd_p qo_42 (by decide +kernel)
theorem dX2_undoLatest_19 : decode cX2_undoLatest 19 = .ok (.getfield 26, 3) := qz_2 .getfield 0 26 qo_180 (by decide +kernel) rfl
theorem dX2_undoLatest_22 : decode cX2_undoLatest 22 = .ok (.aload_n 0, 1) := qd_p qo_42 (by decide +kernel)
theorem dX2_undoLatest_23 : decode cX2_undoLatest 23 = .ok (.getfield 30, 3) := qz_2 .getfield 0 30 qo_180 (by decide +kernel) rfl
theorem dX2_undoLatest_26 : decode cX2_undoLatest 26 = .ok (.iadd, 1) := qd_p qo_96 (by decide +kernel)
theorem dX2_undoLatest_27 : decode cX2_undoLatest 27 = .ok (.bipush 8, 2) := qz_s1 .bipush 8 qo_16 (by decide +kernel) rfl
theorem dX2_undoLatest_29 : decode cX2_undoLatest 29 = .ok (.irem, 1) := qd_p qo_112 (by decide +kernel)
theorem dX2_undoLatest_30 : decode cX2_undoLatest 30 = .ok (.istore_n 2, 1) := qd_p qo_61 (by decide +kernel)
theorem dX2_undoLatest_31 : decode cX2_undoLatest 31 = .ok (.aload_n 0, 1) := qd_p qo_42 (by decide +kernel)
theorem dX2_undoLatest_32 : decode cX2_undoLatest 32 = .ok (.getfield 15, 3) := qz_2 .getfield 0 15 qo_180 (by decide +kernel) rfl
theorem dX2_undoLatest_35 : decode cX2_undoLatest 35 = .ok (.iload_n 2, 1) := qd_p qo_28 (by decide +kernel)
theorem dX2_undoLatest_36 : decode cX2_undoLatest 36 = .ok (.iaload, 1) := qd_p qo_46 (by decide +kernel)
theorem dX2_undoLatest_37 : decode cX2_undoLatest 37 = .ok (.istore_n 3, 1) := qd_p qo_62 (by decide +kernel)
theorem dX2_undoLatest_38 : decode cX2_undoLatest 38 = .ok (.aload_n 0, 1) := qd_p qo_42 (by decide +kernel)
theorem dX2_undoLatest_39 : decode cX2_undoLatest 39 = .ok (.getfield 9, 3) := qz_2 .getfield 0 9 qo_180 (by decide +kernel) rfl
theorem dX2_undoLatest_42 : decode cX2_undoLatest 42 = .ok (.iload_n 2, 1) := qd_p qo_28 (by decide +kernel)
theorem dX2_undoLatest_43 : decode cX2_undoLatest 43 = .ok (.iaload, 1) := qd_p qo_46 (by decide +kernel)
theorem dX2_undoLatest_44 : decode cX2_undoLatest 44 = .ok (.tableswitch 104 0 2 #[28, 66, 89], 28) := by decide +kernel
theorem dX2_undoLatest_72 : decode cX2_undoLatest 72 = .ok (.iconst 0, 1) := qd_p qo_3 (by decide +kernel)
theorem dX2_undoLatest_73 : decode cX2_undoLatest 73 = .ok (.istore 4, 2) := qz_1 .istore 4 qo_54 (by decide +kernel)
theorem dX2_undoLatest_75 : decode cX2_undoLatest 75 = .ok (.iload 4, 2) := qz_1 .iload 4 qo_21 (by decide +kernel)
theorem dX2_undoLatest_77 : decode cX2_undoLatest 77 = .ok (.bipush 24, 2) := qz_s1 .bipush 24 qo_16 (by decide +kernel) rfl
theorem dX2_undoLatest_79 : decode cX2_undoLatest 79 = .ok (.if_icmp .ge 28, 3) := qz_s2 (.if_icmp .ge) 0 28 qo_162 (by decide +kernel) rfl
theorem dX2_undoLatest_82 : decode cX2_undoLatest 82 = .ok (.aload_n 1, 1) := qd_p qo_43 (by decide +kernel)
theorem dX2_undoLatest_83 : decode cX2_undoLatest 83 = .ok (.iload_n 3, 1) := qd_p qo_29 (by decide +kernel)
theorem dX2_undoLatest_84 : decode cX2_undoLatest 84 = .ok (.iload 4, 2) := qz_1 .iload 4 qo_21 (by decide +kernel)
theorem dX2_undoLatest_86 : decode cX2_undoLatest 86 = .ok (.iload 4, 2) := qz_1 .iload 4 qo_21 (by decide +kernel)
theorem dX2_undoLatest_88 : decode cX2_undoLatest 88 = .ok (.aload_n 0, 1) := qd_p qo_42 (by decide +kernel)
theorem dX2_undoLatest_89 : decode cX2_undoLatest 89 = .ok (.getfield 23, 3) := qz_2 .getfield 0 23 qo_180 (by decide +kernel) rfl
theorem dX2_undoLatest_92 : decode cX2_undoLatest 92 = .ok (.iload_n 2, 1) := qd_p qo_28 (by decide +kernel)
theorem dX2_undoLatest_93 : decode cX2_undoLatest 93 = .ok (.aaload, 1) := qd_p qo_50 (by decide +kernel)
theorem dX2_undoLatest_94 : decode cX2_undoLatest 94 = .ok (.iload 4, 2) := qz_1 .iload 4 qo_21 (by decide +kernel)
theorem dX2_undoLatest_96 : decode cX2_undoLatest 96 = .ok (.iaload, 1) := qd_p qo_46 (by decide +kernel)
theorem dX2_undoLatest_97 : decode cX2_undoLatest 97 = .ok (.invokevirtual 37, 3) := qz_2 .invokevirtual 0 37 qo_182 (by decide +kernel) rfl
theorem dX2_undoLatest_100 : decode cX2_undoLatest 100 = .ok (.pop, 1) := qd_p qo_87 (by decide +kernel)
theorem dX2_undoLatest_101 : decode cX2_undoLatest 101 = .ok (.iinc 4 1, 3) := qd_i (x := 4) (y := 1) qo_132 (by decide +kernel) rfl
theorem dX2_undoLatest_104 : decode cX2_undoLatest 104 = .ok (.goto (-29), 3) := qz_s2 .goto 255 227 qo_167 (by decide +kernel) rfl
theorem dX2_undoLatest_107 : decode cX2_undoLatest 107 = .ok (.goto 52, 3) := qz_s2 .goto 0 52 qo_167 (by decide +kernel) rfl
theorem dX2_undoLatest_110 : decode cX2_undoLatest 110 = .ok (.aload_n 1, 1) := qd_p qo_43 (by decide +kernel)
theorem dX2_undoLatest_111 : decode cX2_undoLatest 111 = .ok (.iload_n 3, 1) := qd_p qo_29 (by decide +kernel)
theorem dX2_undoLatest_112 : decode cX2_undoLatest 112 = .ok (.invokevirtual 43, 3) := qz_2 .invokevirtual 0 43 qo_182 (by decide +kernel) rfl
theorem dX2_undoLatest_115 : decode cX2_undoLatest 115 = .ok (.ifCond .eq 44, 3) := qz_s2 (.ifCond .eq) 0 44 qo_153 (by decide +kernel) rfl
theorem dX2_undoLatest_118 : decode cX2_undoLatest 118 = .ok (.aload_n 1, 1) := qd_p qo_43 (by decide +kernel)
theorem dX2_undoLatest_119 : decode cX2_undoLatest 119 = .ok (.getfield 47, 3) := qz_2 .getfield 0 47 qo_180 (by decide +kernel) rfl
theorem dX2_undoLatest_122 : decode cX2_undoLatest 122 = .ok (.iload_n 3, 1) := qd_p qo_29 (by decide +kernel)
theorem dX2_undoLatest_123 : decode cX2_undoLatest 123 = .ok (.aload_n 0, 1) := qd_p qo_42 (by decide +kernel)
theorem dX2_undoLatest_124 : decode cX2_undoLatest 124 = .ok (.getfield 18, 3) := qz_2 .getfield 0 18 qo_180 (by decide +kernel) rfl
theorem dX2_undoLatest_127 : decode cX2_undoLatest 127 = .ok (.iload_n 2, 1) := qd_p qo_28 (by decide +kernel)
theorem dX2_undoLatest_128 : decode cX2_undoLatest 128 = .ok (.iaload, 1) := qd_p qo_46 (by decide +kernel)
theorem dX2_undoLatest_129 : decode cX2_undoLatest 129 = .ok (.iastore, 1) := qd_p qo_79 (by decide +kernel)
theorem dX2_undoLatest_130 : decode cX2_undoLatest 130 = .ok (.goto 29, 3) := qz_s2 .goto 0 29 qo_167 (by decide +kernel) rfl
theorem dX2_undoLatest_133 : decode cX2_undoLatest 133 = .ok (.aload_n 1, 1) := qd_p qo_43 (by decide +kernel)
theorem dX2_undoLatest_134 : decode cX2_undoLatest 134 = .ok (.iload_n 3, 1) := qd_p qo_29 (by decide +kernel)
theorem dX2_undoLatest_135 : decode cX2_undoLatest 135 = .ok (.aload_n 0, 1) := qd_p qo_42 (by decide +kernel)
theorem dX2_undoLatest_136 : decode cX2_undoLatest 136 = .ok (.getfield 18, 3) := qz_2 .getfield 0 18 qo_180 (by decide +kernel) rfl
theorem dX2_undoLatest_139 : decode cX2_undoLatest 139 = .ok (.iload_n 2, 1) := qd_p qo_28 (by decide +kernel)
theorem dX2_undoLatest_140 : decode cX2_undoLatest 140 = .ok (.iaload, 1) := qd_p qo_46 (by decide +kernel)
theorem dX2_undoLatest_141 : decode cX2_undoLatest 141 = .ok (.invokevirtual 50, 3) := qz_2 .invokevirtual 0 50 qo_182 (by decide +kernel) rfl
theorem dX2_undoLatest_144 : decode cX2_undoLatest 144 = .ok (.pop, 1) := qd_p qo_87 (by decide +kernel)
theorem dX2_undoLatest_145 : decode cX2_undoLatest 145 = .ok (.goto 14, 3) := qz_s2 .goto 0 14 qo_167 (by decide +kernel) rfl
theorem dX2_undoLatest_148 : decode cX2_undoLatest 148 = .ok (.aload_n 1, 1) := qd_p qo_43 (by decide +kernel)
theorem dX2_undoLatest_149 : decode cX2_undoLatest 149 = .ok (.aload_n 0, 1) := qd_p qo_42 (by decide +kernel)
theorem dX2_undoLatest_150 : decode cX2_undoLatest 150 = .ok (.getfield 18, 3) := qz_2 .getfield 0 18 qo_180 (by decide +kernel) rfl
theorem dX2_undoLatest_153 : decode cX2_undoLatest 153 = .ok (.iload_n 2, 1) := qd_p qo_28 (by decide +kernel)
theorem dX2_undoLatest_154 : decode cX2_undoLatest 154 = .ok (.iaload, 1) := qd_p qo_46 (by decide +kernel)
theorem dX2_undoLatest_155 : decode cX2_undoLatest 155 = .ok (.invokevirtual 54, 3) := qz_2 .invokevirtual 0 54 qo_182 (by decide +kernel) rfl
theorem dX2_undoLatest_158 : decode cX2_undoLatest 158 = .ok (.pop, 1) := qd_p qo_87 (by decide +kernel)
theorem dX2_undoLatest_159 : decode cX2_undoLatest 159 = .ok (.return_, 1) := qd_p qo_177 (by decide +kernel)
theorem dX3_refuse_0 : decode cX3_refuse 0 = .ok (.iload_n 1, 1) := qd_p qo_27 (by decide +kernel)
theorem dX3_refuse_1 : decode cX3_refuse 1 = .ok (.ineg, 1) := qd_p qo_116 (by decide +kernel)
theorem dX3_refuse_2 : decode cX3_refuse 2 = .ok (.istore_n 2, 1) := qd_p qo_61 (by decide +kernel)
theorem dX3_refuse_3 : decode cX3_refuse 3 = .ok (.iload_n 2, 1) := qd_p qo_28 (by decide +kernel)
theorem dX3_refuse_4 : decode cX3_refuse 4 = .ok (.ifCond .lt 19, 3) := qz_s2 (.ifCond .lt) 0 19 qo_155 (by decide +kernel) rfl
theorem dX3_refuse_7 : decode cX3_refuse 7 = .ok (.iload_n 2, 1) := qd_p qo_28 (by decide +kernel)
theorem dX3_refuse_8 : decode cX3_refuse 8 = .ok (.bipush 7, 2) := qz_s1 .bipush 7 qo_16 (by decide +kernel) rfl
theorem dX3_refuse_10 : decode cX3_refuse 10 = .ok (.if_icmp .ge 13, 3) := qz_s2 (.if_icmp .ge) 0 13 qo_162 (by decide +kernel) rfl
theorem dX3_refuse_13 : decode cX3_refuse 13 = .ok (.aload_n 0, 1) := qd_p qo_42 (by decide +kernel)
theorem dX3_refuse_14 : decode cX3_refuse 14 = .ok (.getfield 48, 3) := qz_2 .getfield 0 48 qo_180 (by decide +kernel) rfl
theorem dX3_refuse_17 : decode cX3_refuse 17 = .ok (.iload_n 2, 1) := qd_p qo_28 (by decide +kernel)
theorem dX3_refuse_18 : decode cX3_refuse 18 = .ok (.dup2, 1) := qd_p qo_92 (by decide +kernel)
theorem dX3_refuse_19 : decode cX3_refuse 19 = .ok (.iaload, 1) := qd_p qo_46 (by decide +kernel)
theorem dX3_refuse_20 : decode cX3_refuse 20 = .ok (.iconst 1, 1) := qd_p qo_4 (by decide +kernel)
theorem dX3_refuse_21 : decode cX3_refuse 21 = .ok (.iadd, 1) := qd_p qo_96 (by decide +kernel)
theorem dX3_refuse_22 : decode cX3_refuse 22 = .ok (.iastore, 1) := qd_p qo_79 (by decide +kernel)
theorem dX3_refuse_23 : decode cX3_refuse 23 = .ok (.iload_n 1, 1) := qd_p qo_27 (by decide +kernel)
theorem dX3_refuse_24 : decode cX3_refuse 24 = .ok (.ireturn, 1) := qd_p qo_172 (by decide +kernel)
theorem dX3_refuseLong_0 : decode cX3_refuseLong 0 = .ok (.ldc2_w 59, 3) := qz_2 .ldc2_w 0 59 qo_20 (by decide +kernel) rfl
theorem dX3_refuseLong_3 : decode cX3_refuseLong 3 = .ok (.aload_n 0, 1) := qd_p qo_42 (by decide +kernel)
theorem dX3_refuseLong_4 : decode cX3_refuseLong 4 = .ok (.iload_n 1, 1) := qd_p qo_27 (by decide +kernel)
theorem dX3_refuseLong_5 : decode cX3_refuseLong 5 = .ok (.invokevirtual 61, 3) := qz_2 .invokevirtual 0 61 qo_182 (by decide +kernel) rfl
theorem dX3_refuseLong_8 : decode cX3_refuseLong 8 = .ok (.i2l, 1) := qd_p qo_133 (by decide +kernel)
theorem dX3_refuseLong_9 : decode cX3_refuseLong 9 = .ok (.lsub, 1) := qd_p qo_101 (by decide +kernel)
theorem dX3_refuseLong_10 : decode cX3_refuseLong 10 = .ok (.lreturn, 1) := qd_p qo_173 (by decide +kernel)
theorem dX3_firstOf_0 : decode cX3_firstOf 0 = .ok (.iload_n 0, 1) := qd_p qo_26 (by decide +kernel)
theorem dX3_firstOf_1 : decode cX3_firstOf 1 = .ok (.ifCond .eq 7, 3) := qz_s2 (.ifCond .eq) 0 7 qo_153 (by decide +kernel) rfl
theorem dX3_firstOf_4 : decode cX3_firstOf 4 = .ok (.iload_n 0, 1) := qd_p qo_26 (by decide +kernel)
theorem dX3_firstOf_5 : decode cX3_firstOf 5 = .ok (.goto 4, 3) := qz_s2 .goto 0 4 qo_167 (by decide +kernel) rfl
theorem dX3_firstOf_8 : decode cX3_firstOf 8 = .ok (.iload_n 1, 1) := qd_p qo_27 (by decide +kernel)
theorem dX3_firstOf_9 : decode cX3_firstOf 9 = .ok (.ireturn, 1) := qd_p qo_172 (by decide +kernel)
theorem dX3_noView_0 : decode cX3_noView 0 = .ok (.iload_n 0, 1) := qd_p qo_26 (by decide +kernel)
theorem dX3_noView_1 : decode cX3_noView 1 = .ok (.invokestatic 65, 3) := qz_2 .invokestatic 0 65 qo_184 (by decide +kernel) rfl
theorem dX3_noView_4 : decode cX3_noView 4 = .ok (.ifCond .eq 7, 3) := qz_s2 (.ifCond .eq) 0 7 qo_153 (by decide +kernel) rfl
theorem dX3_noView_7 : decode cX3_noView 7 = .ok (.iconst 0, 1) := qd_p qo_3 (by decide +kernel)
theorem dX3_noView_8 : decode cX3_noView 8 = .ok (.goto 4, 3) := qz_s2 .goto 0 4 qo_167 (by decide +kernel) rfl
theorem dX3_noView_11 : decode cX3_noView 11 = .ok (.iconst (-1), 1) := qd_p qo_2 (by decide +kernel)
theorem dX3_noView_12 : decode cX3_noView 12 = .ok (.ireturn, 1) := qd_p qo_172 (by decide +kernel)
theorem dX3_noHour_0 : decode cX3_noHour 0 = .ok (.iload_n 0, 1) := qd_p qo_26 (by decide +kernel)
theorem dX3_noHour_1 : decode cX3_noHour 1 = .ok (.invokestatic 69, 3) := qz_2 .invokestatic 0 69 qo_184 (by decide +kernel) rfl
theorem dX3_noHour_4 : decode cX3_noHour 4 = .ok (.ifCond .eq 7, 3) := qz_s2 (.ifCond .eq) 0 7 qo_153 (by decide +kernel) rfl
theorem dX3_noHour_7 : decode cX3_noHour 7 = .ok (.iconst 0, 1) := qd_p qo_3 (by decide +kernel)
theorem dX3_noHour_8 : decode cX3_noHour 8 = .ok (.goto 4, 3) := qz_s2 .goto 0 4 qo_167 (by decide +kernel) rfl
theorem dX3_noHour_11 : decode cX3_noHour 11 = .ok (.iconst (-1), 1) := qd_p qo_2 (by decide +kernel)
theorem dX3_noHour_12 : decode cX3_noHour 12 = .ok (.ireturn, 1) := qd_p qo_172 (by decide +kernel)
theorem dX3_noPane_0 : decode cX3_noPane 0 = .ok (.aload_n 0, 1) := qd_p qo_42 (by decide +kernel)
theorem dX3_noPane_1 : decode cX3_noPane 1 = .ok (.getfield 10, 3) := qz_2 .getfield 0 10 qo_180 (by decide +kernel) rfl
theorem dX3_noPane_4 : decode cX3_noPane 4 = .ok (.iload_n 1, 1) := qd_p qo_27 (by decide +kernel)
theorem dX3_noPane_5 : decode cX3_noPane 5 = .ok (.invokevirtual 72, 3) := qz_2 .invokevirtual 0 72 qo_182 (by decide +kernel) rfl
theorem dX3_noPane_8 : decode cX3_noPane 8 = .ok (.ifCond .eq 7, 3) := qz_s2 (.ifCond .eq) 0 7 qo_153 (by decide +kernel) rfl
theorem dX3_noPane_11 : decode cX3_noPane 11 = .ok (.iconst 0, 1) := qd_p qo_3 (by decide +kernel)
theorem dX3_noPane_12 : decode cX3_noPane 12 = .ok (.goto 4, 3) := qz_s2 .goto 0 4 qo_167 (by decide +kernel) rfl
theorem dX3_noPane_15 : decode cX3_noPane 15 = .ok (.iconst (-1), 1) := qd_p qo_2 (by decide +kernel)
theorem dX3_noPane_16 : decode cX3_noPane 16 = .ok (.ireturn, 1) := qd_p qo_172 (by decide +kernel)
theorem dX3_noLooker_0 : decode cX3_noLooker 0 = .ok (.aload_n 0, 1) := qd_p qo_42 (by decide +kernel)
theorem dX3_noLooker_1 : decode cX3_noLooker 1 = .ok (.getfield 10, 3) := qz_2 .getfield 0 10 qo_180 (by decide +kernel) rfl
theorem dX3_noLooker_4 : decode cX3_noLooker 4 = .ok (.iload_n 1, 1) := qd_p qo_27 (by decide +kernel)
theorem dX3_noLooker_5 : decode cX3_noLooker 5 = .ok (.invokevirtual 75, 3) := qz_2 .invokevirtual 0 75 qo_182 (by decide +kernel) rfl
theorem dX3_noLooker_8 : decode cX3_noLooker 8 = .ok (.ifCond .eq 7, 3) := qz_s2 (.ifCond .eq) 0 7 qo_153 (by decide +kernel) rfl
theorem dX3_noLooker_11 : decode cX3_noLooker 11 = .ok (.iconst 0, 1) := qd_p qo_3 (by decide +kernel)
theorem dX3_noLooker_12 : decode cX3_noLooker 12 = .ok (.goto 4, 3) := qz_s2 .goto 0 4 qo_167 (by decide +kernel) rfl
theorem dX3_noLooker_15 : decode cX3_noLooker 15 = .ok (.iconst (-1), 1) := qd_p qo_2 (by decide +kernel)
theorem dX3_noLooker_16 : decode cX3_noLooker 16 = .ok (.ireturn, 1) := qd_p qo_172 (by decide +kernel)
theorem dX3_noPair_0 : decode cX3_noPair 0 = .ok (.aload_n 0, 1) := qd_p qo_42 (by decide +kernel)
theorem dX3_noPair_1 : decode cX3_noPair 1 = .ok (.getfield 10, 3) := qz_2 .getfield 0 10 qo_180 (by decide +kernel) rfl
theorem dX3_noPair_4 : decode cX3_noPair 4 = .ok (.iload_n 1, 1) := qd_p qo_27 (by decide +kernel)
theorem dX3_noPair_5 : decode cX3_noPair 5 = .ok (.invokevirtual 75, 3) := qz_2 .invokevirtual 0 75 qo_182 (by decide +kernel) rfl
theorem dX3_noPair_8 : decode cX3_noPair 8 = .ok (.ifCond .eq 23, 3) := qz_s2 (.ifCond .eq) 0 23 qo_153 (by decide +kernel) rfl
theorem dX3_noPair_11 : decode cX3_noPair 11 = .ok (.aload_n 0, 1) := qd_p qo_42 (by decide +kernel)
theorem dX3_noPair_12 : decode cX3_noPair 12 = .ok (.getfield 10, 3) := qz_2 .getfield 0 10 qo_180 (by decide +kernel) rfl
theorem dX3_noPair_15 : decode cX3_noPair 15 = .ok (.iload_n 2, 1) := qd_p qo_28 (by decide +kernel)
theorem dX3_noPair_16 : decode cX3_noPair 16 = .ok (.invokevirtual 75, 3) := qz_2 .invokevirtual 0 75 qo_182 (by decide +kernel) rfl
theorem dX3_noPair_19 : decode cX3_noPair 19 = .ok (.ifCond .eq 12, 3) := qz_s2 (.ifCond .eq) 0 12 qo_153 (by decide +kernel) rfl
theorem dX3_noPair_22 : decode cX3_noPair 22 = .ok (.iload_n 1, 1) := qd_p qo_27 (by decide +kernel)
theorem dX3_noPair_23 : decode cX3_noPair 23 = .ok (.iload_n 2, 1) := qd_p qo_28 (by decide +kernel)
theorem dX3_noPair_24 : decode cX3_noPair 24 = .ok (.if_icmp .eq 7, 3) := qz_s2 (.if_icmp .eq) 0 7 qo_159 (by decide +kernel) rfl
theorem dX3_noPair_27 : decode cX3_noPair 27 = .ok (.iconst 0, 1) := qd_p qo_3 (by decide +kernel)
theorem dX3_noPair_28 : decode cX3_noPair 28 = .ok (.goto 4, 3) := qz_s2 .goto 0 4 qo_167 (by decide +kernel) rfl
theorem dX3_noPair_31 : decode cX3_noPair 31 = .ok (.iconst (-1), 1) := qd_p qo_2 (by decide +kernel)
theorem dX3_noPair_32 : decode cX3_noPair 32 = .ok (.ireturn, 1) := qd_p qo_172 (by decide +kernel)
theorem dX3_notBelow_0 : decode cX3_notBelow 0 = .ok (.iload_n 0, 1) := qd_p qo_26 (by decide +kernel)
theorem dX3_notBelow_1 : decode cX3_notBelow 1 = .ok (.ifCond .lt 12, 3) := qz_s2 (.ifCond .lt) 0 12 qo_155 (by decide +kernel) rfl
theorem dX3_notBelow_4 : decode cX3_notBelow 4 = .ok (.iload_n 0, 1) := qd_p qo_26 (by decide +kernel)
theorem dX3_notBelow_5 : decode cX3_notBelow 5 = .ok (.iload_n 1, 1) := qd_p qo_27 (by decide +kernel)
theorem dX3_notBelow_6 : decode cX3_notBelow 6 = .ok (.if_icmp .ge 7, 3) := qz_s2 (.if_icmp .ge) 0 7 qo_162 (by decide +kernel) rfl
theorem dX3_notBelow_9 : decode cX3_notBelow 9 = .ok (.iconst 0, 1) := qd_p qo_3 (by decide +kernel)
theorem dX3_notBelow_10 : decode cX3_notBelow 10 = .ok (.goto 5, 3) := qz_s2 .goto 0 5 qo_167 (by decide +kernel) rfl
theorem dX3_notBelow_13 : decode cX3_notBelow 13 = .ok (.bipush (-2), 2) := qz_s1 .bipush 254 qo_16 (by decide +kernel) rfl
theorem dX3_notBelow_15 : decode cX3_notBelow 15 = .ok (.ireturn, 1) := qd_p qo_172 (by decide +kernel)
theorem dX3_outside_0 : decode cX3_outside 0 = .ok (.iload_n 0, 1) := qd_p qo_26 (by decide +kernel)
theorem dX3_outside_1 : decode cX3_outside 1 = .ok (.iload_n 1, 1) := qd_p qo_27 (by decide +kernel)
theorem dX3_outside_2 : decode cX3_outside 2 = .ok (.if_icmp .ge 6, 3) := qz_s2 (.if_icmp .ge) 0 6 qo_162 (by decide +kernel) rfl
theorem dX3_outside_5 : decode cX3_outside 5 = .ok (.bipush (-4), 2) := qz_s1 .bipush 252 qo_16 (by decide +kernel) rfl
theorem dX3_outside_7 : decode cX3_outside 7 = .ok (.ireturn, 1) := qd_p qo_172 (by decide +kernel)
theorem dX3_outside_8 : decode cX3_outside 8 = .ok (.iload_n 0, 1) := qd_p qo_26 (by decide +kernel)
theorem dX3_outside_9 : decode cX3_outside 9 = .ok (.iload_n 2, 1) := qd_p qo_28 (by decide +kernel)
theorem dX3_outside_10 : decode cX3_outside 10 = .ok (.if_icmp .le 8, 3) := qz_s2 (.if_icmp .le) 0 8 qo_164 (by decide +kernel) rfl
theorem dX3_outside_13 : decode cX3_outside 13 = .ok (.bipush (-6), 2) := qz_s1 .bipush 250 qo_16 (by decide +kernel) rfl
theorem dX3_outside_15 : decode cX3_outside 15 = .ok (.goto 4, 3) := qz_s2 .goto 0 4 qo_167 (by decide +kernel) rfl
theorem dX3_outside_18 : decode cX3_outside 18 = .ok (.iconst 0, 1) := qd_p qo_3 (by decide +kernel)
theorem dX3_outside_19 : decode cX3_outside 19 = .ok (.ireturn, 1) := qd_p qo_172 (by decide +kernel)
theorem dX3_noLookerFar_0 : decode cX3_noLookerFar 0 = .ok (.aload_n 0, 1) := qd_p qo_42 (by decide +kernel)
theorem dX3_noLookerFar_1 : decode cX3_noLookerFar 1 = .ok (.iload_n 1, 1) := qd_p qo_27 (by decide +kernel)
theorem dX3_noLookerFar_2 : decode cX3_noLookerFar 2 = .ok (.invokevirtual 78, 3) := qz_2 .invokevirtual 0 78 qo_182 (by decide +kernel) rfl
theorem dX3_noLookerFar_5 : decode cX3_noLookerFar 5 = .ok (.iload_n 2, 1) := qd_p qo_28 (by decide +kernel)
theorem dX3_noLookerFar_6 : decode cX3_noLookerFar 6 = .ok (.iconst 0, 1) := qd_p qo_3 (by decide +kernel)
theorem dX3_noLookerFar_7 : decode cX3_noLookerFar 7 = .ok (.sipush 999, 3) := qz_s2 .sipush 3 231 qo_17 (by decide +kernel) rfl
theorem dX3_noLookerFar_10 : decode cX3_noLookerFar 10 = .ok (.invokestatic 81, 3) := qz_2 .invokestatic 0 81 qo_184 (by decide +kernel) rfl
theorem dX3_noLookerFar_13 : decode cX3_noLookerFar 13 = .ok (.invokestatic 85, 3) := qz_2 .invokestatic 0 85 qo_184 (by decide +kernel) rfl
theorem dX3_noLookerFar_16 : decode cX3_noLookerFar 16 = .ok (.ireturn, 1) := qd_p qo_172 (by decide +kernel)
theorem dX3_noPairFar_0 : decode cX3_noPairFar 0 = .ok (.aload_n 0, 1) := qd_p qo_42 (by decide +kernel)
theorem dX3_noPairFar_1 : decode cX3_noPairFar 1 = .ok (.iload_n 1, 1) := qd_p qo_27 (by decide +kernel)
theorem dX3_noPairFar_2 : decode cX3_noPairFar 2 = .ok (.iload_n 2, 1) := qd_p qo_28 (by decide +kernel)
theorem dX3_noPairFar_3 : decode cX3_noPairFar 3 = .ok (.invokevirtual 89, 3) := qz_2 .invokevirtual 0 89 qo_182 (by decide +kernel) rfl
theorem dX3_noPairFar_6 : decode cX3_noPairFar 6 = .ok (.iload_n 3, 1) := qd_p qo_29 (by decide +kernel)
theorem dX3_noPairFar_7 : decode cX3_noPairFar 7 = .ok (.iconst 0, 1) := qd_p qo_3 (by decide +kernel)
theorem dX3_noPairFar_8 : decode cX3_noPairFar 8 = .ok (.sipush 999, 3) := qz_s2 .sipush 3 231 qo_17 (by decide +kernel) rfl
theorem dX3_noPairFar_11 : decode cX3_noPairFar 11 = .ok (.invokestatic 81, 3) := qz_2 .invokestatic 0 81 qo_184 (by decide +kernel) rfl
theorem dX3_noPairFar_14 : decode cX3_noPairFar 14 = .ok (.invokestatic 85, 3) := qz_2 .invokestatic 0 85 qo_184 (by decide +kernel) rfl
theorem dX3_noPairFar_17 : decode cX3_noPairFar 17 = .ok (.ireturn, 1) := qd_p qo_172 (by decide +kernel)
theorem dX3_longRow_0 : decode cX3_longRow 0 = .ok (.aload_n 0, 1) := qd_p qo_42 (by decide +kernel)
theorem dX3_longRow_1 : decode cX3_longRow 1 = .ok (.getfield 44, 3) := qz_2 .getfield 0 44 qo_180 (by decide +kernel) rfl
theorem dX3_longRow_4 : decode cX3_longRow 4 = .ok (.bipush 8, 2) := qz_s1 .bipush 8 qo_16 (by decide +kernel) rfl
theorem dX3_longRow_6 : decode cX3_longRow 6 = .ok (.if_icmp .le 8, 3) := qz_s2 (.if_icmp .le) 0 8 qo_164 (by decide +kernel) rfl
theorem dX3_longRow_9 : decode cX3_longRow 9 = .ok (.bipush (-3), 2) := qz_s1 .bipush 253 qo_16 (by decide +kernel) rfl
theorem dX3_longRow_11 : decode cX3_longRow 11 = .ok (.goto 4, 3) := qz_s2 .goto 0 4 qo_167 (by decide +kernel) rfl
theorem dX3_longRow_14 : decode cX3_longRow 14 = .ok (.iconst 0, 1) := qd_p qo_3 (by decide +kernel)
theorem dX3_longRow_15 : decode cX3_longRow 15 = .ok (.ireturn, 1) := qd_p qo_172 (by decide +kernel)
theorem dX3_feed_0 : decode cX3_feed 0 = .ok (.iload_n 1, 1) := qd_p qo_27 (by decide +kernel)
theorem dX3_feed_1 : decode cX3_feed 1 = .ok (.iconst 0, 1) := qd_p qo_3 (by decide +kernel)
theorem dX3_feed_2 : decode cX3_feed 2 = .ok (.sipush 255, 3) := qz_s2 .sipush 0 255 qo_17 (by decide +kernel) rfl
theorem dX3_feed_5 : decode cX3_feed 5 = .ok (.invokestatic 81, 3) := qz_2 .invokestatic 0 81 qo_184 (by decide +kernel) rfl
theorem dX3_feed_8 : decode cX3_feed 8 = .ok (.istore_n 2, 1) := qd_p qo_61 (by decide +kernel)
theorem dX3_feed_9 : decode cX3_feed 9 = .ok (.iload_n 2, 1) := qd_p qo_28 (by decide +kernel)
theorem dX3_feed_10 : decode cX3_feed 10 = .ok (.ifCond .ne 18, 3) := qz_s2 (.ifCond .ne) 0 18 qo_154 (by decide +kernel) rfl
theorem dX3_feed_13 : decode cX3_feed 13 = .ok (.aload_n 0, 1) := qd_p qo_42 (by decide +kernel)
theorem dX3_feed_14 : decode cX3_feed 14 = .ok (.getfield 36, 3) := qz_2 .getfield 0 36 qo_180 (by decide +kernel) rfl
theorem dX3_feed_17 : decode cX3_feed 17 = .ok (.getfield 92, 3) := qz_2 .getfield 0 92 qo_180 (by decide +kernel) rfl
theorem dX3_feed_20 : decode cX3_feed 20 = .ok (.bipush 96, 2) := qz_s1 .bipush 96 qo_16 (by decide +kernel) rfl
theorem dX3_feed_22 : decode cX3_feed 22 = .ok (.if_icmp .lt 6, 3) := qz_s2 (.if_icmp .lt) 0 6 qo_161 (by decide +kernel) rfl
theorem dX3_feed_25 : decode cX3_feed 25 = .ok (.bipush (-6), 2) := qz_s1 .bipush 250 qo_16 (by decide +kernel) rfl
theorem dX3_feed_27 : decode cX3_feed 27 = .ok (.istore_n 2, 1) := qd_p qo_61 (by decide +kernel)
theorem dX3_feed_28 : decode cX3_feed 28 = .ok (.iload_n 2, 1) := qd_p qo_28 (by decide +kernel)
theorem dX3_feed_29 : decode cX3_feed 29 = .ok (.ifCond .eq 9, 3) := qz_s2 (.ifCond .eq) 0 9 qo_153 (by decide +kernel) rfl
theorem dX3_feed_32 : decode cX3_feed 32 = .ok (.aload_n 0, 1) := qd_p qo_42 (by decide +kernel)
theorem dX3_feed_33 : decode cX3_feed 33 = .ok (.iload_n 2, 1) := qd_p qo_28 (by decide +kernel)
theorem dX3_feed_34 : decode cX3_feed 34 = .ok (.invokevirtual 61, 3) := qz_2 .invokevirtual 0 61 qo_182 (by decide +kernel) rfl
theorem dX3_feed_37 : decode cX3_feed 37 = .ok (.ireturn, 1) := qd_p qo_172 (by decide +kernel)
theorem dX3_feed_38 : decode cX3_feed 38 = .ok (.aload_n 0, 1) := qd_p qo_42 (by decide +kernel)
theorem dX3_feed_39 : decode cX3_feed 39 = .ok (.getfield 36, 3) := qz_2 .getfield 0 36 qo_180 (by decide +kernel) rfl
theorem dX3_feed_42 : decode cX3_feed 42 = .ok (.iload_n 1, 1) := qd_p qo_27 (by decide +kernel)
theorem dX3_feed_43 : decode cX3_feed 43 = .ok (.invokevirtual 95, 3) := qz_2 .invokevirtual 0 95 qo_182 (by decide +kernel) rfl
theorem dX3_feed_46 : decode cX3_feed 46 = .ok (.aload_n 0, 1) := qd_p qo_42 (by decide +kernel)
theorem dX3_feed_47 : decode cX3_feed 47 = .ok (.getfield 36, 3) := qz_2 .getfield 0 36 qo_180 (by decide +kernel) rfl
theorem dX3_feed_50 : decode cX3_feed 50 = .ok (.getfield 92, 3) := qz_2 .getfield 0 92 qo_180 (by decide +kernel) rfl
theorem dX3_feed_53 : decode cX3_feed 53 = .ok (.ireturn, 1) := qd_p qo_172 (by decide +kernel)
theorem dX3_tellTerrace_0 : decode cX3_tellTerrace 0 = .ok (.aload_n 0, 1) := qd_p qo_42 (by decide +kernel)
theorem dX3_tellTerrace_1 : decode cX3_tellTerrace 1 = .ok (.getfield 36, 3) := qz_2 .getfield 0 36 qo_180 (by decide +kernel) rfl
theorem dX3_tellTerrace_4 : decode cX3_tellTerrace 4 = .ok (.invokevirtual 103, 3) := qz_2 .invokevirtual 0 103 qo_182 (by decide +kernel) rfl
theorem dX3_tellTerrace_7 : decode cX3_tellTerrace 7 = .ok (.istore_n 1, 1) := qd_p qo_60 (by decide +kernel)
theorem dX3_tellTerrace_8 : decode cX3_tellTerrace 8 = .ok (.iload_n 1, 1) := qd_p qo_27 (by decide +kernel)
theorem dX3_tellTerrace_9 : decode cX3_tellTerrace 9 = .ok (.ifCond .lt 9, 3) := qz_s2 (.ifCond .lt) 0 9 qo_155 (by decide +kernel) rfl
theorem dX3_tellTerrace_12 : decode cX3_tellTerrace 12 = .ok (.sipush (-1000), 3) := qz_s2 .sipush 252 24 qo_17 (by decide +kernel) rfl
theorem dX3_tellTerrace_15 : decode cX3_tellTerrace 15 = .ok (.iload_n 1, 1) := qd_p qo_27 (by decide +kernel)
theorem dX3_tellTerrace_16 : decode cX3_tellTerrace 16 = .ok (.isub, 1) := qd_p qo_100 (by decide +kernel)
theorem dX3_tellTerrace_17 : decode cX3_tellTerrace 17 = .ok (.ireturn, 1) := qd_p qo_172 (by decide +kernel)
theorem dX3_tellTerrace_18 : decode cX3_tellTerrace 18 = .ok (.aload_n 0, 1) := qd_p qo_42 (by decide +kernel)
theorem dX3_tellTerrace_19 : decode cX3_tellTerrace 19 = .ok (.getfield 16, 3) := qz_2 .getfield 0 16 qo_180 (by decide +kernel) rfl
theorem dX3_tellTerrace_22 : decode cX3_tellTerrace 22 = .ok (.aload_n 0, 1) := qd_p qo_42 (by decide +kernel)
theorem dX3_tellTerrace_23 : decode cX3_tellTerrace 23 = .ok (.getfield 10, 3) := qz_2 .getfield 0 10 qo_180 (by decide +kernel) rfl
theorem dX3_tellTerrace_26 : decode cX3_tellTerrace 26 = .ok (.invokevirtual 106, 3) := qz_2 .invokevirtual 0 106 qo_182 (by decide +kernel) rfl
theorem dX3_tellTerrace_29 : decode cX3_tellTerrace 29 = .ok (.iconst 0, 1) := qd_p qo_3 (by decide +kernel)
theorem dX3_tellTerrace_30 : decode cX3_tellTerrace 30 = .ok (.istore_n 2, 1) := qd_p qo_61 (by decide +kernel)
theorem dX3_tellTerrace_31 : decode cX3_tellTerrace 31 = .ok (.iconst 0, 1) := qd_p qo_3 (by decide +kernel)
theorem dX3_tellTerrace_32 : decode cX3_tellTerrace 32 = .ok (.istore_n 1, 1) := qd_p qo_60 (by decide +kernel)
theorem dX3_tellTerrace_33 : decode cX3_tellTerrace 33 = .ok (.iconst 0, 1) := qd_p qo_3 (by decide +kernel)
theorem dX3_tellTerrace_34 : decode cX3_tellTerrace 34 = .ok (.istore_n 3, 1) := qd_p qo_62 (by decide +kernel)
theorem dX3_tellTerrace_35 : decode cX3_tellTerrace 35 = .ok (.iload_n 3, 1) := qd_p qo_29 (by decide +kernel)
theorem dX3_tellTerrace_36 : decode cX3_tellTerrace 36 = .ok (.bipush 96, 2) := qz_s1 .bipush 96 qo_16 (by decide +kernel) rfl
theorem dX3_tellTerrace_38 : decode cX3_tellTerrace 38 = .ok (.if_icmp .ge 53, 3) := qz_s2 (.if_icmp .ge) 0 53 qo_162 (by decide +kernel) rfl
theorem dX3_tellTerrace_41 : decode cX3_tellTerrace 41 = .ok (.iload_n 1, 1) := qd_p qo_27 (by decide +kernel)
theorem dX3_tellTerrace_42 : decode cX3_tellTerrace 42 = .ok (.aload_n 0, 1) := qd_p qo_42 (by decide +kernel)
theorem dX3_tellTerrace_43 : decode cX3_tellTerrace 43 = .ok (.getfield 36, 3) := qz_2 .getfield 0 36 qo_180 (by decide +kernel) rfl
theorem dX3_tellTerrace_46 : decode cX3_tellTerrace 46 = .ok (.getfield 92, 3) := qz_2 .getfield 0 92 qo_180 (by decide +kernel) rfl
theorem dX3_tellTerrace_49 : decode cX3_tellTerrace 49 = .ok (.if_icmp .ge 42, 3) := qz_s2 (.if_icmp .ge) 0 42 qo_162 (by decide +kernel) rfl
theorem dX3_tellTerrace_52 : decode cX3_tellTerrace 52 = .ok (.aload_n 0, 1) := qd_p qo_42 (by decide +kernel)
theorem dX3_tellTerrace_53 : decode cX3_tellTerrace 53 = .ok (.getfield 36, 3) := qz_2 .getfield 0 36 qo_180 (by decide +kernel) rfl
theorem dX3_tellTerrace_56 : decode cX3_tellTerrace 56 = .ok (.aload_n 0, 1) := qd_p qo_42 (by decide +kernel)
theorem dX3_tellTerrace_57 : decode cX3_tellTerrace 57 = .ok (.getfield 16, 3) := qz_2 .getfield 0 16 qo_180 (by decide +kernel) rfl
theorem dX3_tellTerrace_60 : decode cX3_tellTerrace 60 = .ok (.iload_n 1, 1) := qd_p qo_27 (by decide +kernel)
theorem dX3_tellTerrace_61 : decode cX3_tellTerrace 61 = .ok (.invokevirtual 110, 3) := qz_2 .invokevirtual 0 110 qo_182 (by decide +kernel) rfl
theorem dX3_tellTerrace_64 : decode cX3_tellTerrace 64 = .ok (.ifCond .ne 9, 3) := qz_s2 (.ifCond .ne) 0 9 qo_154 (by decide +kernel) rfl
theorem dX3_tellTerrace_67 : decode cX3_tellTerrace 67 = .ok (.sipush (-2000), 3) := qz_s2 .sipush 248 48 qo_17 (by decide +kernel) rfl
theorem dX3_tellTerrace_70 : decode cX3_tellTerrace 70 = .ok (.iload_n 1, 1) := qd_p qo_27 (by decide +kernel)
theorem dX3_tellTerrace_71 : decode cX3_tellTerrace 71 = .ok (.isub, 1) := qd_p qo_100 (by decide +kernel)
theorem dX3_tellTerrace_72 : decode cX3_tellTerrace 72 = .ok (.ireturn, 1) := qd_p qo_172 (by decide +kernel)
theorem dX3_tellTerrace_73 : decode cX3_tellTerrace 73 = .ok (.iinc 2 1, 3) := qd_i (x := 2) (y := 1) qo_132 (by decide +kernel) rfl
theorem dX3_tellTerrace_76 : decode cX3_tellTerrace 76 = .ok (.aload_n 0, 1) := qd_p qo_42 (by decide +kernel)
theorem dX3_tellTerrace_77 : decode cX3_tellTerrace 77 = .ok (.getfield 36, 3) := qz_2 .getfield 0 36 qo_180 (by decide +kernel) rfl
theorem dX3_tellTerrace_80 : decode cX3_tellTerrace 80 = .ok (.iload_n 1, 1) := qd_p qo_27 (by decide +kernel)
theorem dX3_tellTerrace_81 : decode cX3_tellTerrace 81 = .ok (.invokevirtual 114, 3) := qz_2 .invokevirtual 0 114 qo_182 (by decide +kernel) rfl
theorem dX3_tellTerrace_84 : decode cX3_tellTerrace 84 = .ok (.istore_n 1, 1) := qd_p qo_60 (by decide +kernel)
theorem dX3_tellTerrace_85 : decode cX3_tellTerrace 85 = .ok (.iinc 3 1, 3) := qd_i (x := 3) (y := 1) qo_132 (by decide +kernel) rfl
theorem dX3_tellTerrace_88 : decode cX3_tellTerrace 88 = .ok (.goto (-53), 3) := qz_s2 .goto 255 203 qo_167 (by decide +kernel) rfl
theorem dX3_tellTerrace_91 : decode cX3_tellTerrace 91 = .ok (.aload_n 0, 1) := qd_p qo_42 (by decide +kernel)
theorem dX3_tellTerrace_92 : decode cX3_tellTerrace 92 = .ok (.getfield 10, 3) := qz_2 .getfield 0 10 qo_180 (by decide +kernel) rfl
theorem dX3_tellTerrace_95 : decode cX3_tellTerrace 95 = .ok (.aload_n 0, 1) := qd_p qo_42 (by decide +kernel)
theorem dX3_tellTerrace_96 : decode cX3_tellTerrace 96 = .ok (.getfield 16, 3) := qz_2 .getfield 0 16 qo_180 (by decide +kernel) rfl
theorem dX3_tellTerrace_99 : decode cX3_tellTerrace 99 = .ok (.invokevirtual 106, 3) := qz_2 .invokevirtual 0 106 qo_182 (by decide +kernel) rfl
theorem dX3_tellTerrace_102 : decode cX3_tellTerrace 102 = .ok (.aload_n 0, 1) := qd_p qo_42 (by decide +kernel)
theorem dX3_tellTerrace_103 : decode cX3_tellTerrace 103 = .ok (.getfield 29, 3) := qz_2 .getfield 0 29 qo_180 (by decide +kernel) rfl
theorem dX3_tellTerrace_106 : decode cX3_tellTerrace 106 = .ok (.invokevirtual 117, 3) := qz_2 .invokevirtual 0 117 qo_182 (by decide +kernel) rfl
theorem dX3_tellTerrace_109 : decode cX3_tellTerrace 109 = .ok (.iload_n 2, 1) := qd_p qo_28 (by decide +kernel)
theorem dX3_tellTerrace_110 : decode cX3_tellTerrace 110 = .ok (.ireturn, 1) := qd_p qo_172 (by decide +kernel)
theorem dX3_terrace_0 : decode cX3_terrace 0 = .ok (.aload_n 0, 1) := qd_p qo_42 (by decide +kernel)
theorem dX3_terrace_1 : decode cX3_terrace 1 = .ok (.invokevirtual 99, 3) := qz_2 .invokevirtual 0 99 qo_182 (by decide +kernel) rfl
theorem dX3_terrace_4 : decode cX3_terrace 4 = .ok (.istore_n 1, 1) := qd_p qo_60 (by decide +kernel)
theorem dX3_terrace_5 : decode cX3_terrace 5 = .ok (.aload_n 0, 1) := qd_p qo_42 (by decide +kernel)
theorem dX3_terrace_6 : decode cX3_terrace 6 = .ok (.getfield 36, 3) := qz_2 .getfield 0 36 qo_180 (by decide +kernel) rfl
theorem dX3_terrace_9 : decode cX3_terrace 9 = .ok (.iconst 0, 1) := qd_p qo_3 (by decide +kernel)
theorem dX3_terrace_10 : decode cX3_terrace 10 = .ok (.putfield 92, 3) := qz_2 .putfield 0 92 qo_181 (by decide +kernel) rfl
theorem dX3_terrace_13 : decode cX3_terrace 13 = .ok (.iload_n 1, 1) := qd_p qo_27 (by decide +kernel)
theorem dX3_terrace_14 : decode cX3_terrace 14 = .ok (.ireturn, 1) := qd_p qo_172 (by decide +kernel)
theorem dX3_paneOf_0 : decode cX3_paneOf 0 = .ok (.aload_n 0, 1) := qd_p qo_42 (by decide +kernel)
theorem dX3_paneOf_1 : decode cX3_paneOf 1 = .ok (.iload_n 1, 1) := qd_p qo_27 (by decide +kernel)
theorem dX3_paneOf_2 : decode cX3_paneOf 2 = .ok (.invokevirtual 120, 3) := qz_2 .invokevirtual 0 120 qo_182 (by decide +kernel) rfl
theorem dX3_paneOf_5 : decode cX3_paneOf 5 = .ok (.iload_n 2, 1) := qd_p qo_28 (by decide +kernel)
theorem dX3_paneOf_6 : decode cX3_paneOf 6 = .ok (.iconst 2, 1) := qd_p qo_5 (by decide +kernel)
theorem dX3_paneOf_7 : decode cX3_paneOf 7 = .ok (.invokestatic 123, 3) := qz_2 .invokestatic 0 123 qo_184 (by decide +kernel) rfl
theorem dX3_paneOf_10 : decode cX3_paneOf 10 = .ok (.invokestatic 85, 3) := qz_2 .invokestatic 0 85 qo_184 (by decide +kernel) rfl
theorem dX3_paneOf_13 : decode cX3_paneOf 13 = .ok (.istore_n 3, 1) := qd_p qo_62 (by decide +kernel)
theorem dX3_paneOf_14 : decode cX3_paneOf 14 = .ok (.iload_n 3, 1) := qd_p qo_29 (by decide +kernel)
theorem dX3_paneOf_15 : decode cX3_paneOf 15 = .ok (.ifCond .eq 9, 3) := qz_s2 (.ifCond .eq) 0 9 qo_153 (by decide +kernel) rfl
theorem dX3_paneOf_18 : decode cX3_paneOf 18 = .ok (.aload_n 0, 1) := qd_p qo_42 (by decide +kernel)
theorem dX3_paneOf_19 : decode cX3_paneOf 19 = .ok (.iload_n 3, 1) := qd_p qo_29 (by decide +kernel)
theorem dX3_paneOf_20 : decode cX3_paneOf 20 = .ok (.invokevirtual 61, 3) := qz_2 .invokevirtual 0 61 qo_182 (by decide +kernel) rfl
theorem dX3_paneOf_23 : decode cX3_paneOf 23 = .ok (.ireturn, 1) := qd_p qo_172 (by decide +kernel)
theorem dX3_paneOf_24 : decode cX3_paneOf 24 = .ok (.iload_n 2, 1) := qd_p qo_28 (by decide +kernel)
theorem dX3_paneOf_25 : decode cX3_paneOf 25 = .ok (.ifCond .ne 15, 3) := qz_s2 (.ifCond .ne) 0 15 qo_154 (by decide +kernel) rfl
theorem dX3_paneOf_28 : decode cX3_paneOf 28 = .ok (.aload_n 0, 1) := qd_p qo_42 (by decide +kernel)
theorem dX3_paneOf_29 : decode cX3_paneOf 29 = .ok (.getfield 10, 3) := qz_2 .getfield 0 10 qo_180 (by decide +kernel) rfl
theorem dX3_paneOf_32 : decode cX3_paneOf 32 = .ok (.getfield 126, 3) := qz_2 .getfield 0 126 qo_180 (by decide +kernel) rfl
theorem dX3_paneOf_35 : decode cX3_paneOf 35 = .ok (.iload_n 1, 1) := qd_p qo_27 (by decide +kernel)
theorem dX3_paneOf_36 : decode cX3_paneOf 36 = .ok (.iaload, 1) := qd_p qo_46 (by decide +kernel)
theorem dX3_paneOf_37 : decode cX3_paneOf 37 = .ok (.goto 11, 3) := qz_s2 .goto 0 11 qo_167 (by decide +kernel) rfl
theorem dX3_paneOf_40 : decode cX3_paneOf 40 = .ok (.aload_n 0, 1) := qd_p qo_42 (by decide +kernel)
theorem dX3_paneOf_41 : decode cX3_paneOf 41 = .ok (.getfield 10, 3) := qz_2 .getfield 0 10 qo_180 (by decide +kernel) rfl
theorem dX3_paneOf_44 : decode cX3_paneOf 44 = .ok (.iload_n 1, 1) := qd_p qo_27 (by decide +kernel)
theorem dX3_paneOf_45 : decode cX3_paneOf 45 = .ok (.invokevirtual 129, 3) := qz_2 .invokevirtual 0 129 qo_182 (by decide +kernel) rfl
theorem dX3_paneOf_48 : decode cX3_paneOf 48 = .ok (.ireturn, 1) := qd_p qo_172 (by decide +kernel)
theorem dX3_lookerOf_0 : decode cX3_lookerOf 0 = .ok (.aload_n 0, 1) := qd_p qo_42 (by decide +kernel)
theorem dX3_lookerOf_1 : decode cX3_lookerOf 1 = .ok (.iload_n 1, 1) := qd_p qo_27 (by decide +kernel)
theorem dX3_lookerOf_2 : decode cX3_lookerOf 2 = .ok (.invokevirtual 78, 3) := qz_2 .invokevirtual 0 78 qo_182 (by decide +kernel) rfl
theorem dX3_lookerOf_5 : decode cX3_lookerOf 5 = .ok (.iload_n 2, 1) := qd_p qo_28 (by decide +kernel)
theorem dX3_lookerOf_6 : decode cX3_lookerOf 6 = .ok (.iconst 4, 1) := qd_p qo_7 (by decide +kernel)
theorem dX3_lookerOf_7 : decode cX3_lookerOf 7 = .ok (.invokestatic 123, 3) := qz_2 .invokestatic 0 123 qo_184 (by decide +kernel) rfl
theorem dX3_lookerOf_10 : decode cX3_lookerOf 10 = .ok (.invokestatic 85, 3) := qz_2 .invokestatic 0 85 qo_184 (by decide +kernel) rfl
theorem dX3_lookerOf_13 : decode cX3_lookerOf 13 = .ok (.istore_n 3, 1) := qd_p qo_62 (by decide +kernel)
theorem dX3_lookerOf_14 : decode cX3_lookerOf 14 = .ok (.iload_n 3, 1) := qd_p qo_29 (by decide +kernel)
theorem dX3_lookerOf_15 : decode cX3_lookerOf 15 = .ok (.ifCond .eq 9, 3) := qz_s2 (.ifCond .eq) 0 9 qo_153 (by decide +kernel) rfl
theorem dX3_lookerOf_18 : decode cX3_lookerOf 18 = .ok (.aload_n 0, 1) := qd_p qo_42 (by decide +kernel)
theorem dX3_lookerOf_19 : decode cX3_lookerOf 19 = .ok (.iload_n 3, 1) := qd_p qo_29 (by decide +kernel)
theorem dX3_lookerOf_20 : decode cX3_lookerOf 20 = .ok (.invokevirtual 61, 3) := qz_2 .invokevirtual 0 61 qo_182 (by decide +kernel) rfl
theorem dX3_lookerOf_23 : decode cX3_lookerOf 23 = .ok (.ireturn, 1) := qd_p qo_172 (by decide +kernel)
theorem dX3_lookerOf_24 : decode cX3_lookerOf 24 = .ok (.iload_n 2, 1) := qd_p qo_28 (by decide +kernel)
theorem dX3_lookerOf_25 : decode cX3_lookerOf 25 = .ok (.tableswitch 56 0 2 #[27, 37, 47], 27) := by decide +kernel
theorem dX3_lookerOf_52 : decode cX3_lookerOf 52 = .ok (.aload_n 0, 1) := qd_p qo_42 (by decide +kernel)
theorem dX3_lookerOf_53 : decode cX3_lookerOf 53 = .ok (.getfield 10, 3) := qz_2 .getfield 0 10 qo_180 (by decide +kernel) rfl
theorem dX3_lookerOf_56 : decode cX3_lookerOf 56 = .ok (.getfield 132, 3) := qz_2 .getfield 0 132 qo_180 (by decide +kernel) rfl
theorem dX3_lookerOf_59 : decode cX3_lookerOf 59 = .ok (.iload_n 1, 1) := qd_p qo_27 (by decide +kernel)
theorem dX3_lookerOf_60 : decode cX3_lookerOf 60 = .ok (.iaload, 1) := qd_p qo_46 (by decide +kernel)
theorem dX3_lookerOf_61 : decode cX3_lookerOf 61 = .ok (.ireturn, 1) := qd_p qo_172 (by decide +kernel)
theorem dX3_lookerOf_62 : decode cX3_lookerOf 62 = .ok (.aload_n 0, 1) := qd_p qo_42 (by decide +kernel)
theorem dX3_lookerOf_63 : decode cX3_lookerOf 63 = .ok (.getfield 10, 3) := qz_2 .getfield 0 10 qo_180 (by decide +kernel) rfl
theorem dX3_lookerOf_66 : decode cX3_lookerOf 66 = .ok (.getfield 135, 3) := qz_2 .getfield 0 135 qo_180 (by decide +kernel) rfl
theorem dX3_lookerOf_69 : decode cX3_lookerOf 69 = .ok (.iload_n 1, 1) := qd_p qo_27 (by decide +kernel)
theorem dX3_lookerOf_70 : decode cX3_lookerOf 70 = .ok (.iaload, 1) := qd_p qo_46 (by decide +kernel)
theorem dX3_lookerOf_71 : decode cX3_lookerOf 71 = .ok (.ireturn, 1) := qd_p qo_172 (by decide +kernel)
theorem dX3_lookerOf_72 : decode cX3_lookerOf 72 = .ok (.aload_n 0, 1) := qd_p qo_42 (by decide +kernel)
theorem dX3_lookerOf_73 : decode cX3_lookerOf 73 = .ok (.getfield 10, 3) := qz_2 .getfield 0 10 qo_180 (by decide +kernel) rfl
theorem dX3_lookerOf_76 : decode cX3_lookerOf 76 = .ok (.iload_n 1, 1) := qd_p qo_27 (by decide +kernel)
theorem dX3_lookerOf_77 : decode cX3_lookerOf 77 = .ok (.invokevirtual 138, 3) := qz_2 .invokevirtual 0 138 qo_182 (by decide +kernel) rfl
theorem dX3_lookerOf_80 : decode cX3_lookerOf 80 = .ok (.ireturn, 1) := qd_p qo_172 (by decide +kernel)
theorem dX3_lookerOf_81 : decode cX3_lookerOf 81 = .ok (.aload_n 0, 1) := qd_p qo_42 (by decide +kernel)
theorem dX3_lookerOf_82 : decode cX3_lookerOf 82 = .ok (.getfield 10, 3) := qz_2 .getfield 0 10 qo_180 (by decide +kernel) rfl
theorem dX3_lookerOf_85 : decode cX3_lookerOf 85 = .ok (.invokevirtual 141, 3) := qz_2 .invokevirtual 0 141 qo_182 (by decide +kernel) rfl
theorem dX3_lookerOf_88 : decode cX3_lookerOf 88 = .ok (.aload_n 0, 1) := qd_p qo_42 (by decide +kernel)
theorem dX3_lookerOf_89 : decode cX3_lookerOf 89 = .ok (.getfield 10, 3) := qz_2 .getfield 0 10 qo_180 (by decide +kernel) rfl
theorem dX3_lookerOf_92 : decode cX3_lookerOf 92 = .ok (.iload_n 1, 1) := qd_p qo_27 (by decide +kernel)
theorem dX3_lookerOf_93 : decode cX3_lookerOf 93 = .ok (.iconst 0, 1) := qd_p qo_3 (by decide +kernel)
theorem dX3_lookerOf_94 : decode cX3_lookerOf 94 = .ok (.invokevirtual 144, 3) := qz_2 .invokevirtual 0 144 qo_182 (by decide +kernel) rfl
theorem dX3_lookerOf_97 : decode cX3_lookerOf 97 = .ok (.ireturn, 1) := qd_p qo_172 (by decide +kernel)
theorem dX3_pane_0 : decode cX3_pane 0 = .ok (.iload_n 1, 1) := qd_p qo_27 (by decide +kernel)
theorem dX3_pane_1 : decode cX3_pane 1 = .ok (.iconst 0, 1) := qd_p qo_3 (by decide +kernel)
theorem dX3_pane_2 : decode cX3_pane 2 = .ok (.sipush 255, 3) := qz_s2 .sipush 0 255 qo_17 (by decide +kernel) rfl
theorem dX3_pane_5 : decode cX3_pane 5 = .ok (.invokestatic 81, 3) := qz_2 .invokestatic 0 81 qo_184 (by decide +kernel) rfl
theorem dX3_pane_8 : decode cX3_pane 8 = .ok (.istore_n 2, 1) := qd_p qo_61 (by decide +kernel)
theorem dX3_pane_9 : decode cX3_pane 9 = .ok (.iload_n 2, 1) := qd_p qo_28 (by decide +kernel)
theorem dX3_pane_10 : decode cX3_pane 10 = .ok (.ifCond .ne 18, 3) := qz_s2 (.ifCond .ne) 0 18 qo_154 (by decide +kernel) rfl
theorem dX3_pane_13 : decode cX3_pane 13 = .ok (.aload_n 0, 1) := qd_p qo_42 (by decide +kernel)
theorem dX3_pane_14 : decode cX3_pane 14 = .ok (.getfield 10, 3) := qz_2 .getfield 0 10 qo_180 (by decide +kernel) rfl
theorem dX3_pane_17 : decode cX3_pane 17 = .ok (.getfield 147, 3) := qz_2 .getfield 0 147 qo_180 (by decide +kernel) rfl
theorem dX3_pane_20 : decode cX3_pane 20 = .ok (.bipush 6, 2) := qz_s1 .bipush 6 qo_16 (by decide +kernel) rfl
theorem dX3_pane_22 : decode cX3_pane 22 = .ok (.if_icmp .lt 6, 3) := qz_s2 (.if_icmp .lt) 0 6 qo_161 (by decide +kernel) rfl
theorem dX3_pane_25 : decode cX3_pane 25 = .ok (.bipush (-6), 2) := qz_s1 .bipush 250 qo_16 (by decide +kernel) rfl
theorem dX3_pane_27 : decode cX3_pane 27 = .ok (.istore_n 2, 1) := qd_p qo_61 (by decide +kernel)
theorem dX3_pane_28 : decode cX3_pane 28 = .ok (.iload_n 2, 1) := qd_p qo_28 (by decide +kernel)
theorem dX3_pane_29 : decode cX3_pane 29 = .ok (.ifCond .eq 9, 3) := qz_s2 (.ifCond .eq) 0 9 qo_153 (by decide +kernel) rfl
theorem dX3_pane_32 : decode cX3_pane 32 = .ok (.aload_n 0, 1) := qd_p qo_42 (by decide +kernel)
theorem dX3_pane_33 : decode cX3_pane 33 = .ok (.iload_n 2, 1) := qd_p qo_28 (by decide +kernel)
theorem dX3_pane_34 : decode cX3_pane 34 = .ok (.invokevirtual 61, 3) := qz_2 .invokevirtual 0 61 qo_182 (by decide +kernel) rfl
theorem dX3_pane_37 : decode cX3_pane 37 = .ok (.ireturn, 1) := qd_p qo_172 (by decide +kernel)
theorem dX3_pane_38 : decode cX3_pane 38 = .ok (.aload_n 0, 1) := qd_p qo_42 (by decide +kernel)
theorem dX3_pane_39 : decode cX3_pane 39 = .ok (.getfield 10, 3) := qz_2 .getfield 0 10 qo_180 (by decide +kernel) rfl
theorem dX3_pane_42 : decode cX3_pane 42 = .ok (.iload_n 1, 1) := qd_p qo_27 (by decide +kernel)
theorem dX3_pane_43 : decode cX3_pane 43 = .ok (.invokevirtual 150, 3) := qz_2 .invokevirtual 0 150 qo_182 (by decide +kernel) rfl
theorem dX3_pane_46 : decode cX3_pane 46 = .ok (.pop, 1) := qd_p qo_87 (by decide +kernel)
theorem dX3_pane_47 : decode cX3_pane 47 = .ok (.aload_n 0, 1) := qd_p qo_42 (by decide +kernel)
theorem dX3_pane_48 : decode cX3_pane 48 = .ok (.getfield 29, 3) := qz_2 .getfield 0 29 qo_180 (by decide +kernel) rfl
theorem dX3_pane_51 : decode cX3_pane 51 = .ok (.invokevirtual 117, 3) := qz_2 .invokevirtual 0 117 qo_182 (by decide +kernel) rfl
theorem dX3_pane_54 : decode cX3_pane 54 = .ok (.aload_n 0, 1) := qd_p qo_42 (by decide +kernel)
theorem dX3_pane_55 : decode cX3_pane 55 = .ok (.getfield 10, 3) := qz_2 .getfield 0 10 qo_180 (by decide +kernel) rfl
theorem dX3_pane_58 : decode cX3_pane 58 = .ok (.getfield 147, 3) := qz_2 .getfield 0 147 qo_180 (by decide +kernel) rfl
theorem dX3_pane_61 : decode cX3_pane 61 = .ok (.iconst 1, 1) := qd_p qo_4 (by decide +kernel)
theorem dX3_pane_62 : decode cX3_pane 62 = .ok (.isub, 1) := qd_p qo_100 (by decide +kernel)
theorem dX3_pane_63 : decode cX3_pane 63 = .ok (.ireturn, 1) := qd_p qo_172 (by decide +kernel)
theorem dX3_looker_0 : decode cX3_looker 0 = .ok (.iload_n 1, 1) := qd_p qo_27 (by decide +kernel)
theorem dX3_looker_1 : decode cX3_looker 1 = .ok (.bipush 6, 2) := qz_s1 .bipush 6 qo_16 (by decide +kernel) rfl
theorem dX3_looker_3 : decode cX3_looker 3 = .ok (.invokestatic 123, 3) := qz_2 .invokestatic 0 123 qo_184 (by decide +kernel) rfl
theorem dX3_looker_6 : decode cX3_looker 6 = .ok (.iload_n 2, 1) := qd_p qo_28 (by decide +kernel)
theorem dX3_looker_7 : decode cX3_looker 7 = .ok (.iconst 0, 1) := qd_p qo_3 (by decide +kernel)
theorem dX3_looker_8 : decode cX3_looker 8 = .ok (.bipush 9, 2) := qz_s1 .bipush 9 qo_16 (by decide +kernel) rfl
theorem dX3_looker_10 : decode cX3_looker 10 = .ok (.invokestatic 81, 3) := qz_2 .invokestatic 0 81 qo_184 (by decide +kernel) rfl
theorem dX3_looker_13 : decode cX3_looker 13 = .ok (.invokestatic 85, 3) := qz_2 .invokestatic 0 85 qo_184 (by decide +kernel) rfl
theorem dX3_looker_16 : decode cX3_looker 16 = .ok (.istore_n 3, 1) := qd_p qo_62 (by decide +kernel)
theorem dX3_looker_17 : decode cX3_looker 17 = .ok (.iload_n 3, 1) := qd_p qo_29 (by decide +kernel)
theorem dX3_looker_18 : decode cX3_looker 18 = .ok (.ifCond .ne 17, 3) := qz_s2 (.ifCond .ne) 0 17 qo_154 (by decide +kernel) rfl
theorem dX3_looker_21 : decode cX3_looker 21 = .ok (.aload_n 0, 1) := qd_p qo_42 (by decide +kernel)
theorem dX3_looker_22 : decode cX3_looker 22 = .ok (.getfield 10, 3) := qz_2 .getfield 0 10 qo_180 (by decide +kernel) rfl
theorem dX3_looker_25 : decode cX3_looker 25 = .ok (.getfield 153, 3) := qz_2 .getfield 0 153 qo_180 (by decide +kernel) rfl
theorem dX3_looker_28 : decode cX3_looker 28 = .ok (.iconst 5, 1) := qd_p qo_8 (by decide +kernel)
theorem dX3_looker_29 : decode cX3_looker 29 = .ok (.if_icmp .lt 6, 3) := qz_s2 (.if_icmp .lt) 0 6 qo_161 (by decide +kernel) rfl
theorem dX3_looker_32 : decode cX3_looker 32 = .ok (.bipush (-6), 2) := qz_s1 .bipush 250 qo_16 (by decide +kernel) rfl
theorem dX3_looker_34 : decode cX3_looker 34 = .ok (.istore_n 3, 1) := qd_p qo_62 (by decide +kernel)
theorem dX3_looker_35 : decode cX3_looker 35 = .ok (.iload_n 3, 1) := qd_p qo_29 (by decide +kernel)
theorem dX3_looker_36 : decode cX3_looker 36 = .ok (.ifCond .eq 9, 3) := qz_s2 (.ifCond .eq) 0 9 qo_153 (by decide +kernel) rfl
theorem dX3_looker_39 : decode cX3_looker 39 = .ok (.aload_n 0, 1) := qd_p qo_42 (by decide +kernel)
theorem dX3_looker_40 : decode cX3_looker 40 = .ok (.iload_n 3, 1) := qd_p qo_29 (by decide +kernel)
theorem dX3_looker_41 : decode cX3_looker 41 = .ok (.invokevirtual 61, 3) := qz_2 .invokevirtual 0 61 qo_182 (by decide +kernel) rfl
theorem dX3_looker_44 : decode cX3_looker 44 = .ok (.ireturn, 1) := qd_p qo_172 (by decide +kernel)
theorem dX3_looker_45 : decode cX3_looker 45 = .ok (.aload_n 0, 1) := qd_p qo_42 (by decide +kernel)
theorem dX3_looker_46 : decode cX3_looker 46 = .ok (.getfield 10, 3) := qz_2 .getfield 0 10 qo_180 (by decide +kernel) rfl
theorem dX3_looker_49 : decode cX3_looker 49 = .ok (.iload_n 1, 1) := qd_p qo_27 (by decide +kernel)
theorem dX3_looker_50 : decode cX3_looker 50 = .ok (.iload_n 2, 1) := qd_p qo_28 (by decide +kernel)
theorem dX3_looker_51 : decode cX3_looker 51 = .ok (.invokevirtual 156, 3) := qz_2 .invokevirtual 0 156 qo_182 (by decide +kernel) rfl
theorem dX3_looker_54 : decode cX3_looker 54 = .ok (.pop, 1) := qd_p qo_87 (by decide +kernel)
theorem dX3_looker_55 : decode cX3_looker 55 = .ok (.aload_n 0, 1) := qd_p qo_42 (by decide +kernel)
theorem dX3_looker_56 : decode cX3_looker 56 = .ok (.getfield 29, 3) := qz_2 .getfield 0 29 qo_180 (by decide +kernel) rfl
theorem dX3_looker_59 : decode cX3_looker 59 = .ok (.invokevirtual 117, 3) := qz_2 .invokevirtual 0 117 qo_182 (by decide +kernel) rfl
theorem dX3_looker_62 : decode cX3_looker 62 = .ok (.aload_n 0, 1) := qd_p qo_42 (by decide +kernel)
theorem dX3_looker_63 : decode cX3_looker 63 = .ok (.getfield 10, 3) := qz_2 .getfield 0 10 qo_180 (by decide +kernel) rfl
theorem dX3_looker_66 : decode cX3_looker 66 = .ok (.getfield 153, 3) := qz_2 .getfield 0 153 qo_180 (by decide +kernel) rfl
theorem dX3_looker_69 : decode cX3_looker 69 = .ok (.iconst 1, 1) := qd_p qo_4 (by decide +kernel)
theorem dX3_looker_70 : decode cX3_looker 70 = .ok (.isub, 1) := qd_p qo_100 (by decide +kernel)
theorem dX3_looker_71 : decode cX3_looker 71 = .ok (.ireturn, 1) := qd_p qo_172 (by decide +kernel)
theorem dX3_stands_0 : decode cX3_stands 0 = .ok (.aload_n 0, 1) := qd_p qo_42 (by decide +kernel)
theorem dX3_stands_1 : decode cX3_stands 1 = .ok (.iload_n 1, 1) := qd_p qo_27 (by decide +kernel)
theorem dX3_stands_2 : decode cX3_stands 2 = .ok (.invokevirtual 78, 3) := qz_2 .invokevirtual 0 78 qo_182 (by decide +kernel) rfl
theorem dX3_stands_5 : decode cX3_stands 5 = .ok (.iload_n 2, 1) := qd_p qo_28 (by decide +kernel)
theorem dX3_stands_6 : decode cX3_stands 6 = .ok (.invokestatic 160, 3) := qz_2 .invokestatic 0 160 qo_184 (by decide +kernel) rfl
theorem dX3_stands_9 : decode cX3_stands 9 = .ok (.iload_n 3, 1) := qd_p qo_29 (by decide +kernel)
theorem dX3_stands_10 : decode cX3_stands 10 = .ok (.invokestatic 160, 3) := qz_2 .invokestatic 0 160 qo_184 (by decide +kernel) rfl
theorem dX3_stands_13 : decode cX3_stands 13 = .ok (.invokestatic 85, 3) := qz_2 .invokestatic 0 85 qo_184 (by decide +kernel) rfl
theorem dX3_stands_16 : decode cX3_stands 16 = .ok (.invokestatic 85, 3) := qz_2 .invokestatic 0 85 qo_184 (by decide +kernel) rfl
theorem dX3_stands_19 : decode cX3_stands 19 = .ok (.istore 5, 2) := qz_1 .istore 5 qo_54 (by decide +kernel)
theorem dX3_stands_21 : decode cX3_stands 21 = .ok (.iload 5, 2) := qz_1 .iload 5 qo_21 (by decide +kernel)
theorem dX3_stands_23 : decode cX3_stands 23 = .ok (.ifCond .ne 18, 3) := qz_s2 (.ifCond .ne) 0 18 qo_154 (by decide +kernel) rfl
theorem dX3_stands_26 : decode cX3_stands 26 = .ok (.iload 4, 2) := qz_1 .iload 4 qo_21 (by decide +kernel)
theorem dX3_stands_28 : decode cX3_stands 28 = .ok (.bipush 9, 2) := qz_s1 .bipush 9 qo_16 (by decide +kernel) rfl
theorem dX3_stands_30 : decode cX3_stands 30 = .ok (.if_icmp .eq 11, 3) := qz_s2 (.if_icmp .eq) 0 11 qo_159 (by decide +kernel) rfl
theorem dX3_stands_33 : decode cX3_stands 33 = .ok (.aload_n 0, 1) := qd_p qo_42 (by decide +kernel)
theorem dX3_stands_34 : decode cX3_stands 34 = .ok (.iload 4, 2) := qz_1 .iload 4 qo_21 (by decide +kernel)
theorem dX3_stands_36 : decode cX3_stands 36 = .ok (.invokevirtual 120, 3) := qz_2 .invokevirtual 0 120 qo_182 (by decide +kernel) rfl
theorem dX3_stands_39 : decode cX3_stands 39 = .ok (.istore 5, 2) := qz_1 .istore 5 qo_54 (by decide +kernel)
theorem dX3_stands_41 : decode cX3_stands 41 = .ok (.iload 5, 2) := qz_1 .iload 5 qo_21 (by decide +kernel)
theorem dX3_stands_43 : decode cX3_stands 43 = .ok (.ifCond .ne 12, 3) := qz_s2 (.ifCond .ne) 0 12 qo_154 (by decide +kernel) rfl
theorem dX3_stands_46 : decode cX3_stands 46 = .ok (.iload_n 2, 1) := qd_p qo_28 (by decide +kernel)
theorem dX3_stands_47 : decode cX3_stands 47 = .ok (.iload_n 3, 1) := qd_p qo_29 (by decide +kernel)
theorem dX3_stands_48 : decode cX3_stands 48 = .ok (.if_icmp .le 7, 3) := qz_s2 (.if_icmp .le) 0 7 qo_164 (by decide +kernel) rfl
theorem dX3_stands_51 : decode cX3_stands 51 = .ok (.bipush (-3), 2) := qz_s1 .bipush 253 qo_16 (by decide +kernel) rfl
theorem dX3_stands_53 : decode cX3_stands 53 = .ok (.istore 5, 2) := qz_1 .istore 5 qo_54 (by decide +kernel)
theorem dX3_stands_55 : decode cX3_stands 55 = .ok (.iload 5, 2) := qz_1 .iload 5 qo_21 (by decide +kernel)
theorem dX3_stands_57 : decode cX3_stands 57 = .ok (.ifCond .eq 10, 3) := qz_s2 (.ifCond .eq) 0 10 qo_153 (by decide +kernel) rfl
theorem dX3_stands_60 : decode cX3_stands 60 = .ok (.aload_n 0, 1) := qd_p qo_42 (by decide +kernel)
theorem dX3_stands_61 : decode cX3_stands 61 = .ok (.iload 5, 2) := qz_1 .iload 5 qo_21 (by decide +kernel)
theorem dX3_stands_63 : decode cX3_stands 63 = .ok (.invokevirtual 61, 3) := qz_2 .invokevirtual 0 61 qo_182 (by decide +kernel) rfl
theorem dX3_stands_66 : decode cX3_stands 66 = .ok (.ireturn, 1) := qd_p qo_172 (by decide +kernel)
theorem dX3_stands_67 : decode cX3_stands 67 = .ok (.aload_n 0, 1) := qd_p qo_42 (by decide +kernel)
theorem dX3_stands_68 : decode cX3_stands 68 = .ok (.getfield 29, 3) := qz_2 .getfield 0 29 qo_180 (by decide +kernel) rfl
theorem dX3_stands_71 : decode cX3_stands 71 = .ok (.iload_n 1, 1) := qd_p qo_27 (by decide +kernel)
theorem dX3_stands_72 : decode cX3_stands 72 = .ok (.aload_n 0, 1) := qd_p qo_42 (by decide +kernel)
theorem dX3_stands_73 : decode cX3_stands 73 = .ok (.getfield 10, 3) := qz_2 .getfield 0 10 qo_180 (by decide +kernel) rfl
theorem dX3_stands_76 : decode cX3_stands 76 = .ok (.getfield 163, 3) := qz_2 .getfield 0 163 qo_180 (by decide +kernel) rfl
theorem dX3_stands_79 : decode cX3_stands 79 = .ok (.iload_n 1, 1) := qd_p qo_27 (by decide +kernel)
theorem dX3_stands_80 : decode cX3_stands 80 = .ok (.aaload, 1) := qd_p qo_50 (by decide +kernel)
theorem dX3_stands_81 : decode cX3_stands 81 = .ok (.invokevirtual 166, 3) := qz_2 .invokevirtual 0 166 qo_182 (by decide +kernel) rfl
theorem dX3_stands_84 : decode cX3_stands 84 = .ok (.aload_n 0, 1) := qd_p qo_42 (by decide +kernel)
theorem dX3_stands_85 : decode cX3_stands 85 = .ok (.getfield 10, 3) := qz_2 .getfield 0 10 qo_180 (by decide +kernel) rfl
theorem dX3_stands_88 : decode cX3_stands 88 = .ok (.iload_n 1, 1) := qd_p qo_27 (by decide +kernel)
theorem dX3_stands_89 : decode cX3_stands 89 = .ok (.iload_n 2, 1) := qd_p qo_28 (by decide +kernel)
theorem dX3_stands_90 : decode cX3_stands 90 = .ok (.iload_n 3, 1) := qd_p qo_29 (by decide +kernel)
theorem dX3_stands_91 : decode cX3_stands 91 = .ok (.iload 4, 2) := qz_1 .iload 4 qo_21 (by decide +kernel)
theorem dX3_stands_93 : decode cX3_stands 93 = .ok (.invokevirtual 170, 3) := qz_2 .invokevirtual 0 170 qo_182 (by decide +kernel) rfl
theorem dX3_stands_96 : decode cX3_stands 96 = .ok (.pop, 1) := qd_p qo_87 (by decide +kernel)
theorem dX3_stands_97 : decode cX3_stands 97 = .ok (.aload_n 0, 1) := qd_p qo_42 (by decide +kernel)
theorem dX3_stands_98 : decode cX3_stands 98 = .ok (.getfield 10, 3) := qz_2 .getfield 0 10 qo_180 (by decide +kernel) rfl
theorem dX3_stands_101 : decode cX3_stands 101 = .ok (.iload_n 1, 1) := qd_p qo_27 (by decide +kernel)
theorem dX3_stands_102 : decode cX3_stands 102 = .ok (.invokevirtual 138, 3) := qz_2 .invokevirtual 0 138 qo_182 (by decide +kernel) rfl
theorem dX3_stands_105 : decode cX3_stands 105 = .ok (.ireturn, 1) := qd_p qo_172 (by decide +kernel)
theorem dX3_roster_0 : decode cX3_roster 0 = .ok (.aload_n 0, 1) := qd_p qo_42 (by decide +kernel)
theorem dX3_roster_1 : decode cX3_roster 1 = .ok (.iload_n 1, 1) := qd_p qo_27 (by decide +kernel)
theorem dX3_roster_2 : decode cX3_roster 2 = .ok (.invokevirtual 78, 3) := qz_2 .invokevirtual 0 78 qo_182 (by decide +kernel) rfl
theorem dX3_roster_5 : decode cX3_roster 5 = .ok (.iload_n 2, 1) := qd_p qo_28 (by decide +kernel)
theorem dX3_roster_6 : decode cX3_roster 6 = .ok (.invokestatic 160, 3) := qz_2 .invokestatic 0 160 qo_184 (by decide +kernel) rfl
theorem dX3_roster_9 : decode cX3_roster 9 = .ok (.invokestatic 85, 3) := qz_2 .invokestatic 0 85 qo_184 (by decide +kernel) rfl
theorem dX3_roster_12 : decode cX3_roster 12 = .ok (.istore_n 3, 1) := qd_p qo_62 (by decide +kernel)
theorem dX3_roster_13 : decode cX3_roster 13 = .ok (.iload_n 3, 1) := qd_p qo_29 (by decide +kernel)
theorem dX3_roster_14 : decode cX3_roster 14 = .ok (.ifCond .eq 9, 3) := qz_s2 (.ifCond .eq) 0 9 qo_153 (by decide +kernel) rfl
theorem dX3_roster_17 : decode cX3_roster 17 = .ok (.aload_n 0, 1) := qd_p qo_42 (by decide +kernel)
theorem dX3_roster_18 : decode cX3_roster 18 = .ok (.iload_n 3, 1) := qd_p qo_29 (by decide +kernel)
theorem dX3_roster_19 : decode cX3_roster 19 = .ok (.invokevirtual 61, 3) := qz_2 .invokevirtual 0 61 qo_182 (by decide +kernel) rfl
theorem dX3_roster_22 : decode cX3_roster 22 = .ok (.ireturn, 1) := qd_p qo_172 (by decide +kernel)
theorem dX3_roster_23 : decode cX3_roster 23 = .ok (.aload_n 0, 1) := qd_p qo_42 (by decide +kernel)
theorem dX3_roster_24 : decode cX3_roster 24 = .ok (.getfield 10, 3) := qz_2 .getfield 0 10 qo_180 (by decide +kernel) rfl
theorem dX3_roster_27 : decode cX3_roster 27 = .ok (.getfield 163, 3) := qz_2 .getfield 0 163 qo_180 (by decide +kernel) rfl
theorem dX3_roster_30 : decode cX3_roster 30 = .ok (.iload_n 1, 1) := qd_p qo_27 (by decide +kernel)
theorem dX3_roster_31 : decode cX3_roster 31 = .ok (.aaload, 1) := qd_p qo_50 (by decide +kernel)
theorem dX3_roster_32 : decode cX3_roster 32 = .ok (.iload_n 2, 1) := qd_p qo_28 (by decide +kernel)
theorem dX3_roster_33 : decode cX3_roster 33 = .ok (.iaload, 1) := qd_p qo_46 (by decide +kernel)
theorem dX3_roster_34 : decode cX3_roster 34 = .ok (.istore 4, 2) := qz_1 .istore 4 qo_54 (by decide +kernel)
theorem dX3_roster_36 : decode cX3_roster 36 = .ok (.iload 4, 2) := qz_1 .iload 4 qo_21 (by decide +kernel)
theorem dX3_roster_38 : decode cX3_roster 38 = .ok (.bipush 9, 2) := qz_s1 .bipush 9 qo_16 (by decide +kernel) rfl
theorem dX3_roster_40 : decode cX3_roster 40 = .ok (.if_icmp .ne 8, 3) := qz_s2 (.if_icmp .ne) 0 8 qo_160 (by decide +kernel) rfl
theorem dX3_roster_43 : decode cX3_roster 43 = .ok (.bipush (-9), 2) := qz_s1 .bipush 247 qo_16 (by decide +kernel) rfl
theorem dX3_roster_45 : decode cX3_roster 45 = .ok (.goto 5, 3) := qz_s2 .goto 0 5 qo_167 (by decide +kernel) rfl
theorem dX3_roster_48 : decode cX3_roster 48 = .ok (.iload 4, 2) := qz_1 .iload 4 qo_21 (by decide +kernel)
theorem dX3_roster_50 : decode cX3_roster 50 = .ok (.ireturn, 1) := qd_p qo_172 (by decide +kernel)
theorem dX3_wall_0 : decode cX3_wall 0 = .ok (.aload_n 0, 1) := qd_p qo_42 (by decide +kernel)
theorem dX3_wall_1 : decode cX3_wall 1 = .ok (.iload_n 1, 1) := qd_p qo_27 (by decide +kernel)
theorem dX3_wall_2 : decode cX3_wall 2 = .ok (.invokevirtual 120, 3) := qz_2 .invokevirtual 0 120 qo_182 (by decide +kernel) rfl
theorem dX3_wall_5 : decode cX3_wall 5 = .ok (.iload_n 2, 1) := qd_p qo_28 (by decide +kernel)
theorem dX3_wall_6 : decode cX3_wall 6 = .ok (.invokestatic 174, 3) := qz_2 .invokestatic 0 174 qo_184 (by decide +kernel) rfl
theorem dX3_wall_9 : decode cX3_wall 9 = .ok (.invokestatic 85, 3) := qz_2 .invokestatic 0 85 qo_184 (by decide +kernel) rfl
theorem dX3_wall_12 : decode cX3_wall 12 = .ok (.istore_n 3, 1) := qd_p qo_62 (by decide +kernel)
theorem dX3_wall_13 : decode cX3_wall 13 = .ok (.iload_n 3, 1) := qd_p qo_29 (by decide +kernel)
theorem dX3_wall_14 : decode cX3_wall 14 = .ok (.ifCond .eq 9, 3) := qz_s2 (.ifCond .eq) 0 9 qo_153 (by decide +kernel) rfl
theorem dX3_wall_17 : decode cX3_wall 17 = .ok (.aload_n 0, 1) := qd_p qo_42 (by decide +kernel)
theorem dX3_wall_18 : decode cX3_wall 18 = .ok (.iload_n 3, 1) := qd_p qo_29 (by decide +kernel)
theorem dX3_wall_19 : decode cX3_wall 19 = .ok (.invokevirtual 61, 3) := qz_2 .invokevirtual 0 61 qo_182 (by decide +kernel) rfl
theorem dX3_wall_22 : decode cX3_wall 22 = .ok (.ireturn, 1) := qd_p qo_172 (by decide +kernel)
theorem dX3_wall_23 : decode cX3_wall 23 = .ok (.aload_n 0, 1) := qd_p qo_42 (by decide +kernel)
theorem dX3_wall_24 : decode cX3_wall 24 = .ok (.getfield 29, 3) := qz_2 .getfield 0 29 qo_180 (by decide +kernel) rfl
theorem dX3_wall_27 : decode cX3_wall 27 = .ok (.iconst 1, 1) := qd_p qo_4 (by decide +kernel)
theorem dX3_wall_28 : decode cX3_wall 28 = .ok (.iload_n 1, 1) := qd_p qo_27 (by decide +kernel)
theorem dX3_wall_29 : decode cX3_wall 29 = .ok (.aload_n 0, 1) := qd_p qo_42 (by decide +kernel)
theorem dX3_wall_30 : decode cX3_wall 30 = .ok (.getfield 10, 3) := qz_2 .getfield 0 10 qo_180 (by decide +kernel) rfl
theorem dX3_wall_33 : decode cX3_wall 33 = .ok (.getfield 126, 3) := qz_2 .getfield 0 126 qo_180 (by decide +kernel) rfl
theorem dX3_wall_36 : decode cX3_wall 36 = .ok (.iload_n 1, 1) := qd_p qo_27 (by decide +kernel)
theorem dX3_wall_37 : decode cX3_wall 37 = .ok (.iaload, 1) := qd_p qo_46 (by decide +kernel)
theorem dX3_wall_38 : decode cX3_wall 38 = .ok (.invokevirtual 177, 3) := qz_2 .invokevirtual 0 177 qo_182 (by decide +kernel) rfl
theorem dX3_wall_41 : decode cX3_wall 41 = .ok (.aload_n 0, 1) := qd_p qo_42 (by decide +kernel)
theorem dX3_wall_42 : decode cX3_wall 42 = .ok (.getfield 10, 3) := qz_2 .getfield 0 10 qo_180 (by decide +kernel) rfl
theorem dX3_wall_45 : decode cX3_wall 45 = .ok (.iload_n 1, 1) := qd_p qo_27 (by decide +kernel)
theorem dX3_wall_46 : decode cX3_wall 46 = .ok (.iload_n 2, 1) := qd_p qo_28 (by decide +kernel)
theorem dX3_wall_47 : decode cX3_wall 47 = .ok (.invokevirtual 181, 3) := qz_2 .invokevirtual 0 181 qo_182 (by decide +kernel) rfl
theorem dX3_wall_50 : decode cX3_wall 50 = .ok (.pop, 1) := qd_p qo_87 (by decide +kernel)
theorem dX3_wall_51 : decode cX3_wall 51 = .ok (.aload_n 0, 1) := qd_p qo_42 (by decide +kernel)
theorem dX3_wall_52 : decode cX3_wall 52 = .ok (.getfield 10, 3) := qz_2 .getfield 0 10 qo_180 (by decide +kernel) rfl
theorem dX3_wall_55 : decode cX3_wall 55 = .ok (.iload_n 1, 1) := qd_p qo_27 (by decide +kernel)
theorem dX3_wall_56 : decode cX3_wall 56 = .ok (.iload_n 2, 1) := qd_p qo_28 (by decide +kernel)
theorem dX3_wall_57 : decode cX3_wall 57 = .ok (.invokevirtual 184, 3) := qz_2 .invokevirtual 0 184 qo_182 (by decide +kernel) rfl
theorem dX3_wall_60 : decode cX3_wall 60 = .ok (.ifCond .eq 7, 3) := qz_s2 (.ifCond .eq) 0 7 qo_153 (by decide +kernel) rfl
theorem dX3_wall_63 : decode cX3_wall 63 = .ok (.iconst 1, 1) := qd_p qo_4 (by decide +kernel)
theorem dX3_wall_64 : decode cX3_wall 64 = .ok (.goto 4, 3) := qz_s2 .goto 0 4 qo_167 (by decide +kernel) rfl
theorem dX3_wall_67 : decode cX3_wall 67 = .ok (.iconst 0, 1) := qd_p qo_3 (by decide +kernel)
theorem dX3_wall_68 : decode cX3_wall 68 = .ok (.ireturn, 1) := qd_p qo_172 (by decide +kernel)
theorem dX3_worth_0 : decode cX3_worth 0 = .ok (.iload_n 1, 1) := qd_p qo_27 (by decide +kernel)
theorem dX3_worth_1 : decode cX3_worth 1 = .ok (.invokestatic 174, 3) := qz_2 .invokestatic 0 174 qo_184 (by decide +kernel) rfl
theorem dX3_worth_4 : decode cX3_worth 4 = .ok (.iload_n 2, 1) := qd_p qo_28 (by decide +kernel)
theorem dX3_worth_5 : decode cX3_worth 5 = .ok (.iconst 0, 1) := qd_p qo_3 (by decide +kernel)
theorem dX3_worth_6 : decode cX3_worth 6 = .ok (.bipush 9, 2) := qz_s1 .bipush 9 qo_16 (by decide +kernel) rfl
theorem dX3_worth_8 : decode cX3_worth 8 = .ok (.invokestatic 81, 3) := qz_2 .invokestatic 0 81 qo_184 (by decide +kernel) rfl
theorem dX3_worth_11 : decode cX3_worth 11 = .ok (.invokestatic 85, 3) := qz_2 .invokestatic 0 85 qo_184 (by decide +kernel) rfl
theorem dX3_worth_14 : decode cX3_worth 14 = .ok (.istore_n 3, 1) := qd_p qo_62 (by decide +kernel)
theorem dX3_worth_15 : decode cX3_worth 15 = .ok (.iload_n 3, 1) := qd_p qo_29 (by decide +kernel)
theorem dX3_worth_16 : decode cX3_worth 16 = .ok (.ifCond .eq 9, 3) := qz_s2 (.ifCond .eq) 0 9 qo_153 (by decide +kernel) rfl
theorem dX3_worth_19 : decode cX3_worth 19 = .ok (.aload_n 0, 1) := qd_p qo_42 (by decide +kernel)
theorem dX3_worth_20 : decode cX3_worth 20 = .ok (.iload_n 3, 1) := qd_p qo_29 (by decide +kernel)
theorem dX3_worth_21 : decode cX3_worth 21 = .ok (.invokevirtual 61, 3) := qz_2 .invokevirtual 0 61 qo_182 (by decide +kernel) rfl
theorem dX3_worth_24 : decode cX3_worth 24 = .ok (.ireturn, 1) := qd_p qo_172 (by decide +kernel)
theorem dX3_worth_25 : decode cX3_worth 25 = .ok (.aload_n 0, 1) := qd_p qo_42 (by decide +kernel)
theorem dX3_worth_26 : decode cX3_worth 26 = .ok (.getfield 10, 3) := qz_2 .getfield 0 10 qo_180 (by decide +kernel) rfl
theorem dX3_worth_29 : decode cX3_worth 29 = .ok (.getfield 187, 3) := qz_2 .getfield 0 187 qo_180 (by decide +kernel) rfl
theorem dX3_worth_32 : decode cX3_worth 32 = .ok (.iload_n 1, 1) := qd_p qo_27 (by decide +kernel)
theorem dX3_worth_33 : decode cX3_worth 33 = .ok (.iaload, 1) := qd_p qo_46 (by decide +kernel)
theorem dX3_worth_34 : decode cX3_worth 34 = .ok (.istore 4, 2) := qz_1 .istore 4 qo_54 (by decide +kernel)
theorem dX3_worth_36 : decode cX3_worth 36 = .ok (.aload_n 0, 1) := qd_p qo_42 (by decide +kernel)
theorem dX3_worth_37 : decode cX3_worth 37 = .ok (.getfield 29, 3) := qz_2 .getfield 0 29 qo_180 (by decide +kernel) rfl
theorem dX3_worth_40 : decode cX3_worth 40 = .ok (.iconst 2, 1) := qd_p qo_5 (by decide +kernel)
theorem dX3_worth_41 : decode cX3_worth 41 = .ok (.iload_n 1, 1) := qd_p qo_27 (by decide +kernel)
theorem dX3_worth_42 : decode cX3_worth 42 = .ok (.iload 4, 2) := qz_1 .iload 4 qo_21 (by decide +kernel)
theorem dX3_worth_44 : decode cX3_worth 44 = .ok (.invokevirtual 177, 3) := qz_2 .invokevirtual 0 177 qo_182 (by decide +kernel) rfl
theorem dX3_worth_47 : decode cX3_worth 47 = .ok (.aload_n 0, 1) := qd_p qo_42 (by decide +kernel)
theorem dX3_worth_48 : decode cX3_worth 48 = .ok (.getfield 10, 3) := qz_2 .getfield 0 10 qo_180 (by decide +kernel) rfl
theorem dX3_worth_51 : decode cX3_worth 51 = .ok (.iload_n 1, 1) := qd_p qo_27 (by decide +kernel)
theorem dX3_worth_52 : decode cX3_worth 52 = .ok (.iload_n 2, 1) := qd_p qo_28 (by decide +kernel)
theorem dX3_worth_53 : decode cX3_worth 53 = .ok (.invokevirtual 190, 3) := qz_2 .invokevirtual 0 190 qo_182 (by decide +kernel) rfl
theorem dX3_worth_56 : decode cX3_worth 56 = .ok (.pop, 1) := qd_p qo_87 (by decide +kernel)
theorem dX3_worth_57 : decode cX3_worth 57 = .ok (.iload 4, 2) := qz_1 .iload 4 qo_21 (by decide +kernel)
theorem dX3_worth_59 : decode cX3_worth 59 = .ok (.ireturn, 1) := qd_p qo_172 (by decide +kernel)
theorem dX3_law_0 : decode cX3_law 0 = .ok (.iload_n 1, 1) := qd_p qo_27 (by decide +kernel)
theorem dX3_law_1 : decode cX3_law 1 = .ok (.iconst 3, 1) := qd_p qo_6 (by decide +kernel)
theorem dX3_law_2 : decode cX3_law 2 = .ok (.invokestatic 123, 3) := qz_2 .invokestatic 0 123 qo_184 (by decide +kernel) rfl
theorem dX3_law_5 : decode cX3_law 5 = .ok (.istore_n 2, 1) := qd_p qo_61 (by decide +kernel)
theorem dX3_law_6 : decode cX3_law 6 = .ok (.iload_n 2, 1) := qd_p qo_28 (by decide +kernel)
theorem dX3_law_7 : decode cX3_law 7 = .ok (.ifCond .eq 9, 3) := qz_s2 (.ifCond .eq) 0 9 qo_153 (by decide +kernel) rfl
theorem dX3_law_10 : decode cX3_law 10 = .ok (.aload_n 0, 1) := qd_p qo_42 (by decide +kernel)
theorem dX3_law_11 : decode cX3_law 11 = .ok (.iload_n 2, 1) := qd_p qo_28 (by decide +kernel)
theorem dX3_law_12 : decode cX3_law 12 = .ok (.invokevirtual 61, 3) := qz_2 .invokevirtual 0 61 qo_182 (by decide +kernel) rfl
theorem dX3_law_15 : decode cX3_law 15 = .ok (.ireturn, 1) := qd_p qo_172 (by decide +kernel)
theorem dX3_law_16 : decode cX3_law 16 = .ok (.aload_n 0, 1) := qd_p qo_42 (by decide +kernel)
theorem dX3_law_17 : decode cX3_law 17 = .ok (.getfield 10, 3) := qz_2 .getfield 0 10 qo_180 (by decide +kernel) rfl
theorem dX3_law_20 : decode cX3_law 20 = .ok (.getfield 193, 3) := qz_2 .getfield 0 193 qo_180 (by decide +kernel) rfl
theorem dX3_law_23 : decode cX3_law 23 = .ok (.istore_n 3, 1) := qd_p qo_62 (by decide +kernel)
theorem dX3_law_24 : decode cX3_law 24 = .ok (.aload_n 0, 1) := qd_p qo_42 (by decide +kernel)
theorem dX3_law_25 : decode cX3_law 25 = .ok (.getfield 29, 3) := qz_2 .getfield 0 29 qo_180 (by decide +kernel) rfl
theorem dX3_law_28 : decode cX3_law 28 = .ok (.iconst 3, 1) := qd_p qo_6 (by decide +kernel)
theorem dX3_law_29 : decode cX3_law 29 = .ok (.iconst 0, 1) := qd_p qo_3 (by decide +kernel)
theorem dX3_law_30 : decode cX3_law 30 = .ok (.iload_n 3, 1) := qd_p qo_29 (by decide +kernel)
theorem dX3_law_31 : decode cX3_law 31 = .ok (.invokevirtual 177, 3) := qz_2 .invokevirtual 0 177 qo_182 (by decide +kernel) rfl
theorem dX3_law_34 : decode cX3_law 34 = .ok (.aload_n 0, 1) := qd_p qo_42 (by decide +kernel)
theorem dX3_law_35 : decode cX3_law 35 = .ok (.getfield 10, 3) := qz_2 .getfield 0 10 qo_180 (by decide +kernel) rfl
theorem dX3_law_38 : decode cX3_law 38 = .ok (.iload_n 1, 1) := qd_p qo_27 (by decide +kernel)
theorem dX3_law_39 : decode cX3_law 39 = .ok (.invokevirtual 196, 3) := qz_2 .invokevirtual 0 196 qo_182 (by decide +kernel) rfl
theorem dX3_law_42 : decode cX3_law 42 = .ok (.pop, 1) := qd_p qo_87 (by decide +kernel)
theorem dX3_law_43 : decode cX3_law 43 = .ok (.iload_n 3, 1) := qd_p qo_29 (by decide +kernel)
theorem dX3_law_44 : decode cX3_law 44 = .ok (.ireturn, 1) := qd_p qo_172 (by decide +kernel)
section
variable {p : Program} {l : Launch} {e : Env} {s : State} {m : MethodId} {args : Array Value} {below : List Frame} {meth : Method} {c : Code} {D : va_G} {tI tII : ClassId} {B : Nat}
set_option maxHeartbeats 4000000 in
set_option maxRecDepth 100000 in
theorem w_X2_keepRoster_22 (C : wt_C p s m args meth c RX2 cX2_keepRoster 5 none D tI tII) {F : Nat} {a : Nat} {x3 : Int32} {σ' : Mem} (ha : wt_isA a 24) : ∀ (N : Nat) (x4 : Int32) (σ : Mem) (H : Heap) (locs : List Loc) (ls : Array Slot), lp_X2_keepRoster_22 F a x3 N x4 σ = some ((), σ') → wt_St D tI tII B σ s H locs → lv_has ls 5 [(0, .ref (B + 70)), (2, .ref (B + a)), (3, .int x3), (4, .int x4)] → W p l e rm_X2_keepRoster s m args below meth c H locs 0 0 (MQ below (wt_Qv D tI tII B σ') args s 0 0 (fun q => B ≤ q)) (F0 m 22 ls []) := by
  obtain ⟨hx, hb, hts, hown, hml, hr, hlk, hK⟩ := id C
  intro N
  induction N with
  | zero => intro x4 σ H locs ls hf; exact wt_none (show (none : Option (Unit × Mem)) = some ((), σ') from hf)
  | succ N ih =>
    intro x4 σ H locs ls hf hM hl
    replace hf := Eq.trans lp_X2_keepRoster_22_s.symm hf
    refine lv_iload hx hb dX2_keepRoster_22 (lv_at hl 3 rfl) ?_
    refine lv_bipush (v := 24) hx hb dX2_keepRoster_24 (by decide) ?_
    refine wq_icmp_ge (tgt := 55) hx hb dX2_keepRoster_26 (by decide) hf (fun hf => ?_) (fun hf => ?_)
    · exact wt_vret hx hb hr hlk hK hM hf dX2_keepRoster_55
    refine lv_iload hx hb dX2_keepRoster_29 (lv_at hl 3 rfl) ?_
    refine lv_aload_n hx hb dX2_keepRoster_31 rfl (lv_at hl 1 rfl) ?_
    refine wt_alen (v := 24) hx hb hK hM ha rfl dX2_keepRoster_32 ?_
    refine wq_icmp_ge (tgt := 55) hx hb dX2_keepRoster_33 (by decide) hf (fun hf => ?_) (fun hf => ?_)
    · exact wt_vret hx hb hr hlk hK hM hf dX2_keepRoster_55
    refine lv_aload_n hx hb dX2_keepRoster_36 rfl (lv_at hl 0 rfl) ?_
    refine gf_X2_oldRosters  hx hb hts hown hK hM tw_82 dX2_keepRoster_37 ?_
    refine lv_iload_n hx hb dX2_keepRoster_40 rfl (lv_at hl 2 rfl) ?_
    obtain ⟨i1, hf⟩ := wt_chk_of hf
    refine wt_ald hx hb hK hM wt_aa74 i1 dX2_keepRoster_41 ?_
    refine lv_iload hx hb dX2_keepRoster_42 (lv_at hl 3 rfl) ?_
    refine lv_aload_n hx hb dX2_keepRoster_44 rfl (lv_at hl 1 rfl) ?_
    refine lv_iload hx hb dX2_keepRoster_45 (lv_at hl 3 rfl) ?_
    obtain ⟨i2, hf⟩ := wt_chk_of hf
    refine wt_ild hx hb hK hM ha i2 dX2_keepRoster_47 ?_
    refine wt_ist hx hb hK hM (wt_r74 i1) i2 dX2_keepRoster_48 hf (fun s3 H locs hf hM => ?_)
    refine lv_iinc (v := (x4 + (1 : Int32))) (lv' := [(4, .int (x4 + (1 : Int32))), (0, .ref (B + 70)), (2, .ref (B + a)), (3, .int x3)]) hx hb dX2_keepRoster_49 hl (k := 3) rfl rfl (by decide) rfl (fun ls hl => ?_)
    refine lv_goto (tgt := 22) hx hb dX2_keepRoster_52 (by decide) ?_
    exact ih _ _ _ _ _ hf hM (lv_sub hl [1, 2, 3, 0] rfl)
set_option maxHeartbeats 4000000 in
set_option maxRecDepth 100000 in
theorem w_X2_keepRoster_0 (C : wt_C p s m args meth c RX2 cX2_keepRoster 5 none D tI tII) {F : Nat} {x1 : Int32} {a : Nat} {σ : Mem} {σ' : Mem} {H : Heap} {locs : List Loc} {ls : Array Slot} (ha : wt_isA a 24) (hf : f_X2_keepRoster F x1 a σ = some ((), σ')) (hM : wt_St D tI tII B σ s H locs) (hl : lv_has ls 5 [(0, .ref (B + 70)), (1, .int x1), (2, .ref (B + a))]) : W p l e rm_X2_keepRoster s m args below meth c H locs 0 0 (MQ below (wt_Qv D tI tII B σ') args s 0 0 (fun q => B ≤ q)) (F0 m 0 ls []) := by
  obtain ⟨hx, hb, hts, hown, hml, hr, hlk, hK⟩ := id C
  replace hf := Eq.trans f_X2_keepRoster_e.symm hf
  refine lv_aload_n hx hb dX2_keepRoster_0 rfl (lv_at hl 0 rfl) ?_
  refine wt_callVi (As := []) (rest := []) hx hb hml hts hown hK hM wt_rc_X2 cw_X2_33 hd_X2_nextSlot rfl ⟨qz_b rfl, qz_b rfl⟩ ⟨rfl, rfl⟩ hl.1 rfl (qz_b rfl) dX2_keepRoster_1 hf (fun _ _ h9 => c_X2_nextSlot h9) (fun r4 s5 H locs hf hM => ?_)
  refine lv_istore_n (lv' := [(3, .int r4), (0, .ref (B + 70)), (1, .int x1), (2, .ref (B + a))]) hx hb dX2_keepRoster_4 rfl hl (by decide) rfl (fun ls hl => ?_)
  refine lv_aload_n hx hb dX2_keepRoster_5 rfl (lv_at hl 1 rfl) ?_
  refine gf_X2_whats  hx hb hts hown hK hM tw_79 dX2_keepRoster_6 ?_
  refine lv_iload_n hx hb dX2_keepRoster_9 rfl (lv_at hl 0 rfl) ?_
  refine lv_iconst (v := 0) hx hb dX2_keepRoster_10 (by decide) ?_
  obtain ⟨i6, hf⟩ := wt_chk_of hf
  refine wt_ist hx hb hK hM wt_a71 i6 dX2_keepRoster_11 hf (fun s7 H locs hf hM => ?_)
  refine lv_aload_n hx hb dX2_keepRoster_12 rfl (lv_at hl 1 rfl) ?_
  refine gf_X2_places  hx hb hts hown hK hM tw_80 dX2_keepRoster_13 ?_
  refine lv_iload_n hx hb dX2_keepRoster_16 rfl (lv_at hl 0 rfl) ?_
  refine lv_iload_n hx hb dX2_keepRoster_17 rfl (lv_at hl 2 rfl) ?_
  refine wt_ist hx hb hK hM wt_a72 i6 dX2_keepRoster_18 hf (fun s8 H locs hf hM => ?_)
  refine lv_iconst (v := 0) hx hb dX2_keepRoster_19 (by decide) ?_
  refine lv_istore (lv' := [(4, .int (0 : Int32)), (3, .int r4), (0, .ref (B + 70)), (1, .int x1), (2, .ref (B + a))]) hx hb dX2_keepRoster_20 hl (by decide) rfl (fun ls hl => ?_)
  exact w_X2_keepRoster_22 C ha _ _ _ _ _ _ hf hM (lv_sub hl [2, 4, 1, 0] rfl)
end
set_option maxHeartbeats 4000000 in
set_option maxRecDepth 100000 in
theorem c_X2_keepRoster {l : Launch} {D : va_G} {tI tII : ClassId} {B F : Nat} {x1 : Int32} {a : Nat} {σ σ' : Mem} (ha : wt_isA a 24) (hf : f_X2_keepRoster F x1 a σ = some ((), σ')) : wt_Mv l yX2_keepRoster cX2_keepRoster 5 none rm_X2_keepRoster [.ref (B + 70), .int x1, .ref (B + a)] D tI tII B σ σ' := by
  refine Met.ofW (cc := cX2_keepRoster) (maxL := 5) (ret := none) (by decide) rfl ?_
  intro p e s m args below meth c s₁ B9 hml hv
  obtain ⟨rfl, hP, hK⟩ := hv
  have hl := lv_entry ([.ref (B + 70), .int x1, .ref (B + a)]) (n := 5) (qz_b rfl)
  rw [lg_entry_eq]
  generalize (lg_sl ([.ref (B + 70), .int x1, .ref (B + a)]) ++ List.replicate (5 - (lg_sl ([.ref (B + 70), .int x1, .ref (B + a)])).length) Slot.unset).toArray = ls at hl ⊢
  exact w_X2_keepRoster_0 (wt_C_of B9 hml hK) ha hf ⟨hP, va_S.rf⟩ hl
section
variable {p : Program} {l : Launch} {e : Env} {s : State} {m : MethodId} {args : Array Value} {below : List Frame} {meth : Method} {c : Code} {D : va_G} {tI tII : ClassId} {B : Nat}
set_option maxHeartbeats 4000000 in
set_option maxRecDepth 100000 in
theorem w_X2_undoLatest_75 (C : wt_C p s m args meth c RX2 cX2_undoLatest 5 none D tI tII) {F : Nat} {g : Nat} {x2 : Int32} {x3 : Int32} {σ' : Mem} (hg : wt_isH g) : ∀ (N : Nat) (x4 : Int32) (σ : Mem) (H : Heap) (locs : List Loc) (ls : Array Slot), lp_X2_undoLatest_75 F g x2 x3 N x4 σ = some ((), σ') → wt_St D tI tII B σ s H locs → lv_has ls 5 [(0, .ref (B + 70)), (1, .ref (B + g)), (2, .int x2), (3, .int x3), (4, .int x4)] → W p l e rm_X2_undoLatest s m args below meth c H locs 0 0 (MQ below (wt_Qv D tI tII B σ') args s 0 0 (fun q => B ≤ q)) (F0 m 75 ls []) := by
  obtain ⟨hx, hb, hts, hown, hml, hr, hlk, hK⟩ := id C
  intro N
  induction N with
  | zero => intro x4 σ H locs ls hf; exact wt_none (show (none : Option (Unit × Mem)) = some ((), σ') from hf)
  | succ N ih =>
    intro x4 σ H locs ls hf hM hl
    replace hf := Eq.trans lp_X2_undoLatest_75_s.symm hf
    refine lv_iload hx hb dX2_undoLatest_75 (lv_at hl 4 rfl) ?_
    refine lv_bipush (v := 24) hx hb dX2_undoLatest_77 (by decide) ?_
    refine wq_icmp_ge (tgt := 107) hx hb dX2_undoLatest_79 (by decide) hf (fun hf => ?_) (fun hf => ?_)
    · refine lv_goto (tgt := 159) hx hb dX2_undoLatest_107 (by decide) ?_
      exact wt_vret hx hb hr hlk hK hM hf dX2_undoLatest_159
    refine lv_aload_n hx hb dX2_undoLatest_82 rfl (lv_at hl 1 rfl) ?_
    refine lv_iload_n hx hb dX2_undoLatest_83 rfl (lv_at hl 3 rfl) ?_
    refine lv_iload hx hb dX2_undoLatest_84 (lv_at hl 4 rfl) ?_
    refine lv_iload hx hb dX2_undoLatest_86 (lv_at hl 4 rfl) ?_
    refine lv_aload_n hx hb dX2_undoLatest_88 rfl (lv_at hl 0 rfl) ?_
    refine gf_X2_oldRosters  hx hb hts hown hK hM tw_82 dX2_undoLatest_89 ?_
    refine lv_iload_n hx hb dX2_undoLatest_92 rfl (lv_at hl 2 rfl) ?_
    obtain ⟨i1, hf⟩ := wt_chk_of hf
    refine wt_ald hx hb hK hM wt_aa74 i1 dX2_undoLatest_93 ?_
    refine lv_iload hx hb dX2_undoLatest_94 (lv_at hl 4 rfl) ?_
    obtain ⟨i2, hf⟩ := wt_chk_of hf
    refine wt_ild hx hb hK hM (wt_r74 i1) i2 dX2_undoLatest_96 ?_
    refine wt_callVi (As := [.int x3, .int x4, .int x4, .int (σ (75 + Int32.toNatClampNeg x2) (Int32.toNatClampNeg x4))]) (rest := []) hx hb hml hts hown hK hM (wt_rc_X0 hg) cw_X2_37 hd_X0_post rfl ⟨qz_b rfl, qz_b rfl⟩ ⟨rfl, rfl⟩ hl.1 rfl (qz_b rfl) dX2_undoLatest_97 hf (fun _ _ h9 => c_X0_post hg h9) (fun r3 s4 H locs hf hM => ?_)
    refine lv_pop hx hb dX2_undoLatest_100 rfl ?_
    refine lv_iinc (v := (x4 + (1 : Int32))) (lv' := [(4, .int (x4 + (1 : Int32))), (0, .ref (B + 70)), (1, .ref (B + g)), (2, .int x2), (3, .int x3)]) hx hb dX2_undoLatest_101 hl (k := 4) rfl rfl (by decide) rfl (fun ls hl => ?_)
    refine lv_goto (tgt := 75) hx hb dX2_undoLatest_104 (by decide) ?_
    exact ih _ _ _ _ _ hf hM (lv_sub hl [1, 2, 3, 4, 0] rfl)
set_option maxHeartbeats 4000000 in
set_option maxRecDepth 100000 in
theorem w_X2_undoLatest_0 (C : wt_C p s m args meth c RX2 cX2_undoLatest 5 none D tI tII) {F : Nat} {g : Nat} {σ : Mem} {σ' : Mem} {H : Heap} {locs : List Loc} {ls : Array Slot} (hg : wt_isH g) (hf : f_X2_undoLatest F g σ = some ((), σ')) (hM : wt_St D tI tII B σ s H locs) (hl : lv_has ls 5 [(0, .ref (B + 70)), (1, .ref (B + g))]) : W p l e rm_X2_undoLatest s m args below meth c H locs 0 0 (MQ below (wt_Qv D tI tII B σ') args s 0 0 (fun q => B ≤ q)) (F0 m 0 ls []) := by
  obtain ⟨hx, hb, hts, hown, hml, hr, hlk, hK⟩ := id C
  replace hf := Eq.trans f_X2_undoLatest_e.symm hf
  refine lv_aload_n hx hb dX2_undoLatest_0 rfl (lv_at hl 0 rfl) ?_
  refine gf_X2_size  hx hb hts hown hK hM tw_84 dX2_undoLatest_1 ?_
  refine wq_if_gt (tgt := 8) hx hb dX2_undoLatest_4 (by decide) hf (fun hf => ?_) (fun hf => ?_)
  · refine lv_aload_n hx hb dX2_undoLatest_8 rfl (lv_at hl 0 rfl) ?_
    refine lv_dup hx hb dX2_undoLatest_9 rfl ?_
    refine gf_X2_size  hx hb hts hown hK hM tw_84 dX2_undoLatest_10 ?_
    refine lv_iconst (v := 1) hx hb dX2_undoLatest_13 (by decide) ?_
    refine lv_isub hx hb dX2_undoLatest_14 ?_
    refine pf_X2_size  hx hb hts hown hK hM tw_84 dX2_undoLatest_15 hf (fun s5 H locs hf hM => ?_)
    refine lv_aload_n hx hb dX2_undoLatest_18 rfl (lv_at hl 0 rfl) ?_
    refine gf_X2_first  hx hb hts hown hK hM tw_83 dX2_undoLatest_19 ?_
    refine lv_aload_n hx hb dX2_undoLatest_22 rfl (lv_at hl 0 rfl) ?_
    refine gf_X2_size  hx hb hts hown hK hM tw_84 dX2_undoLatest_23 ?_
    refine lv_iadd hx hb dX2_undoLatest_26 ?_
    refine lv_bipush (v := 8) hx hb dX2_undoLatest_27 (by decide) ?_
    refine lv_irem hx hb dX2_undoLatest_29 (by decide) ?_
    refine wt_leti hf (fun z6 hf => ?_)
    refine lv_istore_n (lv' := [(2, .int z6), (0, .ref (B + 70)), (1, .ref (B + g))]) hx hb dX2_undoLatest_30 rfl hl (by decide) rfl (fun ls hl => ?_)
    refine lv_aload_n hx hb dX2_undoLatest_31 rfl (lv_at hl 1 rfl) ?_
    refine gf_X2_places  hx hb hts hown hK hM tw_80 dX2_undoLatest_32 ?_
    refine lv_iload_n hx hb dX2_undoLatest_35 rfl (lv_at hl 0 rfl) ?_
    obtain ⟨i7, hf⟩ := wt_chk_of hf
    refine wt_ild hx hb hK hM wt_a72 i7 dX2_undoLatest_36 ?_
    refine wt_leti hf (fun z8 hf => ?_)
    refine lv_istore_n (lv' := [(3, .int z8), (2, .int z6), (0, .ref (B + 70)), (1, .ref (B + g))]) hx hb dX2_undoLatest_37 rfl hl (by decide) rfl (fun ls hl => ?_)
    refine lv_aload_n hx hb dX2_undoLatest_38 rfl (lv_at hl 2 rfl) ?_
    refine gf_X2_whats  hx hb hts hown hK hM tw_79 dX2_undoLatest_39 ?_
    refine lv_iload_n hx hb dX2_undoLatest_42 rfl (lv_at hl 1 rfl) ?_
    refine wt_ild hx hb hK hM wt_a71 i7 dX2_undoLatest_43 ?_
    refine wq_key hf (fun e9 hf => ?_) (fun n9_0 hf => ?_)
    · refine lv_tableIn (off := 28) (tgt := 72) hx hb dX2_undoLatest_44 (by rw [e9]; decide) (by rw [e9]; decide) (by rw [e9]; rfl) (by decide) ?_
      refine lv_iconst (v := 0) hx hb dX2_undoLatest_72 (by decide) ?_
      refine lv_istore (lv' := [(4, .int (0 : Int32)), (3, .int z8), (2, .int z6), (0, .ref (B + 70)), (1, .ref (B + g))]) hx hb dX2_undoLatest_73 hl (by decide) rfl (fun ls hl => ?_)
      exact w_X2_undoLatest_75 C hg _ _ _ _ _ _ hf hM (lv_sub hl [3, 4, 2, 1, 0] rfl)
    refine wq_key hf (fun e9 hf => ?_) (fun n9_1 hf => ?_)
    · refine lv_tableIn (off := 66) (tgt := 110) hx hb dX2_undoLatest_44 (by rw [e9]; decide) (by rw [e9]; decide) (by rw [e9]; rfl) (by decide) ?_
      refine lv_aload_n hx hb dX2_undoLatest_110 rfl (lv_at hl 3 rfl) ?_
      refine lv_iload_n hx hb dX2_undoLatest_111 rfl (lv_at hl 0 rfl) ?_
      refine wt_callVi (As := [.int z8]) (rest := []) hx hb hml hts hown hK hM (wt_rc_X0 hg) cw_X2_43 hd_X0_isPane rfl ⟨qz_b rfl, qz_b rfl⟩ ⟨rfl, rfl⟩ hl.1 rfl (qz_b rfl) dX2_undoLatest_112 hf (fun _ _ h9 => c_X0_isPane hg h9) (fun r10 s11 H locs hf hM => ?_)
      refine wq_if_eq (tgt := 159) hx hb dX2_undoLatest_115 (by decide) hf (fun hf => ?_) (fun hf => ?_)
      · exact wt_vret hx hb hr hlk hK hM hf dX2_undoLatest_159
      refine lv_aload_n hx hb dX2_undoLatest_118 rfl (lv_at hl 3 rfl) ?_
      refine gf_X0_paneViews hg hx hb hts hown hK hM tw_28 dX2_undoLatest_119 ?_
      refine lv_iload_n hx hb dX2_undoLatest_122 rfl (lv_at hl 0 rfl) ?_
      refine lv_aload_n hx hb dX2_undoLatest_123 rfl (lv_at hl 2 rfl) ?_
      refine gf_X2_olds  hx hb hts hown hK hM tw_81 dX2_undoLatest_124 ?_
      refine lv_iload_n hx hb dX2_undoLatest_127 rfl (lv_at hl 1 rfl) ?_
      refine wt_ild hx hb hK hM wt_a73 i7 dX2_undoLatest_128 ?_
      obtain ⟨i12, hf⟩ := wt_chk_of hf
      refine wt_ist hx hb hK hM (wt_aH_1 hg) i12 dX2_undoLatest_129 hf (fun s13 H locs hf hM => ?_)
      refine lv_goto (tgt := 159) hx hb dX2_undoLatest_130 (by decide) ?_
      exact wt_vret hx hb hr hlk hK hM hf dX2_undoLatest_159
    refine wq_key hf (fun e9 hf => ?_) (fun n9_2 hf => ?_)
    · refine lv_tableIn (off := 89) (tgt := 133) hx hb dX2_undoLatest_44 (by rw [e9]; decide) (by rw [e9]; decide) (by rw [e9]; rfl) (by decide) ?_
      refine lv_aload_n hx hb dX2_undoLatest_133 rfl (lv_at hl 3 rfl) ?_
      refine lv_iload_n hx hb dX2_undoLatest_134 rfl (lv_at hl 0 rfl) ?_
      refine lv_aload_n hx hb dX2_undoLatest_135 rfl (lv_at hl 2 rfl) ?_
      refine gf_X2_olds  hx hb hts hown hK hM tw_81 dX2_undoLatest_136 ?_
      refine lv_iload_n hx hb dX2_undoLatest_139 rfl (lv_at hl 1 rfl) ?_
      refine wt_ild hx hb hK hM wt_a73 i7 dX2_undoLatest_140 ?_
      refine wt_callVi (As := [.int z8, .int (s5 73 (Int32.toNatClampNeg z6))]) (rest := []) hx hb hml hts hown hK hM (wt_rc_X0 hg) cw_X2_50 hd_X0_price rfl ⟨qz_b rfl, qz_b rfl⟩ ⟨rfl, rfl⟩ hl.1 rfl (qz_b rfl) dX2_undoLatest_141 hf (fun _ _ h9 => c_X0_price hg h9) (fun r14 s15 H locs hf hM => ?_)
      refine lv_pop hx hb dX2_undoLatest_144 rfl ?_
      refine lv_goto (tgt := 159) hx hb dX2_undoLatest_145 (by decide) ?_
      exact wt_vret hx hb hr hlk hK hM hf dX2_undoLatest_159
    refine wq_tableD (ks := [(0 : Int32), (1 : Int32), (2 : Int32)]) (tgt := 148) hx hb dX2_undoLatest_44 (List.forall_mem_cons.mpr ⟨n9_0, List.forall_mem_cons.mpr ⟨n9_1, List.forall_mem_cons.mpr ⟨n9_2, fun _ h9 => absurd h9 List.not_mem_nil⟩⟩⟩) (by decide) (by decide) ?_
    refine lv_aload_n hx hb dX2_undoLatest_148 rfl (lv_at hl 3 rfl) ?_
    refine lv_aload_n hx hb dX2_undoLatest_149 rfl (lv_at hl 2 rfl) ?_
    refine gf_X2_olds  hx hb hts hown hK hM tw_81 dX2_undoLatest_150 ?_
    refine lv_iload_n hx hb dX2_undoLatest_153 rfl (lv_at hl 1 rfl) ?_
    refine wt_ild hx hb hK hM wt_a73 i7 dX2_undoLatest_154 ?_
    refine wt_callVi (As := [.int (s5 73 (Int32.toNatClampNeg z6))]) (rest := []) hx hb hml hts hown hK hM (wt_rc_X0 hg) cw_X2_54 hd_X0_rule rfl ⟨qz_b rfl, qz_b rfl⟩ ⟨rfl, rfl⟩ hl.1 rfl (qz_b rfl) dX2_undoLatest_155 hf (fun _ _ h9 => c_X0_rule hg h9) (fun r16 s17 H locs hf hM => ?_)
    refine lv_pop hx hb dX2_undoLatest_158 rfl ?_
    exact wt_vret hx hb hr hlk hK hM hf dX2_undoLatest_159
  exact wt_vret hx hb hr hlk hK hM hf dX2_undoLatest_7
end
set_option maxHeartbeats 4000000 in
set_option maxRecDepth 100000 in
theorem c_X2_undoLatest {l : Launch} {D : va_G} {tI tII : ClassId} {B F : Nat} {g : Nat} {σ σ' : Mem} (hg : wt_isH g) (hf : f_X2_undoLatest F g σ = some ((), σ')) : wt_Mv l yX2_undoLatest cX2_undoLatest 5 none rm_X2_undoLatest [.ref (B + 70), .ref (B + g)] D tI tII B σ σ' := by
  refine Met.ofW (cc := cX2_undoLatest) (maxL := 5) (ret := none) (by decide) rfl ?_
  intro p e s m args below meth c s₁ B9 hml hv
  obtain ⟨rfl, hP, hK⟩ := hv
  have hl := lv_entry ([.ref (B + 70), .ref (B + g)]) (n := 5) (qz_b rfl)
  rw [lg_entry_eq]
  generalize (lg_sl ([.ref (B + 70), .ref (B + g)]) ++ List.replicate (5 - (lg_sl ([.ref (B + 70), .ref (B + g)])).length) Slot.unset).toArray = ls at hl ⊢
  exact w_X2_undoLatest_0 (wt_C_of B9 hml hK) hg hf ⟨hP, va_S.rf⟩ hl
section
variable {p : Program} {l : Launch} {e : Env} {s : State} {m : MethodId} {args : Array Value} {below : List Frame} {meth : Method} {c : Code} {D : va_G} {tI tII : ClassId} {B : Nat}
set_option maxHeartbeats 4000000 in
set_option maxRecDepth 100000 in
theorem w_X3_refuse_23 (C : wt_C p s m args meth c RX3 cX3_refuse 3 (some .int) D tI tII) {F : Nat} {x1 : Int32} {σ : Mem} {r : Int32} {σ' : Mem} {H : Heap} {locs : List Loc} {ls : Array Slot} (hf : j_X3_refuse_23 F x1 σ = some (r, σ')) (hM : wt_St D tI tII B σ s H locs) (hl : lv_has ls 3 [(1, .int x1)]) : W p l e rm_X3_refuse s m args below meth c H locs 0 0 (MQ below (wt_Qi D tI tII B r σ') args s 0 0 (fun q => B ≤ q)) (F0 m 23 ls []) := by
  obtain ⟨hx, hb, hts, hown, hml, hr, hlk, hK⟩ := id C
  replace hf := Eq.trans j_X3_refuse_23_e.symm hf
  refine lv_iload_n hx hb dX3_refuse_23 rfl (lv_at hl 0 rfl) ?_
  exact wt_iret hx hb hr hlk hK hM hf dX3_refuse_24
set_option maxHeartbeats 4000000 in
set_option maxRecDepth 100000 in
theorem w_X3_refuse_0 (C : wt_C p s m args meth c RX3 cX3_refuse 3 (some .int) D tI tII) {F : Nat} {x1 : Int32} {σ : Mem} {r : Int32} {σ' : Mem} {H : Heap} {locs : List Loc} {ls : Array Slot} (hf : f_X3_refuse F x1 σ = some (r, σ')) (hM : wt_St D tI tII B σ s H locs) (hl : lv_has ls 3 [(0, .ref (B + 0)), (1, .int x1)]) : W p l e rm_X3_refuse s m args below meth c H locs 0 0 (MQ below (wt_Qi D tI tII B r σ') args s 0 0 (fun q => B ≤ q)) (F0 m 0 ls []) := by
  obtain ⟨hx, hb, hts, hown, hml, hr, hlk, hK⟩ := id C
  replace hf := Eq.trans f_X3_refuse_e.symm hf
  refine lv_iload_n hx hb dX3_refuse_0 rfl (lv_at hl 1 rfl) ?_
  refine lv_ineg hx hb dX3_refuse_1 ?_
  refine lv_istore_n (lv' := [(2, .int (-x1)), (0, .ref (B + 0)), (1, .int x1)]) hx hb dX3_refuse_2 rfl hl (by decide) rfl (fun ls hl => ?_)
  refine lv_iload_n hx hb dX3_refuse_3 rfl (lv_at hl 0 rfl) ?_
  refine wq_if_lt (tgt := 23) hx hb dX3_refuse_4 (by decide) hf (fun hf => ?_) (fun hf => ?_)
  · exact w_X3_refuse_23 C hf hM (lv_sub hl [2] rfl)
  refine lv_iload_n hx hb dX3_refuse_7 rfl (lv_at hl 0 rfl) ?_
  refine lv_bipush (v := 7) hx hb dX3_refuse_8 (by decide) ?_
  refine wq_icmp_ge (tgt := 23) hx hb dX3_refuse_10 (by decide) hf (fun hf => ?_) (fun hf => ?_)
  · exact w_X3_refuse_23 C hf hM (lv_sub hl [2] rfl)
  refine lv_aload_n hx hb dX3_refuse_13 rfl (lv_at hl 1 rfl) ?_
  refine gf_X3_refusals  hx hb hts hown hK hM tw_122 dX3_refuse_14 ?_
  refine lv_iload_n hx hb dX3_refuse_17 rfl (lv_at hl 0 rfl) ?_
  refine lv_dup2_11 hx hb dX3_refuse_18 rfl rfl ?_
  obtain ⟨i1, hf⟩ := wt_chk_of hf
  refine wt_ild hx hb hK hM wt_a86 i1 dX3_refuse_19 ?_
  refine lv_iconst (v := 1) hx hb dX3_refuse_20 (by decide) ?_
  refine lv_iadd hx hb dX3_refuse_21 ?_
  refine wt_ist hx hb hK hM wt_a86 i1 dX3_refuse_22 hf (fun s2 H locs hf hM => ?_)
  exact w_X3_refuse_23 C hf hM (lv_sub hl [2] rfl)
end
set_option maxHeartbeats 4000000 in
set_option maxRecDepth 100000 in
theorem c_X3_refuse {l : Launch} {D : va_G} {tI tII : ClassId} {B F : Nat} {x1 : Int32} {σ σ' : Mem} {r : Int32} (hf : f_X3_refuse F x1 σ = some (r, σ')) : wt_Mi l yX3_refuse cX3_refuse 3 (some .int) rm_X3_refuse [.ref (B + 0), .int x1] D tI tII B σ r σ' := by
  refine Met.ofW (cc := cX3_refuse) (maxL := 3) (ret := (some .int)) (by decide) rfl ?_
  intro p e s m args below meth c s₁ B9 hml hv
  obtain ⟨rfl, hP, hK⟩ := hv
  have hl := lv_entry ([.ref (B + 0), .int x1]) (n := 3) (qz_b rfl)
  rw [lg_entry_eq]
  generalize (lg_sl ([.ref (B + 0), .int x1]) ++ List.replicate (3 - (lg_sl ([.ref (B + 0), .int x1])).length) Slot.unset).toArray = ls at hl ⊢
  exact w_X3_refuse_0 (wt_C_of B9 hml hK) hf ⟨hP, va_S.rf⟩ hl
section
variable {p : Program} {l : Launch} {e : Env} {s : State} {m : MethodId} {args : Array Value} {below : List Frame} {meth : Method} {c : Code} {D : va_G} {tI tII : ClassId} {B : Nat}
set_option maxHeartbeats 4000000 in
set_option maxRecDepth 100000 in
theorem w_X3_refuseLong_0 (C : wt_C p s m args meth c RX3 cX3_refuseLong 2 (some .long) D tI tII) {F : Nat} {x1 : Int32} {σ : Mem} {r : Int64} {σ' : Mem} {H : Heap} {locs : List Loc} {ls : Array Slot} (hf : f_X3_refuseLong F x1 σ = some (r, σ')) (hM : wt_St D tI tII B σ s H locs) (hl : lv_has ls 2 [(0, .ref (B + 0)), (1, .int x1)]) : W p l e rm_X3_refuseLong s m args below meth c H locs 0 0 (MQ below (wt_Ql D tI tII B r σ') args s 0 0 (fun q => B ≤ q)) (F0 m 0 ls []) := by
  obtain ⟨hx, hb, hts, hown, hml, hr, hlk, hK⟩ := id C
  replace hf := Eq.trans f_X3_refuseLong_e.symm hf
  refine lv_ldc2 (v := 4000000000000000000) hx hb hown (hts _ tw_518) dX3_refuseLong_0 ?_
  refine lv_aload_n hx hb dX3_refuseLong_3 rfl (lv_at hl 0 rfl) ?_
  refine lv_iload_n hx hb dX3_refuseLong_4 rfl (lv_at hl 1 rfl) ?_
  refine wt_callVi (As := [.int x1]) (rest := [.long (4000000000000000000 : Int64)]) hx hb hml hts hown hK hM wt_rc_X3 cw_X3_61 hd_X3_refuse rfl ⟨qz_b rfl, qz_b rfl⟩ ⟨rfl, rfl⟩ hl.1 rfl (qz_b rfl) dX3_refuseLong_5 hf (fun _ _ h9 => c_X3_refuse h9) (fun r1 s2 H locs hf hM => ?_)
  refine lv_i2l (v := (Int32.toInt64 r1)) hx hb dX3_refuseLong_8 rfl ?_
  refine lv_lsub hx hb dX3_refuseLong_9 ?_
  exact wt_lret hx hb hr hlk hK hM hf dX3_refuseLong_10
end
set_option maxHeartbeats 4000000 in
set_option maxRecDepth 100000 in
theorem c_X3_refuseLong {l : Launch} {D : va_G} {tI tII : ClassId} {B F : Nat} {x1 : Int32} {σ σ' : Mem} {r : Int64} (hf : f_X3_refuseLong F x1 σ = some (r, σ')) : wt_Ml l yX3_refuseLong cX3_refuseLong 2 (some .long) rm_X3_refuseLong [.ref (B + 0), .int x1] D tI tII B σ r σ' := by
  refine Met.ofW (cc := cX3_refuseLong) (maxL := 2) (ret := (some .long)) (by decide) rfl ?_
  intro p e s m args below meth c s₁ B9 hml hv
  obtain ⟨rfl, hP, hK⟩ := hv
  have hl := lv_entry ([.ref (B + 0), .int x1]) (n := 2) (qz_b rfl)
  rw [lg_entry_eq]
  generalize (lg_sl ([.ref (B + 0), .int x1]) ++ List.replicate (2 - (lg_sl ([.ref (B + 0), .int x1])).length) Slot.unset).toArray = ls at hl ⊢
  exact w_X3_refuseLong_0 (wt_C_of B9 hml hK) hf ⟨hP, va_S.rf⟩ hl
section
variable {p : Program} {l : Launch} {e : Env} {s : State} {m : MethodId} {args : Array Value} {below : List Frame} {meth : Method} {c : Code} {D : va_G} {tI tII : ClassId} {B : Nat}
set_option maxHeartbeats 4000000 in
set_option maxRecDepth 100000 in
theorem w_X3_firstOf_0 (C : wt_C p s m args meth c RX3 cX3_firstOf 2 (some .int) D tI tII) {F : Nat} {x0 : Int32} {x1 : Int32} {σ : Mem} {r : Int32} {σ' : Mem} {H : Heap} {locs : List Loc} {ls : Array Slot} (hf : f_X3_firstOf F x0 x1 σ = some (r, σ')) (hM : wt_St D tI tII B σ s H locs) (hl : lv_has ls 2 [(0, .int x0), (1, .int x1)]) : W p l e rm_X3_firstOf s m args below meth c H locs 0 0 (MQ below (wt_Qi D tI tII B r σ') args s 0 0 (fun q => B ≤ q)) (F0 m 0 ls []) := by
  obtain ⟨hx, hb, hts, hown, hml, hr, hlk, hK⟩ := id C
  replace hf := Eq.trans f_X3_firstOf_e.symm hf
  refine lv_iload_n hx hb dX3_firstOf_0 rfl (lv_at hl 0 rfl) ?_
  refine wq_if_eq (tgt := 8) hx hb dX3_firstOf_1 (by decide) hf (fun hf => ?_) (fun hf => ?_)
  · refine lv_iload_n hx hb dX3_firstOf_8 rfl (lv_at hl 1 rfl) ?_
    exact wt_iret hx hb hr hlk hK hM hf dX3_firstOf_9
  refine lv_iload_n hx hb dX3_firstOf_4 rfl (lv_at hl 0 rfl) ?_
  refine lv_goto (tgt := 9) hx hb dX3_firstOf_5 (by decide) ?_
  exact wt_iret hx hb hr hlk hK hM hf dX3_firstOf_9
end
set_option maxHeartbeats 4000000 in
set_option maxRecDepth 100000 in
theorem c_X3_firstOf {l : Launch} {D : va_G} {tI tII : ClassId} {B F : Nat} {x0 : Int32} {x1 : Int32} {σ σ' : Mem} {r : Int32} (hf : f_X3_firstOf F x0 x1 σ = some (r, σ')) : wt_Mi l yX3_firstOf cX3_firstOf 2 (some .int) rm_X3_firstOf [.int x0, .int x1] D tI tII B σ r σ' := by
  refine Met.ofW (cc := cX3_firstOf) (maxL := 2) (ret := (some .int)) (by decide) rfl ?_
  intro p e s m args below meth c s₁ B9 hml hv
  obtain ⟨rfl, hP, hK⟩ := hv
  have hl := lv_entry ([.int x0, .int x1]) (n := 2) (qz_b rfl)
  rw [lg_entry_eq]
  generalize (lg_sl ([.int x0, .int x1]) ++ List.replicate (2 - (lg_sl ([.int x0, .int x1])).length) Slot.unset).toArray = ls at hl ⊢
  exact w_X3_firstOf_0 (wt_C_of B9 hml hK) hf ⟨hP, va_S.rf⟩ hl
section
variable {p : Program} {l : Launch} {e : Env} {s : State} {m : MethodId} {args : Array Value} {below : List Frame} {meth : Method} {c : Code} {D : va_G} {tI tII : ClassId} {B : Nat}
set_option maxHeartbeats 4000000 in
set_option maxRecDepth 100000 in
theorem w_X3_noView_0 (C : wt_C p s m args meth c RX3 cX3_noView 1 (some .int) D tI tII) {F : Nat} {x0 : Int32} {σ : Mem} {r : Int32} {σ' : Mem} {H : Heap} {locs : List Loc} {ls : Array Slot} (hf : f_X3_noView F x0 σ = some (r, σ')) (hM : wt_St D tI tII B σ s H locs) (hl : lv_has ls 1 [(0, .int x0)]) : W p l e rm_X3_noView s m args below meth c H locs 0 0 (MQ below (wt_Qi D tI tII B r σ') args s 0 0 (fun q => B ≤ q)) (F0 m 0 ls []) := by
  obtain ⟨hx, hb, hts, hown, hml, hr, hlk, hK⟩ := id C
  replace hf := Eq.trans f_X3_noView_e.symm hf
  refine lv_iload_n hx hb dX3_noView_0 rfl (lv_at hl 0 rfl) ?_
  refine wt_callSi (As := [.int x0]) (rest := []) hx hb hml hts hown hK hM cw_X3_65 hd_X0_isView rfl ⟨qz_b rfl, qz_b rfl⟩ ⟨rfl, rfl⟩ hl.1 rfl (qz_b rfl) dX3_noView_1 hf (fun _ _ h9 => c_X0_isView h9) (fun r1 s2 H locs hf hM => ?_)
  refine wq_if_eq (tgt := 11) hx hb dX3_noView_4 (by decide) hf (fun hf => ?_) (fun hf => ?_)
  · refine lv_iconst (v := -1) hx hb dX3_noView_11 (by decide) ?_
    exact wt_iret hx hb hr hlk hK hM hf dX3_noView_12
  refine lv_iconst (v := 0) hx hb dX3_noView_7 (by decide) ?_
  refine lv_goto (tgt := 12) hx hb dX3_noView_8 (by decide) ?_
  exact wt_iret hx hb hr hlk hK hM hf dX3_noView_12
end
set_option maxHeartbeats 4000000 in
set_option maxRecDepth 100000 in
theorem c_X3_noView {l : Launch} {D : va_G} {tI tII : ClassId} {B F : Nat} {x0 : Int32} {σ σ' : Mem} {r : Int32} (hf : f_X3_noView F x0 σ = some (r, σ')) : wt_Mi l yX3_noView cX3_noView 1 (some .int) rm_X3_noView [.int x0] D tI tII B σ r σ' := by
  refine Met.ofW (cc := cX3_noView) (maxL := 1) (ret := (some .int)) (by decide) rfl ?_
  intro p e s m args below meth c s₁ B9 hml hv
  obtain ⟨rfl, hP, hK⟩ := hv
  have hl := lv_entry ([.int x0]) (n := 1) (qz_b rfl)
  rw [lg_entry_eq]
  generalize (lg_sl ([.int x0]) ++ List.replicate (1 - (lg_sl ([.int x0])).length) Slot.unset).toArray = ls at hl ⊢
  exact w_X3_noView_0 (wt_C_of B9 hml hK) hf ⟨hP, va_S.rf⟩ hl
section
variable {p : Program} {l : Launch} {e : Env} {s : State} {m : MethodId} {args : Array Value} {below : List Frame} {meth : Method} {c : Code} {D : va_G} {tI tII : ClassId} {B : Nat}
set_option maxHeartbeats 4000000 in
set_option maxRecDepth 100000 in
theorem w_X3_noHour_0 (C : wt_C p s m args meth c RX3 cX3_noHour 1 (some .int) D tI tII) {F : Nat} {x0 : Int32} {σ : Mem} {r : Int32} {σ' : Mem} {H : Heap} {locs : List Loc} {ls : Array Slot} (hf : f_X3_noHour F x0 σ = some (r, σ')) (hM : wt_St D tI tII B σ s H locs) (hl : lv_has ls 1 [(0, .int x0)]) : W p l e rm_X3_noHour s m args below meth c H locs 0 0 (MQ below (wt_Qi D tI tII B r σ') args s 0 0 (fun q => B ≤ q)) (F0 m 0 ls []) := by
  obtain ⟨hx, hb, hts, hown, hml, hr, hlk, hK⟩ := id C
  replace hf := Eq.trans f_X3_noHour_e.symm hf
  refine lv_iload_n hx hb dX3_noHour_0 rfl (lv_at hl 0 rfl) ?_
  refine wt_callSi (As := [.int x0]) (rest := []) hx hb hml hts hown hK hM cw_X3_69 hd_X0_isHour rfl ⟨qz_b rfl, qz_b rfl⟩ ⟨rfl, rfl⟩ hl.1 rfl (qz_b rfl) dX3_noHour_1 hf (fun _ _ h9 => c_X0_isHour h9) (fun r1 s2 H locs hf hM => ?_)
  refine wq_if_eq (tgt := 11) hx hb dX3_noHour_4 (by decide) hf (fun hf => ?_) (fun hf => ?_)
  · refine lv_iconst (v := -1) hx hb dX3_noHour_11 (by decide) ?_
    exact wt_iret hx hb hr hlk hK hM hf dX3_noHour_12
  refine lv_iconst (v := 0) hx hb dX3_noHour_7 (by decide) ?_
  refine lv_goto (tgt := 12) hx hb dX3_noHour_8 (by decide) ?_
  exact wt_iret hx hb hr hlk hK hM hf dX3_noHour_12
end
set_option maxHeartbeats 4000000 in
set_option maxRecDepth 100000 in
theorem c_X3_noHour {l : Launch} {D : va_G} {tI tII : ClassId} {B F : Nat} {x0 : Int32} {σ σ' : Mem} {r : Int32} (hf : f_X3_noHour F x0 σ = some (r, σ')) : wt_Mi l yX3_noHour cX3_noHour 1 (some .int) rm_X3_noHour [.int x0] D tI tII B σ r σ' := by
  refine Met.ofW (cc := cX3_noHour) (maxL := 1) (ret := (some .int)) (by decide) rfl ?_
  intro p e s m args below meth c s₁ B9 hml hv
  obtain ⟨rfl, hP, hK⟩ := hv
  have hl := lv_entry ([.int x0]) (n := 1) (qz_b rfl)
  rw [lg_entry_eq]
  generalize (lg_sl ([.int x0]) ++ List.replicate (1 - (lg_sl ([.int x0])).length) Slot.unset).toArray = ls at hl ⊢
  exact w_X3_noHour_0 (wt_C_of B9 hml hK) hf ⟨hP, va_S.rf⟩ hl
section
variable {p : Program} {l : Launch} {e : Env} {s : State} {m : MethodId} {args : Array Value} {below : List Frame} {meth : Method} {c : Code} {D : va_G} {tI tII : ClassId} {B : Nat}
set_option maxHeartbeats 4000000 in
set_option maxRecDepth 100000 in
theorem w_X3_noPane_0 (C : wt_C p s m args meth c RX3 cX3_noPane 2 (some .int) D tI tII) {F : Nat} {x1 : Int32} {σ : Mem} {r : Int32} {σ' : Mem} {H : Heap} {locs : List Loc} {ls : Array Slot} (hf : f_X3_noPane F x1 σ = some (r, σ')) (hM : wt_St D tI tII B σ s H locs) (hl : lv_has ls 2 [(0, .ref (B + 0)), (1, .int x1)]) : W p l e rm_X3_noPane s m args below meth c H locs 0 0 (MQ below (wt_Qi D tI tII B r σ') args s 0 0 (fun q => B ≤ q)) (F0 m 0 ls []) := by
  obtain ⟨hx, hb, hts, hown, hml, hr, hlk, hK⟩ := id C
  replace hf := Eq.trans f_X3_noPane_e.symm hf
  refine lv_aload_n hx hb dX3_noPane_0 rfl (lv_at hl 0 rfl) ?_
  refine gf_X3_house  hx hb hts hown hK hM tw_114 dX3_noPane_1 ?_
  refine lv_iload_n hx hb dX3_noPane_4 rfl (lv_at hl 1 rfl) ?_
  refine wt_callVi (As := [.int x1]) (rest := []) hx hb hml hts hown hK hM (wt_rc_X0 wt_h1) cw_X3_72 hd_X0_isPane rfl ⟨qz_b rfl, qz_b rfl⟩ ⟨rfl, rfl⟩ hl.1 rfl (qz_b rfl) dX3_noPane_5 hf (fun _ _ h9 => c_X0_isPane wt_h1 h9) (fun r1 s2 H locs hf hM => ?_)
  refine wq_if_eq (tgt := 15) hx hb dX3_noPane_8 (by decide) hf (fun hf => ?_) (fun hf => ?_)
  · refine lv_iconst (v := -1) hx hb dX3_noPane_15 (by decide) ?_
    exact wt_iret hx hb hr hlk hK hM hf dX3_noPane_16
  refine lv_iconst (v := 0) hx hb dX3_noPane_11 (by decide) ?_
  refine lv_goto (tgt := 16) hx hb dX3_noPane_12 (by decide) ?_
  exact wt_iret hx hb hr hlk hK hM hf dX3_noPane_16
end
set_option maxHeartbeats 4000000 in
set_option maxRecDepth 100000 in
theorem c_X3_noPane {l : Launch} {D : va_G} {tI tII : ClassId} {B F : Nat} {x1 : Int32} {σ σ' : Mem} {r : Int32} (hf : f_X3_noPane F x1 σ = some (r, σ')) : wt_Mi l yX3_noPane cX3_noPane 2 (some .int) rm_X3_noPane [.ref (B + 0), .int x1] D tI tII B σ r σ' := by
  refine Met.ofW (cc := cX3_noPane) (maxL := 2) (ret := (some .int)) (by decide) rfl ?_
  intro p e s m args below meth c s₁ B9 hml hv
  obtain ⟨rfl, hP, hK⟩ := hv
  have hl := lv_entry ([.ref (B + 0), .int x1]) (n := 2) (qz_b rfl)
  rw [lg_entry_eq]
  generalize (lg_sl ([.ref (B + 0), .int x1]) ++ List.replicate (2 - (lg_sl ([.ref (B + 0), .int x1])).length) Slot.unset).toArray = ls at hl ⊢
  exact w_X3_noPane_0 (wt_C_of B9 hml hK) hf ⟨hP, va_S.rf⟩ hl
section
variable {p : Program} {l : Launch} {e : Env} {s : State} {m : MethodId} {args : Array Value} {below : List Frame} {meth : Method} {c : Code} {D : va_G} {tI tII : ClassId} {B : Nat}
set_option maxHeartbeats 4000000 in
set_option maxRecDepth 100000 in
theorem w_X3_noLooker_0 (C : wt_C p s m args meth c RX3 cX3_noLooker 2 (some .int) D tI tII) {F : Nat} {x1 : Int32} {σ : Mem} {r : Int32} {σ' : Mem} {H : Heap} {locs : List Loc} {ls : Array Slot} (hf : f_X3_noLooker F x1 σ = some (r, σ')) (hM : wt_St D tI tII B σ s H locs) (hl : lv_has ls 2 [(0, .ref (B + 0)), (1, .int x1)]) : W p l e rm_X3_noLooker s m args below meth c H locs 0 0 (MQ below (wt_Qi D tI tII B r σ') args s 0 0 (fun q => B ≤ q)) (F0 m 0 ls []) := by
  obtain ⟨hx, hb, hts, hown, hml, hr, hlk, hK⟩ := id C
  replace hf := Eq.trans f_X3_noLooker_e.symm hf
  refine lv_aload_n hx hb dX3_noLooker_0 rfl (lv_at hl 0 rfl) ?_
  refine gf_X3_house  hx hb hts hown hK hM tw_114 dX3_noLooker_1 ?_
  refine lv_iload_n hx hb dX3_noLooker_4 rfl (lv_at hl 1 rfl) ?_
  refine wt_callVi (As := [.int x1]) (rest := []) hx hb hml hts hown hK hM (wt_rc_X0 wt_h1) cw_X3_75 hd_X0_isLooker rfl ⟨qz_b rfl, qz_b rfl⟩ ⟨rfl, rfl⟩ hl.1 rfl (qz_b rfl) dX3_noLooker_5 hf (fun _ _ h9 => c_X0_isLooker wt_h1 h9) (fun r1 s2 H locs hf hM => ?_)
  refine wq_if_eq (tgt := 15) hx hb dX3_noLooker_8 (by decide) hf (fun hf => ?_) (fun hf => ?_)
  · refine lv_iconst (v := -1) hx hb dX3_noLooker_15 (by decide) ?_
    exact wt_iret hx hb hr hlk hK hM hf dX3_noLooker_16
  refine lv_iconst (v := 0) hx hb dX3_noLooker_11 (by decide) ?_
  refine lv_goto (tgt := 16) hx hb dX3_noLooker_12 (by decide) ?_
  exact wt_iret hx hb hr hlk hK hM hf dX3_noLooker_16
end
set_option maxHeartbeats 4000000 in
set_option maxRecDepth 100000 in
theorem c_X3_noLooker {l : Launch} {D : va_G} {tI tII : ClassId} {B F : Nat} {x1 : Int32} {σ σ' : Mem} {r : Int32} (hf : f_X3_noLooker F x1 σ = some (r, σ')) : wt_Mi l yX3_noLooker cX3_noLooker 2 (some .int) rm_X3_noLooker [.ref (B + 0), .int x1] D tI tII B σ r σ' := by
  refine Met.ofW (cc := cX3_noLooker) (maxL := 2) (ret := (some .int)) (by decide) rfl ?_
  intro p e s m args below meth c s₁ B9 hml hv
  obtain ⟨rfl, hP, hK⟩ := hv
  have hl := lv_entry ([.ref (B + 0), .int x1]) (n := 2) (qz_b rfl)
  rw [lg_entry_eq]
  generalize (lg_sl ([.ref (B + 0), .int x1]) ++ List.replicate (2 - (lg_sl ([.ref (B + 0), .int x1])).length) Slot.unset).toArray = ls at hl ⊢
  exact w_X3_noLooker_0 (wt_C_of B9 hml hK) hf ⟨hP, va_S.rf⟩ hl
section
variable {p : Program} {l : Launch} {e : Env} {s : State} {m : MethodId} {args : Array Value} {below : List Frame} {meth : Method} {c : Code} {D : va_G} {tI tII : ClassId} {B : Nat}
set_option maxHeartbeats 4000000 in
set_option maxRecDepth 100000 in
theorem w_X3_noPair_31 (C : wt_C p s m args meth c RX3 cX3_noPair 3 (some .int) D tI tII) {F : Nat} {σ : Mem} {r : Int32} {σ' : Mem} {H : Heap} {locs : List Loc} {ls : Array Slot} (hf : j_X3_noPair_31 F σ = some (r, σ')) (hM : wt_St D tI tII B σ s H locs) (hl : lv_has ls 3 []) : W p l e rm_X3_noPair s m args below meth c H locs 0 0 (MQ below (wt_Qi D tI tII B r σ') args s 0 0 (fun q => B ≤ q)) (F0 m 31 ls []) := by
  obtain ⟨hx, hb, hts, hown, hml, hr, hlk, hK⟩ := id C
  replace hf := Eq.trans j_X3_noPair_31_e.symm hf
  refine lv_iconst (v := -1) hx hb dX3_noPair_31 (by decide) ?_
  exact wt_iret hx hb hr hlk hK hM hf dX3_noPair_32
set_option maxHeartbeats 4000000 in
set_option maxRecDepth 100000 in
theorem w_X3_noPair_0 (C : wt_C p s m args meth c RX3 cX3_noPair 3 (some .int) D tI tII) {F : Nat} {x1 : Int32} {x2 : Int32} {σ : Mem} {r : Int32} {σ' : Mem} {H : Heap} {locs : List Loc} {ls : Array Slot} (hf : f_X3_noPair F x1 x2 σ = some (r, σ')) (hM : wt_St D tI tII B σ s H locs) (hl : lv_has ls 3 [(0, .ref (B + 0)), (1, .int x1), (2, .int x2)]) : W p l e rm_X3_noPair s m args below meth c H locs 0 0 (MQ below (wt_Qi D tI tII B r σ') args s 0 0 (fun q => B ≤ q)) (F0 m 0 ls []) := by
  obtain ⟨hx, hb, hts, hown, hml, hr, hlk, hK⟩ := id C
  replace hf := Eq.trans f_X3_noPair_e.symm hf
  refine lv_aload_n hx hb dX3_noPair_0 rfl (lv_at hl 0 rfl) ?_
  refine gf_X3_house  hx hb hts hown hK hM tw_114 dX3_noPair_1 ?_
  refine lv_iload_n hx hb dX3_noPair_4 rfl (lv_at hl 1 rfl) ?_
  refine wt_callVi (As := [.int x1]) (rest := []) hx hb hml hts hown hK hM (wt_rc_X0 wt_h1) cw_X3_75 hd_X0_isLooker rfl ⟨qz_b rfl, qz_b rfl⟩ ⟨rfl, rfl⟩ hl.1 rfl (qz_b rfl) dX3_noPair_5 hf (fun _ _ h9 => c_X0_isLooker wt_h1 h9) (fun r1 s2 H locs hf hM => ?_)
  refine wq_if_eq (tgt := 31) hx hb dX3_noPair_8 (by decide) hf (fun hf => ?_) (fun hf => ?_)
  · exact w_X3_noPair_31 C hf hM (lv_sub hl [] rfl)
  refine lv_aload_n hx hb dX3_noPair_11 rfl (lv_at hl 0 rfl) ?_
  refine gf_X3_house  hx hb hts hown hK hM tw_114 dX3_noPair_12 ?_
  refine lv_iload_n hx hb dX3_noPair_15 rfl (lv_at hl 2 rfl) ?_
  refine wt_callVi (As := [.int x2]) (rest := []) hx hb hml hts hown hK hM (wt_rc_X0 wt_h1) cw_X3_75 hd_X0_isLooker rfl ⟨qz_b rfl, qz_b rfl⟩ ⟨rfl, rfl⟩ hl.1 rfl (qz_b rfl) dX3_noPair_16 hf (fun _ _ h9 => c_X0_isLooker wt_h1 h9) (fun r3 s4 H locs hf hM => ?_)
  refine wq_if_eq (tgt := 31) hx hb dX3_noPair_19 (by decide) hf (fun hf => ?_) (fun hf => ?_)
  · exact w_X3_noPair_31 C hf hM (lv_sub hl [] rfl)
  refine lv_iload_n hx hb dX3_noPair_22 rfl (lv_at hl 1 rfl) ?_
  refine lv_iload_n hx hb dX3_noPair_23 rfl (lv_at hl 2 rfl) ?_
  refine wq_icmp_eq (tgt := 31) hx hb dX3_noPair_24 (by decide) hf (fun hf => ?_) (fun hf => ?_)
  · exact w_X3_noPair_31 C hf hM (lv_sub hl [] rfl)
  refine lv_iconst (v := 0) hx hb dX3_noPair_27 (by decide) ?_
  refine lv_goto (tgt := 32) hx hb dX3_noPair_28 (by decide) ?_
  exact wt_iret hx hb hr hlk hK hM hf dX3_noPair_32
end
set_option maxHeartbeats 4000000 in
set_option maxRecDepth 100000 in
theorem c_X3_noPair {l : Launch} {D : va_G} {tI tII : ClassId} {B F : Nat} {x1 : Int32} {x2 : Int32} {σ σ' : Mem} {r : Int32} (hf : f_X3_noPair F x1 x2 σ = some (r, σ')) : wt_Mi l yX3_noPair cX3_noPair 3 (some .int) rm_X3_noPair [.ref (B + 0), .int x1, .int x2] D tI tII B σ r σ' := by
  refine Met.ofW (cc := cX3_noPair) (maxL := 3) (ret := (some .int)) (by decide) rfl ?_
  intro p e s m args below meth c s₁ B9 hml hv
  obtain ⟨rfl, hP, hK⟩ := hv
  have hl := lv_entry ([.ref (B + 0), .int x1, .int x2]) (n := 3) (qz_b rfl)
  rw [lg_entry_eq]
  generalize (lg_sl ([.ref (B + 0), .int x1, .int x2]) ++ List.replicate (3 - (lg_sl ([.ref (B + 0), .int x1, .int x2])).length) Slot.unset).toArray = ls at hl ⊢
  exact w_X3_noPair_0 (wt_C_of B9 hml hK) hf ⟨hP, va_S.rf⟩ hl
section
variable {p : Program} {l : Launch} {e : Env} {s : State} {m : MethodId} {args : Array Value} {below : List Frame} {meth : Method} {c : Code} {D : va_G} {tI tII : ClassId} {B : Nat}
set_option maxHeartbeats 4000000 in
set_option maxRecDepth 100000 in
theorem w_X3_notBelow_13 (C : wt_C p s m args meth c RX3 cX3_notBelow 2 (some .int) D tI tII) {F : Nat} {σ : Mem} {r : Int32} {σ' : Mem} {H : Heap} {locs : List Loc} {ls : Array Slot} (hf : j_X3_notBelow_13 F σ = some (r, σ')) (hM : wt_St D tI tII B σ s H locs) (hl : lv_has ls 2 []) : W p l e rm_X3_notBelow s m args below meth c H locs 0 0 (MQ below (wt_Qi D tI tII B r σ') args s 0 0 (fun q => B ≤ q)) (F0 m 13 ls []) := by
  obtain ⟨hx, hb, hts, hown, hml, hr, hlk, hK⟩ := id C
  replace hf := Eq.trans j_X3_notBelow_13_e.symm hf
  refine lv_bipush (v := -2) hx hb dX3_notBelow_13 (by decide) ?_
  exact wt_iret hx hb hr hlk hK hM hf dX3_notBelow_15
set_option maxHeartbeats 4000000 in
set_option maxRecDepth 100000 in
theorem w_X3_notBelow_0 (C : wt_C p s m args meth c RX3 cX3_notBelow 2 (some .int) D tI tII) {F : Nat} {x0 : Int32} {x1 : Int32} {σ : Mem} {r : Int32} {σ' : Mem} {H : Heap} {locs : List Loc} {ls : Array Slot} (hf : f_X3_notBelow F x0 x1 σ = some (r, σ')) (hM : wt_St D tI tII B σ s H locs) (hl : lv_has ls 2 [(0, .int x0), (1, .int x1)]) : W p l e rm_X3_notBelow s m args below meth c H locs 0 0 (MQ below (wt_Qi D tI tII B r σ') args s 0 0 (fun q => B ≤ q)) (F0 m 0 ls []) := by
  obtain ⟨hx, hb, hts, hown, hml, hr, hlk, hK⟩ := id C
  replace hf := Eq.trans f_X3_notBelow_e.symm hf
  refine lv_iload_n hx hb dX3_notBelow_0 rfl (lv_at hl 0 rfl) ?_
  refine wq_if_lt (tgt := 13) hx hb dX3_notBelow_1 (by decide) hf (fun hf => ?_) (fun hf => ?_)
  · exact w_X3_notBelow_13 C hf hM (lv_sub hl [] rfl)
  refine lv_iload_n hx hb dX3_notBelow_4 rfl (lv_at hl 0 rfl) ?_
  refine lv_iload_n hx hb dX3_notBelow_5 rfl (lv_at hl 1 rfl) ?_
  refine wq_icmp_ge (tgt := 13) hx hb dX3_notBelow_6 (by decide) hf (fun hf => ?_) (fun hf => ?_)
  · exact w_X3_notBelow_13 C hf hM (lv_sub hl [] rfl)
  refine lv_iconst (v := 0) hx hb dX3_notBelow_9 (by decide) ?_
  refine lv_goto (tgt := 15) hx hb dX3_notBelow_10 (by decide) ?_
  exact wt_iret hx hb hr hlk hK hM hf dX3_notBelow_15
end
set_option maxHeartbeats 4000000 in
set_option maxRecDepth 100000 in
theorem c_X3_notBelow {l : Launch} {D : va_G} {tI tII : ClassId} {B F : Nat} {x0 : Int32} {x1 : Int32} {σ σ' : Mem} {r : Int32} (hf : f_X3_notBelow F x0 x1 σ = some (r, σ')) : wt_Mi l yX3_notBelow cX3_notBelow 2 (some .int) rm_X3_notBelow [.int x0, .int x1] D tI tII B σ r σ' := by
  refine Met.ofW (cc := cX3_notBelow) (maxL := 2) (ret := (some .int)) (by decide) rfl ?_
  intro p e s m args below meth c s₁ B9 hml hv
  obtain ⟨rfl, hP, hK⟩ := hv
  have hl := lv_entry ([.int x0, .int x1]) (n := 2) (qz_b rfl)
  rw [lg_entry_eq]
  generalize (lg_sl ([.int x0, .int x1]) ++ List.replicate (2 - (lg_sl ([.int x0, .int x1])).length) Slot.unset).toArray = ls at hl ⊢
  exact w_X3_notBelow_0 (wt_C_of B9 hml hK) hf ⟨hP, va_S.rf⟩ hl
section
variable {p : Program} {l : Launch} {e : Env} {s : State} {m : MethodId} {args : Array Value} {below : List Frame} {meth : Method} {c : Code} {D : va_G} {tI tII : ClassId} {B : Nat}
set_option maxHeartbeats 4000000 in
set_option maxRecDepth 100000 in
theorem w_X3_outside_0 (C : wt_C p s m args meth c RX3 cX3_outside 3 (some .int) D tI tII) {F : Nat} {x0 : Int32} {x1 : Int32} {x2 : Int32} {σ : Mem} {r : Int32} {σ' : Mem} {H : Heap} {locs : List Loc} {ls : Array Slot} (hf : f_X3_outside F x0 x1 x2 σ = some (r, σ')) (hM : wt_St D tI tII B σ s H locs) (hl : lv_has ls 3 [(0, .int x0), (1, .int x1), (2, .int x2)]) : W p l e rm_X3_outside s m args below meth c H locs 0 0 (MQ below (wt_Qi D tI tII B r σ') args s 0 0 (fun q => B ≤ q)) (F0 m 0 ls []) := by
  obtain ⟨hx, hb, hts, hown, hml, hr, hlk, hK⟩ := id C
  replace hf := Eq.trans f_X3_outside_e.symm hf
  refine lv_iload_n hx hb dX3_outside_0 rfl (lv_at hl 0 rfl) ?_
  refine lv_iload_n hx hb dX3_outside_1 rfl (lv_at hl 1 rfl) ?_
  refine wq_icmp_ge (tgt := 8) hx hb dX3_outside_2 (by decide) hf (fun hf => ?_) (fun hf => ?_)
  · refine lv_iload_n hx hb dX3_outside_8 rfl (lv_at hl 0 rfl) ?_
    refine lv_iload_n hx hb dX3_outside_9 rfl (lv_at hl 2 rfl) ?_
    refine wq_icmp_le (tgt := 18) hx hb dX3_outside_10 (by decide) hf (fun hf => ?_) (fun hf => ?_)
    · refine lv_iconst (v := 0) hx hb dX3_outside_18 (by decide) ?_
      exact wt_iret hx hb hr hlk hK hM hf dX3_outside_19
    refine lv_bipush (v := -6) hx hb dX3_outside_13 (by decide) ?_
    refine lv_goto (tgt := 19) hx hb dX3_outside_15 (by decide) ?_
    exact wt_iret hx hb hr hlk hK hM hf dX3_outside_19
  refine lv_bipush (v := -4) hx hb dX3_outside_5 (by decide) ?_
  exact wt_iret hx hb hr hlk hK hM hf dX3_outside_7
end
set_option maxHeartbeats 4000000 in
set_option maxRecDepth 100000 in
theorem c_X3_outside {l : Launch} {D : va_G} {tI tII : ClassId} {B F : Nat} {x0 : Int32} {x1 : Int32} {x2 : Int32} {σ σ' : Mem} {r : Int32} (hf : f_X3_outside F x0 x1 x2 σ = some (r, σ')) : wt_Mi l yX3_outside cX3_outside 3 (some .int) rm_X3_outside [.int x0, .int x1, .int x2] D tI tII B σ r σ' := by
  refine Met.ofW (cc := cX3_outside) (maxL := 3) (ret := (some .int)) (by decide) rfl ?_
  intro p e s m args below meth c s₁ B9 hml hv
  obtain ⟨rfl, hP, hK⟩ := hv
  have hl := lv_entry ([.int x0, .int x1, .int x2]) (n := 3) (qz_b rfl)
  rw [lg_entry_eq]
  generalize (lg_sl ([.int x0, .int x1, .int x2]) ++ List.replicate (3 - (lg_sl ([.int x0, .int x1, .int x2])).length) Slot.unset).toArray = ls at hl ⊢
  exact w_X3_outside_0 (wt_C_of B9 hml hK) hf ⟨hP, va_S.rf⟩ hl
section
variable {p : Program} {l : Launch} {e : Env} {s : State} {m : MethodId} {args : Array Value} {below : List Frame} {meth : Method} {c : Code} {D : va_G} {tI tII : ClassId} {B : Nat}
set_option maxHeartbeats 4000000 in
set_option maxRecDepth 100000 in
theorem w_X3_noLookerFar_0 (C : wt_C p s m args meth c RX3 cX3_noLookerFar 3 (some .int) D tI tII) {F : Nat} {x1 : Int32} {x2 : Int32} {σ : Mem} {r : Int32} {σ' : Mem} {H : Heap} {locs : List Loc} {ls : Array Slot} (hf : f_X3_noLookerFar F x1 x2 σ = some (r, σ')) (hM : wt_St D tI tII B σ s H locs) (hl : lv_has ls 3 [(0, .ref (B + 0)), (1, .int x1), (2, .int x2)]) : W p l e rm_X3_noLookerFar s m args below meth c H locs 0 0 (MQ below (wt_Qi D tI tII B r σ') args s 0 0 (fun q => B ≤ q)) (F0 m 0 ls []) := by
  obtain ⟨hx, hb, hts, hown, hml, hr, hlk, hK⟩ := id C
  replace hf := Eq.trans f_X3_noLookerFar_e.symm hf
  refine lv_aload_n hx hb dX3_noLookerFar_0 rfl (lv_at hl 0 rfl) ?_
  refine lv_iload_n hx hb dX3_noLookerFar_1 rfl (lv_at hl 1 rfl) ?_
  refine wt_callVi (As := [.int x1]) (rest := []) hx hb hml hts hown hK hM wt_rc_X3 cw_X3_78 hd_X3_noLooker rfl ⟨qz_b rfl, qz_b rfl⟩ ⟨rfl, rfl⟩ hl.1 rfl (qz_b rfl) dX3_noLookerFar_2 hf (fun _ _ h9 => c_X3_noLooker h9) (fun r1 s2 H locs hf hM => ?_)
  refine lv_iload_n hx hb dX3_noLookerFar_5 rfl (lv_at hl 2 rfl) ?_
  refine lv_iconst (v := 0) hx hb dX3_noLookerFar_6 (by decide) ?_
  refine lv_sipush (v := 999) hx hb dX3_noLookerFar_7 (by decide) ?_
  refine wt_callSi (As := [.int x2, .int (0 : Int32), .int (999 : Int32)]) (rest := [.int r1]) hx hb hml hts hown hK hM cw_X3_81 hd_X3_outside rfl ⟨qz_b rfl, qz_b rfl⟩ ⟨rfl, rfl⟩ hl.1 rfl (qz_b rfl) dX3_noLookerFar_10 hf (fun _ _ h9 => c_X3_outside h9) (fun r3 s4 H locs hf hM => ?_)
  refine wt_callSi (As := [.int r1, .int r3]) (rest := []) hx hb hml hts hown hK hM cw_X3_85 hd_X3_firstOf rfl ⟨qz_b rfl, qz_b rfl⟩ ⟨rfl, rfl⟩ hl.1 rfl (qz_b rfl) dX3_noLookerFar_13 hf (fun _ _ h9 => c_X3_firstOf h9) (fun r5 s6 H locs hf hM => ?_)
  exact wt_iret hx hb hr hlk hK hM hf dX3_noLookerFar_16
end
set_option maxHeartbeats 4000000 in
set_option maxRecDepth 100000 in
theorem c_X3_noLookerFar {l : Launch} {D : va_G} {tI tII : ClassId} {B F : Nat} {x1 : Int32} {x2 : Int32} {σ σ' : Mem} {r : Int32} (hf : f_X3_noLookerFar F x1 x2 σ = some (r, σ')) : wt_Mi l yX3_noLookerFar cX3_noLookerFar 3 (some .int) rm_X3_noLookerFar [.ref (B + 0), .int x1, .int x2] D tI tII B σ r σ' := by
  refine Met.ofW (cc := cX3_noLookerFar) (maxL := 3) (ret := (some .int)) (by decide) rfl ?_
  intro p e s m args below meth c s₁ B9 hml hv
  obtain ⟨rfl, hP, hK⟩ := hv
  have hl := lv_entry ([.ref (B + 0), .int x1, .int x2]) (n := 3) (qz_b rfl)
  rw [lg_entry_eq]
  generalize (lg_sl ([.ref (B + 0), .int x1, .int x2]) ++ List.replicate (3 - (lg_sl ([.ref (B + 0), .int x1, .int x2])).length) Slot.unset).toArray = ls at hl ⊢
  exact w_X3_noLookerFar_0 (wt_C_of B9 hml hK) hf ⟨hP, va_S.rf⟩ hl
section
variable {p : Program} {l : Launch} {e : Env} {s : State} {m : MethodId} {args : Array Value} {below : List Frame} {meth : Method} {c : Code} {D : va_G} {tI tII : ClassId} {B : Nat}
set_option maxHeartbeats 4000000 in
set_option maxRecDepth 100000 in
theorem w_X3_noPairFar_0 (C : wt_C p s m args meth c RX3 cX3_noPairFar 4 (some .int) D tI tII) {F : Nat} {x1 : Int32} {x2 : Int32} {x3 : Int32} {σ : Mem} {r : Int32} {σ' : Mem} {H : Heap} {locs : List Loc} {ls : Array Slot} (hf : f_X3_noPairFar F x1 x2 x3 σ = some (r, σ')) (hM : wt_St D tI tII B σ s H locs) (hl : lv_has ls 4 [(0, .ref (B + 0)), (1, .int x1), (2, .int x2), (3, .int x3)]) : W p l e rm_X3_noPairFar s m args below meth c H locs 0 0 (MQ below (wt_Qi D tI tII B r σ') args s 0 0 (fun q => B ≤ q)) (F0 m 0 ls []) := by
  obtain ⟨hx, hb, hts, hown, hml, hr, hlk, hK⟩ := id C
  replace hf := Eq.trans f_X3_noPairFar_e.symm hf
  refine lv_aload_n hx hb dX3_noPairFar_0 rfl (lv_at hl 0 rfl) ?_
  refine lv_iload_n hx hb dX3_noPairFar_1 rfl (lv_at hl 1 rfl) ?_
  refine lv_iload_n hx hb dX3_noPairFar_2 rfl (lv_at hl 2 rfl) ?_
  refine wt_callVi (As := [.int x1, .int x2]) (rest := []) hx hb hml hts hown hK hM wt_rc_X3 cw_X3_89 hd_X3_noPair rfl ⟨qz_b rfl, qz_b rfl⟩ ⟨rfl, rfl⟩ hl.1 rfl (qz_b rfl) dX3_noPairFar_3 hf (fun _ _ h9 => c_X3_noPair h9) (fun r1 s2 H locs hf hM => ?_)
  refine lv_iload_n hx hb dX3_noPairFar_6 rfl (lv_at hl 3 rfl) ?_
  refine lv_iconst (v := 0) hx hb dX3_noPairFar_7 (by decide) ?_
  refine lv_sipush (v := 999) hx hb dX3_noPairFar_8 (by decide) ?_
  refine wt_callSi (As := [.int x3, .int (0 : Int32), .int (999 : Int32)]) (rest := [.int r1]) hx hb hml hts hown hK hM cw_X3_81 hd_X3_outside rfl ⟨qz_b rfl, qz_b rfl⟩ ⟨rfl, rfl⟩ hl.1 rfl (qz_b rfl) dX3_noPairFar_11 hf (fun _ _ h9 => c_X3_outside h9) (fun r3 s4 H locs hf hM => ?_)
  refine wt_callSi (As := [.int r1, .int r3]) (rest := []) hx hb hml hts hown hK hM cw_X3_85 hd_X3_firstOf rfl ⟨qz_b rfl, qz_b rfl⟩ ⟨rfl, rfl⟩ hl.1 rfl (qz_b rfl) dX3_noPairFar_14 hf (fun _ _ h9 => c_X3_firstOf h9) (fun r5 s6 H locs hf hM => ?_)
  exact wt_iret hx hb hr hlk hK hM hf dX3_noPairFar_17
end
set_option maxHeartbeats 4000000 in
set_option maxRecDepth 100000 in
theorem c_X3_noPairFar {l : Launch} {D : va_G} {tI tII : ClassId} {B F : Nat} {x1 : Int32} {x2 : Int32} {x3 : Int32} {σ σ' : Mem} {r : Int32} (hf : f_X3_noPairFar F x1 x2 x3 σ = some (r, σ')) : wt_Mi l yX3_noPairFar cX3_noPairFar 4 (some .int) rm_X3_noPairFar [.ref (B + 0), .int x1, .int x2, .int x3] D tI tII B σ r σ' := by
  refine Met.ofW (cc := cX3_noPairFar) (maxL := 4) (ret := (some .int)) (by decide) rfl ?_
  intro p e s m args below meth c s₁ B9 hml hv
  obtain ⟨rfl, hP, hK⟩ := hv
  have hl := lv_entry ([.ref (B + 0), .int x1, .int x2, .int x3]) (n := 4) (qz_b rfl)
  rw [lg_entry_eq]
  generalize (lg_sl ([.ref (B + 0), .int x1, .int x2, .int x3]) ++ List.replicate (4 - (lg_sl ([.ref (B + 0), .int x1, .int x2, .int x3])).length) Slot.unset).toArray = ls at hl ⊢
  exact w_X3_noPairFar_0 (wt_C_of B9 hml hK) hf ⟨hP, va_S.rf⟩ hl
section
variable {p : Program} {l : Launch} {e : Env} {s : State} {m : MethodId} {args : Array Value} {below : List Frame} {meth : Method} {c : Code} {D : va_G} {tI tII : ClassId} {B : Nat}
set_option maxHeartbeats 4000000 in
set_option maxRecDepth 100000 in
theorem w_X3_longRow_0 (C : wt_C p s m args meth c RX3 cX3_longRow 1 (some .int) D tI tII) {F : Nat} {σ : Mem} {r : Int32} {σ' : Mem} {H : Heap} {locs : List Loc} {ls : Array Slot} (hf : f_X3_longRow F σ = some (r, σ')) (hM : wt_St D tI tII B σ s H locs) (hl : lv_has ls 1 [(0, .ref (B + 0))]) : W p l e rm_X3_longRow s m args below meth c H locs 0 0 (MQ below (wt_Qi D tI tII B r σ') args s 0 0 (fun q => B ≤ q)) (F0 m 0 ls []) := by
  obtain ⟨hx, hb, hts, hown, hml, hr, hlk, hK⟩ := id C
  replace hf := Eq.trans f_X3_longRow_e.symm hf
  refine lv_aload_n hx hb dX3_longRow_0 rfl (lv_at hl 0 rfl) ?_
  refine gf_X3_rowSize  hx hb hts hown hK hM tw_121 dX3_longRow_1 ?_
  refine lv_bipush (v := 8) hx hb dX3_longRow_4 (by decide) ?_
  refine wq_icmp_le (tgt := 14) hx hb dX3_longRow_6 (by decide) hf (fun hf => ?_) (fun hf => ?_)
  · refine lv_iconst (v := 0) hx hb dX3_longRow_14 (by decide) ?_
    exact wt_iret hx hb hr hlk hK hM hf dX3_longRow_15
  refine lv_bipush (v := -3) hx hb dX3_longRow_9 (by decide) ?_
  refine lv_goto (tgt := 15) hx hb dX3_longRow_11 (by decide) ?_
  exact wt_iret hx hb hr hlk hK hM hf dX3_longRow_15
end
set_option maxHeartbeats 4000000 in
set_option maxRecDepth 100000 in
theorem c_X3_longRow {l : Launch} {D : va_G} {tI tII : ClassId} {B F : Nat} {σ σ' : Mem} {r : Int32} (hf : f_X3_longRow F σ = some (r, σ')) : wt_Mi l yX3_longRow cX3_longRow 1 (some .int) rm_X3_longRow [.ref (B + 0)] D tI tII B σ r σ' := by
  refine Met.ofW (cc := cX3_longRow) (maxL := 1) (ret := (some .int)) (by decide) rfl ?_
  intro p e s m args below meth c s₁ B9 hml hv
  obtain ⟨rfl, hP, hK⟩ := hv
  have hl := lv_entry ([.ref (B + 0)]) (n := 1) (qz_b rfl)
  rw [lg_entry_eq]
  generalize (lg_sl ([.ref (B + 0)]) ++ List.replicate (1 - (lg_sl ([.ref (B + 0)])).length) Slot.unset).toArray = ls at hl ⊢
  exact w_X3_longRow_0 (wt_C_of B9 hml hK) hf ⟨hP, va_S.rf⟩ hl
section
variable {p : Program} {l : Launch} {e : Env} {s : State} {m : MethodId} {args : Array Value} {below : List Frame} {meth : Method} {c : Code} {D : va_G} {tI tII : ClassId} {B : Nat}
set_option maxHeartbeats 4000000 in
set_option maxRecDepth 100000 in
theorem w_X3_feed_28 (C : wt_C p s m args meth c RX3 cX3_feed 3 (some .int) D tI tII) {F : Nat} {x1 : Int32} {x2 : Int32} {σ : Mem} {r : Int32} {σ' : Mem} {H : Heap} {locs : List Loc} {ls : Array Slot} (hf : j_X3_feed_28 F x1 x2 σ = some (r, σ')) (hM : wt_St D tI tII B σ s H locs) (hl : lv_has ls 3 [(0, .ref (B + 0)), (1, .int x1), (2, .int x2)]) : W p l e rm_X3_feed s m args below meth c H locs 0 0 (MQ below (wt_Qi D tI tII B r σ') args s 0 0 (fun q => B ≤ q)) (F0 m 28 ls []) := by
  obtain ⟨hx, hb, hts, hown, hml, hr, hlk, hK⟩ := id C
  replace hf := Eq.trans j_X3_feed_28_e.symm hf
  refine lv_iload_n hx hb dX3_feed_28 rfl (lv_at hl 2 rfl) ?_
  refine wq_if_eq (tgt := 38) hx hb dX3_feed_29 (by decide) hf (fun hf => ?_) (fun hf => ?_)
  · refine lv_aload_n hx hb dX3_feed_38 rfl (lv_at hl 0 rfl) ?_
    refine gf_X3_letters  hx hb hts hown hK hM tw_119 dX3_feed_39 ?_
    refine lv_iload_n hx hb dX3_feed_42 rfl (lv_at hl 1 rfl) ?_
    refine wt_callVv (As := [.int x1]) (rest := []) hx hb hml hts hown hK hM wt_rc_X1 cw_X3_95 hd_X1_add rfl ⟨qz_b rfl, qz_b rfl⟩ ⟨rfl, rfl⟩ hl.1 rfl (qz_b rfl) dX3_feed_43 hf (fun _ _ h9 => c_X1_add h9) (fun r1 s2 H locs hf hM => ?_)
    refine lv_aload_n hx hb dX3_feed_46 rfl (lv_at hl 0 rfl) ?_
    refine gf_X3_letters  hx hb hts hown hK hM tw_119 dX3_feed_47 ?_
    refine gf_X1_size  hx hb hts hown hK hM tw_107 dX3_feed_50 ?_
    exact wt_iret hx hb hr hlk hK hM hf dX3_feed_53
  refine lv_aload_n hx hb dX3_feed_32 rfl (lv_at hl 0 rfl) ?_
  refine lv_iload_n hx hb dX3_feed_33 rfl (lv_at hl 2 rfl) ?_
  refine wt_callVi (As := [.int x2]) (rest := []) hx hb hml hts hown hK hM wt_rc_X3 cw_X3_61 hd_X3_refuse rfl ⟨qz_b rfl, qz_b rfl⟩ ⟨rfl, rfl⟩ hl.1 rfl (qz_b rfl) dX3_feed_34 hf (fun _ _ h9 => c_X3_refuse h9) (fun r3 s4 H locs hf hM => ?_)
  exact wt_iret hx hb hr hlk hK hM hf dX3_feed_37
set_option maxHeartbeats 4000000 in
set_option maxRecDepth 100000 in
theorem w_X3_feed_0 (C : wt_C p s m args meth c RX3 cX3_feed 3 (some .int) D tI tII) {F : Nat} {x1 : Int32} {σ : Mem} {r : Int32} {σ' : Mem} {H : Heap} {locs : List Loc} {ls : Array Slot} (hf : f_X3_feed F x1 σ = some (r, σ')) (hM : wt_St D tI tII B σ s H locs) (hl : lv_has ls 3 [(0, .ref (B + 0)), (1, .int x1)]) : W p l e rm_X3_feed s m args below meth c H locs 0 0 (MQ below (wt_Qi D tI tII B r σ') args s 0 0 (fun q => B ≤ q)) (F0 m 0 ls []) := by
  obtain ⟨hx, hb, hts, hown, hml, hr, hlk, hK⟩ := id C
  replace hf := Eq.trans f_X3_feed_e.symm hf
  refine lv_iload_n hx hb dX3_feed_0 rfl (lv_at hl 1 rfl) ?_
  refine lv_iconst (v := 0) hx hb dX3_feed_1 (by decide) ?_
  refine lv_sipush (v := 255) hx hb dX3_feed_2 (by decide) ?_
  refine wt_callSi (As := [.int x1, .int (0 : Int32), .int (255 : Int32)]) (rest := []) hx hb hml hts hown hK hM cw_X3_81 hd_X3_outside rfl ⟨qz_b rfl, qz_b rfl⟩ ⟨rfl, rfl⟩ hl.1 rfl (qz_b rfl) dX3_feed_5 hf (fun _ _ h9 => c_X3_outside h9) (fun r5 s6 H locs hf hM => ?_)
  refine lv_istore_n (lv' := [(2, .int r5), (0, .ref (B + 0)), (1, .int x1)]) hx hb dX3_feed_8 rfl hl (by decide) rfl (fun ls hl => ?_)
  refine lv_iload_n hx hb dX3_feed_9 rfl (lv_at hl 0 rfl) ?_
  refine wq_if_ne (tgt := 28) hx hb dX3_feed_10 (by decide) hf (fun hf => ?_) (fun hf => ?_)
  · exact w_X3_feed_28 C hf hM (lv_sub hl [1, 2, 0] rfl)
  refine lv_aload_n hx hb dX3_feed_13 rfl (lv_at hl 1 rfl) ?_
  refine gf_X3_letters  hx hb hts hown hK hM tw_119 dX3_feed_14 ?_
  refine gf_X1_size  hx hb hts hown hK hM tw_107 dX3_feed_17 ?_
  refine lv_bipush (v := 96) hx hb dX3_feed_20 (by decide) ?_
  refine wq_icmp_lt (tgt := 28) hx hb dX3_feed_22 (by decide) hf (fun hf => ?_) (fun hf => ?_)
  · exact w_X3_feed_28 C hf hM (lv_sub hl [1, 2, 0] rfl)
  refine lv_bipush (v := -6) hx hb dX3_feed_25 (by decide) ?_
  refine lv_istore_n (lv' := [(2, .int (-6 : Int32)), (0, .ref (B + 0)), (1, .int x1)]) hx hb dX3_feed_27 rfl hl (by decide) rfl (fun ls hl => ?_)
  exact w_X3_feed_28 C hf hM (lv_sub hl [1, 2, 0] rfl)
end
set_option maxHeartbeats 4000000 in
set_option maxRecDepth 100000 in
theorem c_X3_feed {l : Launch} {D : va_G} {tI tII : ClassId} {B F : Nat} {x1 : Int32} {σ σ' : Mem} {r : Int32} (hf : f_X3_feed F x1 σ = some (r, σ')) : wt_Mi l yX3_feed cX3_feed 3 (some .int) rm_X3_feed [.ref (B + 0), .int x1] D tI tII B σ r σ' := by
  refine Met.ofW (cc := cX3_feed) (maxL := 3) (ret := (some .int)) (by decide) rfl ?_
  intro p e s m args below meth c s₁ B9 hml hv
  obtain ⟨rfl, hP, hK⟩ := hv
  have hl := lv_entry ([.ref (B + 0), .int x1]) (n := 3) (qz_b rfl)
  rw [lg_entry_eq]
  generalize (lg_sl ([.ref (B + 0), .int x1]) ++ List.replicate (3 - (lg_sl ([.ref (B + 0), .int x1])).length) Slot.unset).toArray = ls at hl ⊢
  exact w_X3_feed_0 (wt_C_of B9 hml hK) hf ⟨hP, va_S.rf⟩ hl
section
variable {p : Program} {l : Launch} {e : Env} {s : State} {m : MethodId} {args : Array Value} {below : List Frame} {meth : Method} {c : Code} {D : va_G} {tI tII : ClassId} {B : Nat}
set_option maxHeartbeats 4000000 in
set_option maxRecDepth 100000 in
theorem w_X3_tellTerrace_91 (C : wt_C p s m args meth c RX3 cX3_tellTerrace 4 (some .int) D tI tII) {F : Nat} {x2 : Int32} {σ : Mem} {r : Int32} {σ' : Mem} {H : Heap} {locs : List Loc} {ls : Array Slot} (hf : j_X3_tellTerrace_91 F x2 σ = some (r, σ')) (hM : wt_St D tI tII B σ s H locs) (hl : lv_has ls 4 [(0, .ref (B + 0)), (2, .int x2)]) : W p l e rm_X3_tellTerrace s m args below meth c H locs 0 0 (MQ below (wt_Qi D tI tII B r σ') args s 0 0 (fun q => B ≤ q)) (F0 m 91 ls []) := by
  obtain ⟨hx, hb, hts, hown, hml, hr, hlk, hK⟩ := id C
  replace hf := Eq.trans j_X3_tellTerrace_91_e.symm hf
  refine lv_aload_n hx hb dX3_tellTerrace_91 rfl (lv_at hl 0 rfl) ?_
  refine gf_X3_house  hx hb hts hown hK hM tw_114 dX3_tellTerrace_92 ?_
  refine lv_aload_n hx hb dX3_tellTerrace_95 rfl (lv_at hl 0 rfl) ?_
  refine gf_X3_mind  hx hb hts hown hK hM tw_115 dX3_tellTerrace_96 ?_
  refine wt_callVv (As := [.ref (B + 24)]) (rest := []) hx hb hml hts hown hK hM (wt_rc_X0 wt_h1) cw_X3_106 hd_X0_takeFrom rfl ⟨qz_b rfl, qz_b rfl⟩ ⟨rfl, rfl⟩ hl.1 rfl (qz_b rfl) dX3_tellTerrace_99 hf (fun _ _ h9 => c_X0_takeFrom wt_h1 wt_h24 h9) (fun r1 s2 H locs hf hM => ?_)
  refine lv_aload_n hx hb dX3_tellTerrace_102 rfl (lv_at hl 0 rfl) ?_
  refine gf_X3_steps  hx hb hts hown hK hM tw_118 dX3_tellTerrace_103 ?_
  refine wt_callVv (As := []) (rest := []) hx hb hml hts hown hK hM wt_rc_X2 cw_X3_117 hd_X2_forget rfl ⟨qz_b rfl, qz_b rfl⟩ ⟨rfl, rfl⟩ hl.1 rfl (qz_b rfl) dX3_tellTerrace_106 hf (fun _ _ h9 => c_X2_forget h9) (fun r3 s4 H locs hf hM => ?_)
  refine lv_iload_n hx hb dX3_tellTerrace_109 rfl (lv_at hl 1 rfl) ?_
  exact wt_iret hx hb hr hlk hK hM hf dX3_tellTerrace_110
set_option maxHeartbeats 4000000 in
set_option maxRecDepth 100000 in
theorem w_X3_tellTerrace_35 (C : wt_C p s m args meth c RX3 cX3_tellTerrace 4 (some .int) D tI tII) {F : Nat} {r : Int32} {σ' : Mem} : ∀ (N : Nat) (x1 : Int32) (x2 : Int32) (x3 : Int32) (σ : Mem) (H : Heap) (locs : List Loc) (ls : Array Slot), lp_X3_tellTerrace_35 F N x1 x2 x3 σ = some (r, σ') → wt_St D tI tII B σ s H locs → lv_has ls 4 [(0, .ref (B + 0)), (1, .int x1), (2, .int x2), (3, .int x3)] → W p l e rm_X3_tellTerrace s m args below meth c H locs 0 0 (MQ below (wt_Qi D tI tII B r σ') args s 0 0 (fun q => B ≤ q)) (F0 m 35 ls []) := by
  obtain ⟨hx, hb, hts, hown, hml, hr, hlk, hK⟩ := id C
  intro N
  induction N with
  | zero => intro x1 x2 x3 σ H locs ls hf; exact wt_none (show (none : Option (Int32 × Mem)) = some (r, σ') from hf)
  | succ N ih =>
    intro x1 x2 x3 σ H locs ls hf hM hl
    replace hf := Eq.trans lp_X3_tellTerrace_35_s.symm hf
    refine lv_iload_n hx hb dX3_tellTerrace_35 rfl (lv_at hl 3 rfl) ?_
    refine lv_bipush (v := 96) hx hb dX3_tellTerrace_36 (by decide) ?_
    refine wq_icmp_ge (tgt := 91) hx hb dX3_tellTerrace_38 (by decide) hf (fun hf => ?_) (fun hf => ?_)
    · exact w_X3_tellTerrace_91 C hf hM (lv_sub hl [0, 2] rfl)
    refine lv_iload_n hx hb dX3_tellTerrace_41 rfl (lv_at hl 1 rfl) ?_
    refine lv_aload_n hx hb dX3_tellTerrace_42 rfl (lv_at hl 0 rfl) ?_
    refine gf_X3_letters  hx hb hts hown hK hM tw_119 dX3_tellTerrace_43 ?_
    refine gf_X1_size  hx hb hts hown hK hM tw_107 dX3_tellTerrace_46 ?_
    refine wq_icmp_ge (tgt := 91) hx hb dX3_tellTerrace_49 (by decide) hf (fun hf => ?_) (fun hf => ?_)
    · exact w_X3_tellTerrace_91 C hf hM (lv_sub hl [0, 2] rfl)
    refine lv_aload_n hx hb dX3_tellTerrace_52 rfl (lv_at hl 0 rfl) ?_
    refine gf_X3_letters  hx hb hts hown hK hM tw_119 dX3_tellTerrace_53 ?_
    refine lv_aload_n hx hb dX3_tellTerrace_56 rfl (lv_at hl 0 rfl) ?_
    refine gf_X3_mind  hx hb hts hown hK hM tw_115 dX3_tellTerrace_57 ?_
    refine lv_iload_n hx hb dX3_tellTerrace_60 rfl (lv_at hl 1 rfl) ?_
    refine wt_callVi (As := [.ref (B + 24), .int x1]) (rest := []) hx hb hml hts hown hK hM wt_rc_X1 cw_X3_110 hd_X1_tell rfl ⟨qz_b rfl, qz_b rfl⟩ ⟨rfl, rfl⟩ hl.1 rfl (qz_b rfl) dX3_tellTerrace_61 hf (fun _ _ h9 => c_X1_tell wt_h24 h9) (fun r5 s6 H locs hf hM => ?_)
    refine wq_if_ne (tgt := 73) hx hb dX3_tellTerrace_64 (by decide) hf (fun hf => ?_) (fun hf => ?_)
    · refine lv_iinc (v := (x2 + (1 : Int32))) (lv' := [(2, .int (x2 + (1 : Int32))), (0, .ref (B + 0)), (1, .int x1), (3, .int x3)]) hx hb dX3_tellTerrace_73 hl (k := 2) rfl rfl (by decide) rfl (fun ls hl => ?_)
      refine lv_aload_n hx hb dX3_tellTerrace_76 rfl (lv_at hl 1 rfl) ?_
      refine gf_X3_letters  hx hb hts hown hK hM tw_119 dX3_tellTerrace_77 ?_
      refine lv_iload_n hx hb dX3_tellTerrace_80 rfl (lv_at hl 2 rfl) ?_
      refine wt_callVi (As := [.int x1]) (rest := []) hx hb hml hts hown hK hM wt_rc_X1 cw_X3_114 hd_X1_behind rfl ⟨qz_b rfl, qz_b rfl⟩ ⟨rfl, rfl⟩ hl.1 rfl (qz_b rfl) dX3_tellTerrace_81 hf (fun _ _ h9 => c_X1_behind h9) (fun r7 s8 H locs hf hM => ?_)
      refine lv_istore_n (lv' := [(1, .int r7), (2, .int (x2 + (1 : Int32))), (0, .ref (B + 0)), (3, .int x3)]) hx hb dX3_tellTerrace_84 rfl hl (by decide) rfl (fun ls hl => ?_)
      refine lv_iinc (v := (x3 + (1 : Int32))) (lv' := [(3, .int (x3 + (1 : Int32))), (1, .int r7), (2, .int (x2 + (1 : Int32))), (0, .ref (B + 0))]) hx hb dX3_tellTerrace_85 hl (k := 3) rfl rfl (by decide) rfl (fun ls hl => ?_)
      refine lv_goto (tgt := 35) hx hb dX3_tellTerrace_88 (by decide) ?_
      exact ih _ _ _ _ _ _ _ hf hM (lv_sub hl [3, 1, 2, 0] rfl)
    refine lv_sipush (v := -2000) hx hb dX3_tellTerrace_67 (by decide) ?_
    refine lv_iload_n hx hb dX3_tellTerrace_70 rfl (lv_at hl 1 rfl) ?_
    refine lv_isub hx hb dX3_tellTerrace_71 ?_
    exact wt_iret hx hb hr hlk hK hM hf dX3_tellTerrace_72
set_option maxHeartbeats 4000000 in
set_option maxRecDepth 100000 in
theorem w_X3_tellTerrace_0 (C : wt_C p s m args meth c RX3 cX3_tellTerrace 4 (some .int) D tI tII) {F : Nat} {σ : Mem} {r : Int32} {σ' : Mem} {H : Heap} {locs : List Loc} {ls : Array Slot} (hf : f_X3_tellTerrace F σ = some (r, σ')) (hM : wt_St D tI tII B σ s H locs) (hl : lv_has ls 4 [(0, .ref (B + 0))]) : W p l e rm_X3_tellTerrace s m args below meth c H locs 0 0 (MQ below (wt_Qi D tI tII B r σ') args s 0 0 (fun q => B ≤ q)) (F0 m 0 ls []) := by
  obtain ⟨hx, hb, hts, hown, hml, hr, hlk, hK⟩ := id C
  replace hf := Eq.trans f_X3_tellTerrace_e.symm hf
  refine lv_aload_n hx hb dX3_tellTerrace_0 rfl (lv_at hl 0 rfl) ?_
  refine gf_X3_letters  hx hb hts hown hK hM tw_119 dX3_tellTerrace_1 ?_
  refine wt_callVi (As := []) (rest := []) hx hb hml hts hown hK hM wt_rc_X1 cw_X3_103 hd_X1_faultOfForm rfl ⟨qz_b rfl, qz_b rfl⟩ ⟨rfl, rfl⟩ hl.1 rfl (qz_b rfl) dX3_tellTerrace_4 hf (fun _ _ h9 => c_X1_faultOfForm h9) (fun r9 s10 H locs hf hM => ?_)
  refine lv_istore_n (lv' := [(1, .int r9), (0, .ref (B + 0))]) hx hb dX3_tellTerrace_7 rfl hl (by decide) rfl (fun ls hl => ?_)
  refine lv_iload_n hx hb dX3_tellTerrace_8 rfl (lv_at hl 0 rfl) ?_
  refine wq_if_lt (tgt := 18) hx hb dX3_tellTerrace_9 (by decide) hf (fun hf => ?_) (fun hf => ?_)
  · refine lv_aload_n hx hb dX3_tellTerrace_18 rfl (lv_at hl 1 rfl) ?_
    refine gf_X3_mind  hx hb hts hown hK hM tw_115 dX3_tellTerrace_19 ?_
    refine lv_aload_n hx hb dX3_tellTerrace_22 rfl (lv_at hl 1 rfl) ?_
    refine gf_X3_house  hx hb hts hown hK hM tw_114 dX3_tellTerrace_23 ?_
    refine wt_callVv (As := [.ref (B + 1)]) (rest := []) hx hb hml hts hown hK hM (wt_rc_X0 wt_h24) cw_X3_106 hd_X0_takeFrom rfl ⟨qz_b rfl, qz_b rfl⟩ ⟨rfl, rfl⟩ hl.1 rfl (qz_b rfl) dX3_tellTerrace_26 hf (fun _ _ h9 => c_X0_takeFrom wt_h24 wt_h1 h9) (fun r11 s12 H locs hf hM => ?_)
    refine lv_iconst (v := 0) hx hb dX3_tellTerrace_29 (by decide) ?_
    refine lv_istore_n (lv' := [(2, .int (0 : Int32)), (1, .int r9), (0, .ref (B + 0))]) hx hb dX3_tellTerrace_30 rfl hl (by decide) rfl (fun ls hl => ?_)
    refine lv_iconst (v := 0) hx hb dX3_tellTerrace_31 (by decide) ?_
    refine lv_istore_n (lv' := [(1, .int (0 : Int32)), (2, .int (0 : Int32)), (0, .ref (B + 0))]) hx hb dX3_tellTerrace_32 rfl hl (by decide) rfl (fun ls hl => ?_)
    refine lv_iconst (v := 0) hx hb dX3_tellTerrace_33 (by decide) ?_
    refine lv_istore_n (lv' := [(3, .int (0 : Int32)), (1, .int (0 : Int32)), (2, .int (0 : Int32)), (0, .ref (B + 0))]) hx hb dX3_tellTerrace_34 rfl hl (by decide) rfl (fun ls hl => ?_)
    exact w_X3_tellTerrace_35 C _ _ _ _ _ _ _ _ hf hM (lv_sub hl [3, 1, 2, 0] rfl)
  refine lv_sipush (v := -1000) hx hb dX3_tellTerrace_12 (by decide) ?_
  refine lv_iload_n hx hb dX3_tellTerrace_15 rfl (lv_at hl 0 rfl) ?_
  refine lv_isub hx hb dX3_tellTerrace_16 ?_
  exact wt_iret hx hb hr hlk hK hM hf dX3_tellTerrace_17
end
set_option maxHeartbeats 4000000 in
set_option maxRecDepth 100000 in
theorem c_X3_tellTerrace {l : Launch} {D : va_G} {tI tII : ClassId} {B F : Nat} {σ σ' : Mem} {r : Int32} (hf : f_X3_tellTerrace F σ = some (r, σ')) : wt_Mi l yX3_tellTerrace cX3_tellTerrace 4 (some .int) rm_X3_tellTerrace [.ref (B + 0)] D tI tII B σ r σ' := by
  refine Met.ofW (cc := cX3_tellTerrace) (maxL := 4) (ret := (some .int)) (by decide) rfl ?_
  intro p e s m args below meth c s₁ B9 hml hv
  obtain ⟨rfl, hP, hK⟩ := hv
  have hl := lv_entry ([.ref (B + 0)]) (n := 4) (qz_b rfl)
  rw [lg_entry_eq]
  generalize (lg_sl ([.ref (B + 0)]) ++ List.replicate (4 - (lg_sl ([.ref (B + 0)])).length) Slot.unset).toArray = ls at hl ⊢
  exact w_X3_tellTerrace_0 (wt_C_of B9 hml hK) hf ⟨hP, va_S.rf⟩ hl
section
variable {p : Program} {l : Launch} {e : Env} {s : State} {m : MethodId} {args : Array Value} {below : List Frame} {meth : Method} {c : Code} {D : va_G} {tI tII : ClassId} {B : Nat}
set_option maxHeartbeats 4000000 in
set_option maxRecDepth 100000 in
theorem w_X3_terrace_0 (C : wt_C p s m args meth c RX3 cX3_terrace 2 (some .int) D tI tII) {F : Nat} {σ : Mem} {r : Int32} {σ' : Mem} {H : Heap} {locs : List Loc} {ls : Array Slot} (hf : f_X3_terrace F σ = some (r, σ')) (hM : wt_St D tI tII B σ s H locs) (hl : lv_has ls 2 [(0, .ref (B + 0))]) : W p l e rm_X3_terrace s m args below meth c H locs 0 0 (MQ below (wt_Qi D tI tII B r σ') args s 0 0 (fun q => B ≤ q)) (F0 m 0 ls []) := by
  obtain ⟨hx, hb, hts, hown, hml, hr, hlk, hK⟩ := id C
  replace hf := Eq.trans f_X3_terrace_e.symm hf
  refine lv_aload_n hx hb dX3_terrace_0 rfl (lv_at hl 0 rfl) ?_
  refine wt_callVi (As := []) (rest := []) hx hb hml hts hown hK hM wt_rc_X3 cw_X3_99 hd_X3_tellTerrace rfl ⟨qz_b rfl, qz_b rfl⟩ ⟨rfl, rfl⟩ hl.1 rfl (qz_b rfl) dX3_terrace_1 hf (fun _ _ h9 => c_X3_tellTerrace h9) (fun r1 s2 H locs hf hM => ?_)
  refine lv_istore_n (lv' := [(1, .int r1), (0, .ref (B + 0))]) hx hb dX3_terrace_4 rfl hl (by decide) rfl (fun ls hl => ?_)
  refine lv_aload_n hx hb dX3_terrace_5 rfl (lv_at hl 1 rfl) ?_
  refine gf_X3_letters  hx hb hts hown hK hM tw_119 dX3_terrace_6 ?_
  refine lv_iconst (v := 0) hx hb dX3_terrace_9 (by decide) ?_
  refine pf_X1_size  hx hb hts hown hK hM tw_107 dX3_terrace_10 hf (fun s3 H locs hf hM => ?_)
  refine lv_iload_n hx hb dX3_terrace_13 rfl (lv_at hl 0 rfl) ?_
  exact wt_iret hx hb hr hlk hK hM hf dX3_terrace_14
end
set_option maxHeartbeats 4000000 in
set_option maxRecDepth 100000 in
theorem c_X3_terrace {l : Launch} {D : va_G} {tI tII : ClassId} {B F : Nat} {σ σ' : Mem} {r : Int32} (hf : f_X3_terrace F σ = some (r, σ')) : wt_Mi l yX3_terrace cX3_terrace 2 (some .int) rm_X3_terrace [.ref (B + 0)] D tI tII B σ r σ' := by
  refine Met.ofW (cc := cX3_terrace) (maxL := 2) (ret := (some .int)) (by decide) rfl ?_
  intro p e s m args below meth c s₁ B9 hml hv
  obtain ⟨rfl, hP, hK⟩ := hv
  have hl := lv_entry ([.ref (B + 0)]) (n := 2) (qz_b rfl)
  rw [lg_entry_eq]
  generalize (lg_sl ([.ref (B + 0)]) ++ List.replicate (2 - (lg_sl ([.ref (B + 0)])).length) Slot.unset).toArray = ls at hl ⊢
  exact w_X3_terrace_0 (wt_C_of B9 hml hK) hf ⟨hP, va_S.rf⟩ hl
section
variable {p : Program} {l : Launch} {e : Env} {s : State} {m : MethodId} {args : Array Value} {below : List Frame} {meth : Method} {c : Code} {D : va_G} {tI tII : ClassId} {B : Nat}
set_option maxHeartbeats 4000000 in
set_option maxRecDepth 100000 in
theorem w_X3_paneOf_0 (C : wt_C p s m args meth c RX3 cX3_paneOf 4 (some .int) D tI tII) {F : Nat} {x1 : Int32} {x2 : Int32} {σ : Mem} {r : Int32} {σ' : Mem} {H : Heap} {locs : List Loc} {ls : Array Slot} (hf : f_X3_paneOf F x1 x2 σ = some (r, σ')) (hM : wt_St D tI tII B σ s H locs) (hl : lv_has ls 4 [(0, .ref (B + 0)), (1, .int x1), (2, .int x2)]) : W p l e rm_X3_paneOf s m args below meth c H locs 0 0 (MQ below (wt_Qi D tI tII B r σ') args s 0 0 (fun q => B ≤ q)) (F0 m 0 ls []) := by
  obtain ⟨hx, hb, hts, hown, hml, hr, hlk, hK⟩ := id C
  replace hf := Eq.trans f_X3_paneOf_e.symm hf
  refine lv_aload_n hx hb dX3_paneOf_0 rfl (lv_at hl 0 rfl) ?_
  refine lv_iload_n hx hb dX3_paneOf_1 rfl (lv_at hl 1 rfl) ?_
  refine wt_callVi (As := [.int x1]) (rest := []) hx hb hml hts hown hK hM wt_rc_X3 cw_X3_120 hd_X3_noPane rfl ⟨qz_b rfl, qz_b rfl⟩ ⟨rfl, rfl⟩ hl.1 rfl (qz_b rfl) dX3_paneOf_2 hf (fun _ _ h9 => c_X3_noPane h9) (fun r1 s2 H locs hf hM => ?_)
  refine lv_iload_n hx hb dX3_paneOf_5 rfl (lv_at hl 2 rfl) ?_
  refine lv_iconst (v := 2) hx hb dX3_paneOf_6 (by decide) ?_
  refine wt_callSi (As := [.int x2, .int (2 : Int32)]) (rest := [.int r1]) hx hb hml hts hown hK hM cw_X3_123 hd_X3_notBelow rfl ⟨qz_b rfl, qz_b rfl⟩ ⟨rfl, rfl⟩ hl.1 rfl (qz_b rfl) dX3_paneOf_7 hf (fun _ _ h9 => c_X3_notBelow h9) (fun r3 s4 H locs hf hM => ?_)
  refine wt_callSi (As := [.int r1, .int r3]) (rest := []) hx hb hml hts hown hK hM cw_X3_85 hd_X3_firstOf rfl ⟨qz_b rfl, qz_b rfl⟩ ⟨rfl, rfl⟩ hl.1 rfl (qz_b rfl) dX3_paneOf_10 hf (fun _ _ h9 => c_X3_firstOf h9) (fun r5 s6 H locs hf hM => ?_)
  refine lv_istore_n (lv' := [(3, .int r5), (0, .ref (B + 0)), (1, .int x1), (2, .int x2)]) hx hb dX3_paneOf_13 rfl hl (by decide) rfl (fun ls hl => ?_)
  refine lv_iload_n hx hb dX3_paneOf_14 rfl (lv_at hl 0 rfl) ?_
  refine wq_if_eq (tgt := 24) hx hb dX3_paneOf_15 (by decide) hf (fun hf => ?_) (fun hf => ?_)
  · refine lv_iload_n hx hb dX3_paneOf_24 rfl (lv_at hl 3 rfl) ?_
    refine wq_if_ne (tgt := 40) hx hb dX3_paneOf_25 (by decide) hf (fun hf => ?_) (fun hf => ?_)
    · refine lv_aload_n hx hb dX3_paneOf_40 rfl (lv_at hl 1 rfl) ?_
      refine gf_X3_house  hx hb hts hown hK hM tw_114 dX3_paneOf_41 ?_
      refine lv_iload_n hx hb dX3_paneOf_44 rfl (lv_at hl 2 rfl) ?_
      refine wt_callVi (As := [.int x1]) (rest := []) hx hb hml hts hown hK hM (wt_rc_X0 wt_h1) cw_X3_129 hd_X0_hoursAt rfl ⟨qz_b rfl, qz_b rfl⟩ ⟨rfl, rfl⟩ hl.1 rfl (qz_b rfl) dX3_paneOf_45 hf (fun _ _ h9 => c_X0_hoursAt wt_h1 h9) (fun r7 s8 H locs hf hM => ?_)
      exact wt_iret hx hb hr hlk hK hM hf dX3_paneOf_48
    refine lv_aload_n hx hb dX3_paneOf_28 rfl (lv_at hl 1 rfl) ?_
    refine gf_X3_house  hx hb hts hown hK hM tw_114 dX3_paneOf_29 ?_
    refine gf_X0_paneViews wt_h1 hx hb hts hown hK hM tw_29 dX3_paneOf_32 ?_
    refine lv_iload_n hx hb dX3_paneOf_35 rfl (lv_at hl 2 rfl) ?_
    obtain ⟨i9, hf⟩ := wt_chk_of hf
    refine wt_ild hx hb hK hM (wt_aH_1 wt_h1) i9 dX3_paneOf_36 ?_
    refine lv_goto (tgt := 48) hx hb dX3_paneOf_37 (by decide) ?_
    exact wt_iret hx hb hr hlk hK hM hf dX3_paneOf_48
  refine lv_aload_n hx hb dX3_paneOf_18 rfl (lv_at hl 1 rfl) ?_
  refine lv_iload_n hx hb dX3_paneOf_19 rfl (lv_at hl 0 rfl) ?_
  refine wt_callVi (As := [.int r5]) (rest := []) hx hb hml hts hown hK hM wt_rc_X3 cw_X3_61 hd_X3_refuse rfl ⟨qz_b rfl, qz_b rfl⟩ ⟨rfl, rfl⟩ hl.1 rfl (qz_b rfl) dX3_paneOf_20 hf (fun _ _ h9 => c_X3_refuse h9) (fun r10 s11 H locs hf hM => ?_)
  exact wt_iret hx hb hr hlk hK hM hf dX3_paneOf_23
end
set_option maxHeartbeats 4000000 in
set_option maxRecDepth 100000 in
theorem c_X3_paneOf {l : Launch} {D : va_G} {tI tII : ClassId} {B F : Nat} {x1 : Int32} {x2 : Int32} {σ σ' : Mem} {r : Int32} (hf : f_X3_paneOf F x1 x2 σ = some (r, σ')) : wt_Mi l yX3_paneOf cX3_paneOf 4 (some .int) rm_X3_paneOf [.ref (B + 0), .int x1, .int x2] D tI tII B σ r σ' := by
  refine Met.ofW (cc := cX3_paneOf) (maxL := 4) (ret := (some .int)) (by decide) rfl ?_
  intro p e s m args below meth c s₁ B9 hml hv
  obtain ⟨rfl, hP, hK⟩ := hv
  have hl := lv_entry ([.ref (B + 0), .int x1, .int x2]) (n := 4) (qz_b rfl)
  rw [lg_entry_eq]
  generalize (lg_sl ([.ref (B + 0), .int x1, .int x2]) ++ List.replicate (4 - (lg_sl ([.ref (B + 0), .int x1, .int x2])).length) Slot.unset).toArray = ls at hl ⊢
  exact w_X3_paneOf_0 (wt_C_of B9 hml hK) hf ⟨hP, va_S.rf⟩ hl
section
variable {p : Program} {l : Launch} {e : Env} {s : State} {m : MethodId} {args : Array Value} {below : List Frame} {meth : Method} {c : Code} {D : va_G} {tI tII : ClassId} {B : Nat}
set_option maxHeartbeats 4000000 in
set_option maxRecDepth 100000 in
theorem w_X3_lookerOf_0 (C : wt_C p s m args meth c RX3 cX3_lookerOf 4 (some .int) D tI tII) {F : Nat} {x1 : Int32} {x2 : Int32} {σ : Mem} {r : Int32} {σ' : Mem} {H : Heap} {locs : List Loc} {ls : Array Slot} (hf : f_X3_lookerOf F x1 x2 σ = some (r, σ')) (hM : wt_St D tI tII B σ s H locs) (hl : lv_has ls 4 [(0, .ref (B + 0)), (1, .int x1), (2, .int x2)]) : W p l e rm_X3_lookerOf s m args below meth c H locs 0 0 (MQ below (wt_Qi D tI tII B r σ') args s 0 0 (fun q => B ≤ q)) (F0 m 0 ls []) := by
  obtain ⟨hx, hb, hts, hown, hml, hr, hlk, hK⟩ := id C
  replace hf := Eq.trans f_X3_lookerOf_e.symm hf
  refine lv_aload_n hx hb dX3_lookerOf_0 rfl (lv_at hl 0 rfl) ?_
  refine lv_iload_n hx hb dX3_lookerOf_1 rfl (lv_at hl 1 rfl) ?_
  refine wt_callVi (As := [.int x1]) (rest := []) hx hb hml hts hown hK hM wt_rc_X3 cw_X3_78 hd_X3_noLooker rfl ⟨qz_b rfl, qz_b rfl⟩ ⟨rfl, rfl⟩ hl.1 rfl (qz_b rfl) dX3_lookerOf_2 hf (fun _ _ h9 => c_X3_noLooker h9) (fun r1 s2 H locs hf hM => ?_)
  refine lv_iload_n hx hb dX3_lookerOf_5 rfl (lv_at hl 2 rfl) ?_
  refine lv_iconst (v := 4) hx hb dX3_lookerOf_6 (by decide) ?_
  refine wt_callSi (As := [.int x2, .int (4 : Int32)]) (rest := [.int r1]) hx hb hml hts hown hK hM cw_X3_123 hd_X3_notBelow rfl ⟨qz_b rfl, qz_b rfl⟩ ⟨rfl, rfl⟩ hl.1 rfl (qz_b rfl) dX3_lookerOf_7 hf (fun _ _ h9 => c_X3_notBelow h9) (fun r3 s4 H locs hf hM => ?_)
  refine wt_callSi (As := [.int r1, .int r3]) (rest := []) hx hb hml hts hown hK hM cw_X3_85 hd_X3_firstOf rfl ⟨qz_b rfl, qz_b rfl⟩ ⟨rfl, rfl⟩ hl.1 rfl (qz_b rfl) dX3_lookerOf_10 hf (fun _ _ h9 => c_X3_firstOf h9) (fun r5 s6 H locs hf hM => ?_)
  refine lv_istore_n (lv' := [(3, .int r5), (0, .ref (B + 0)), (1, .int x1), (2, .int x2)]) hx hb dX3_lookerOf_13 rfl hl (by decide) rfl (fun ls hl => ?_)
  refine lv_iload_n hx hb dX3_lookerOf_14 rfl (lv_at hl 0 rfl) ?_
  refine wq_if_eq (tgt := 24) hx hb dX3_lookerOf_15 (by decide) hf (fun hf => ?_) (fun hf => ?_)
  · refine lv_iload_n hx hb dX3_lookerOf_24 rfl (lv_at hl 3 rfl) ?_
    refine wq_key hf (fun e9 hf => ?_) (fun n7_0 hf => ?_)
    · refine lv_tableIn (off := 27) (tgt := 52) hx hb dX3_lookerOf_25 (by rw [e9]; decide) (by rw [e9]; decide) (by rw [e9]; rfl) (by decide) ?_
      refine lv_aload_n hx hb dX3_lookerOf_52 rfl (lv_at hl 1 rfl) ?_
      refine gf_X3_house  hx hb hts hown hK hM tw_114 dX3_lookerOf_53 ?_
      refine gf_X0_kinds wt_h1 hx hb hts hown hK hM tw_33 dX3_lookerOf_56 ?_
      refine lv_iload_n hx hb dX3_lookerOf_59 rfl (lv_at hl 2 rfl) ?_
      obtain ⟨i8, hf⟩ := wt_chk_of hf
      refine wt_ild hx hb hK hM (wt_aH_2 wt_h1) i8 dX3_lookerOf_60 ?_
      exact wt_iret hx hb hr hlk hK hM hf dX3_lookerOf_61
    refine wq_key hf (fun e9 hf => ?_) (fun n7_1 hf => ?_)
    · refine lv_tableIn (off := 37) (tgt := 62) hx hb dX3_lookerOf_25 (by rw [e9]; decide) (by rw [e9]; decide) (by rw [e9]; rfl) (by decide) ?_
      refine lv_aload_n hx hb dX3_lookerOf_62 rfl (lv_at hl 1 rfl) ?_
      refine gf_X3_house  hx hb hts hown hK hM tw_114 dX3_lookerOf_63 ?_
      refine gf_X0_figures wt_h1 hx hb hts hown hK hM tw_35 dX3_lookerOf_66 ?_
      refine lv_iload_n hx hb dX3_lookerOf_69 rfl (lv_at hl 2 rfl) ?_
      obtain ⟨i9, hf⟩ := wt_chk_of hf
      refine wt_ild hx hb hK hM (wt_aH_3 wt_h1) i9 dX3_lookerOf_70 ?_
      exact wt_iret hx hb hr hlk hK hM hf dX3_lookerOf_71
    refine wq_key hf (fun e9 hf => ?_) (fun n7_2 hf => ?_)
    · refine lv_tableIn (off := 47) (tgt := 72) hx hb dX3_lookerOf_25 (by rw [e9]; decide) (by rw [e9]; decide) (by rw [e9]; rfl) (by decide) ?_
      refine lv_aload_n hx hb dX3_lookerOf_72 rfl (lv_at hl 1 rfl) ?_
      refine gf_X3_house  hx hb hts hown hK hM tw_114 dX3_lookerOf_73 ?_
      refine lv_iload_n hx hb dX3_lookerOf_76 rfl (lv_at hl 2 rfl) ?_
      refine wt_callVi (As := [.int x1]) (rest := []) hx hb hml hts hown hK hM (wt_rc_X0 wt_h1) cw_X3_138 hd_X0_hoursOf rfl ⟨qz_b rfl, qz_b rfl⟩ ⟨rfl, rfl⟩ hl.1 rfl (qz_b rfl) dX3_lookerOf_77 hf (fun _ _ h9 => c_X0_hoursOf wt_h1 h9) (fun r10 s11 H locs hf hM => ?_)
      exact wt_iret hx hb hr hlk hK hM hf dX3_lookerOf_80
    refine wq_tableD (ks := [(0 : Int32), (1 : Int32), (2 : Int32)]) (tgt := 81) hx hb dX3_lookerOf_25 (List.forall_mem_cons.mpr ⟨n7_0, List.forall_mem_cons.mpr ⟨n7_1, List.forall_mem_cons.mpr ⟨n7_2, fun _ h9 => absurd h9 List.not_mem_nil⟩⟩⟩) (by decide) (by decide) ?_
    refine lv_aload_n hx hb dX3_lookerOf_81 rfl (lv_at hl 1 rfl) ?_
    refine gf_X3_house  hx hb hts hown hK hM tw_114 dX3_lookerOf_82 ?_
    refine wt_callVv (As := []) (rest := []) hx hb hml hts hown hK hM (wt_rc_X0 wt_h1) cw_X3_141 hd_X0_reckon rfl ⟨qz_b rfl, qz_b rfl⟩ ⟨rfl, rfl⟩ hl.1 rfl (qz_b rfl) dX3_lookerOf_85 hf (fun _ _ h9 => c_X0_reckon wt_h1 h9) (fun r12 s13 H locs hf hM => ?_)
    refine lv_aload_n hx hb dX3_lookerOf_88 rfl (lv_at hl 1 rfl) ?_
    refine gf_X3_house  hx hb hts hown hK hM tw_114 dX3_lookerOf_89 ?_
    refine lv_iload_n hx hb dX3_lookerOf_92 rfl (lv_at hl 2 rfl) ?_
    refine lv_iconst (v := 0) hx hb dX3_lookerOf_93 (by decide) ?_
    refine wt_callVi (As := [.int x1, .int (0 : Int32)]) (rest := []) hx hb hml hts hown hK hM (wt_rc_X0 wt_h1) cw_X3_144 hd_X0_holdings rfl ⟨qz_b rfl, qz_b rfl⟩ ⟨rfl, rfl⟩ hl.1 rfl (qz_b rfl) dX3_lookerOf_94 hf (fun _ _ h9 => c_X0_holdings wt_h1 h9) (fun r14 s15 H locs hf hM => ?_)
    exact wt_iret hx hb hr hlk hK hM hf dX3_lookerOf_97
  refine lv_aload_n hx hb dX3_lookerOf_18 rfl (lv_at hl 1 rfl) ?_
  refine lv_iload_n hx hb dX3_lookerOf_19 rfl (lv_at hl 0 rfl) ?_
  refine wt_callVi (As := [.int r5]) (rest := []) hx hb hml hts hown hK hM wt_rc_X3 cw_X3_61 hd_X3_refuse rfl ⟨qz_b rfl, qz_b rfl⟩ ⟨rfl, rfl⟩ hl.1 rfl (qz_b rfl) dX3_lookerOf_20 hf (fun _ _ h9 => c_X3_refuse h9) (fun r16 s17 H locs hf hM => ?_)
  exact wt_iret hx hb hr hlk hK hM hf dX3_lookerOf_23
end
set_option maxHeartbeats 4000000 in
set_option maxRecDepth 100000 in
theorem c_X3_lookerOf {l : Launch} {D : va_G} {tI tII : ClassId} {B F : Nat} {x1 : Int32} {x2 : Int32} {σ σ' : Mem} {r : Int32} (hf : f_X3_lookerOf F x1 x2 σ = some (r, σ')) : wt_Mi l yX3_lookerOf cX3_lookerOf 4 (some .int) rm_X3_lookerOf [.ref (B + 0), .int x1, .int x2] D tI tII B σ r σ' := by
  refine Met.ofW (cc := cX3_lookerOf) (maxL := 4) (ret := (some .int)) (by decide) rfl ?_
  intro p e s m args below meth c s₁ B9 hml hv
  obtain ⟨rfl, hP, hK⟩ := hv
  have hl := lv_entry ([.ref (B + 0), .int x1, .int x2]) (n := 4) (qz_b rfl)
  rw [lg_entry_eq]
  generalize (lg_sl ([.ref (B + 0), .int x1, .int x2]) ++ List.replicate (4 - (lg_sl ([.ref (B + 0), .int x1, .int x2])).length) Slot.unset).toArray = ls at hl ⊢
  exact w_X3_lookerOf_0 (wt_C_of B9 hml hK) hf ⟨hP, va_S.rf⟩ hl
section
variable {p : Program} {l : Launch} {e : Env} {s : State} {m : MethodId} {args : Array Value} {below : List Frame} {meth : Method} {c : Code} {D : va_G} {tI tII : ClassId} {B : Nat}
set_option maxHeartbeats 4000000 in
set_option maxRecDepth 100000 in
theorem w_X3_pane_28 (C : wt_C p s m args meth c RX3 cX3_pane 3 (some .int) D tI tII) {F : Nat} {x1 : Int32} {x2 : Int32} {σ : Mem} {r : Int32} {σ' : Mem} {H : Heap} {locs : List Loc} {ls : Array Slot} (hf : j_X3_pane_28 F x1 x2 σ = some (r, σ')) (hM : wt_St D tI tII B σ s H locs) (hl : lv_has ls 3 [(0, .ref (B + 0)), (1, .int x1), (2, .int x2)]) : W p l e rm_X3_pane s m args below meth c H locs 0 0 (MQ below (wt_Qi D tI tII B r σ') args s 0 0 (fun q => B ≤ q)) (F0 m 28 ls []) := by
  obtain ⟨hx, hb, hts, hown, hml, hr, hlk, hK⟩ := id C
  replace hf := Eq.trans j_X3_pane_28_e.symm hf
  refine lv_iload_n hx hb dX3_pane_28 rfl (lv_at hl 2 rfl) ?_
  refine wq_if_eq (tgt := 38) hx hb dX3_pane_29 (by decide) hf (fun hf => ?_) (fun hf => ?_)
  · refine lv_aload_n hx hb dX3_pane_38 rfl (lv_at hl 0 rfl) ?_
    refine gf_X3_house  hx hb hts hown hK hM tw_114 dX3_pane_39 ?_
    refine lv_iload_n hx hb dX3_pane_42 rfl (lv_at hl 1 rfl) ?_
    refine wt_callVi (As := [.int x1]) (rest := []) hx hb hml hts hown hK hM (wt_rc_X0 wt_h1) cw_X3_150 hd_X0_addPane rfl ⟨qz_b rfl, qz_b rfl⟩ ⟨rfl, rfl⟩ hl.1 rfl (qz_b rfl) dX3_pane_43 hf (fun _ _ h9 => c_X0_addPane wt_h1 h9) (fun r1 s2 H locs hf hM => ?_)
    refine lv_pop hx hb dX3_pane_46 rfl ?_
    refine lv_aload_n hx hb dX3_pane_47 rfl (lv_at hl 0 rfl) ?_
    refine gf_X3_steps  hx hb hts hown hK hM tw_118 dX3_pane_48 ?_
    refine wt_callVv (As := []) (rest := []) hx hb hml hts hown hK hM wt_rc_X2 cw_X3_117 hd_X2_forget rfl ⟨qz_b rfl, qz_b rfl⟩ ⟨rfl, rfl⟩ hl.1 rfl (qz_b rfl) dX3_pane_51 hf (fun _ _ h9 => c_X2_forget h9) (fun r3 s4 H locs hf hM => ?_)
    refine lv_aload_n hx hb dX3_pane_54 rfl (lv_at hl 0 rfl) ?_
    refine gf_X3_house  hx hb hts hown hK hM tw_114 dX3_pane_55 ?_
    refine gf_X0_paneCount wt_h1 hx hb hts hown hK hM tw_26 dX3_pane_58 ?_
    refine lv_iconst (v := 1) hx hb dX3_pane_61 (by decide) ?_
    refine lv_isub hx hb dX3_pane_62 ?_
    exact wt_iret hx hb hr hlk hK hM hf dX3_pane_63
  refine lv_aload_n hx hb dX3_pane_32 rfl (lv_at hl 0 rfl) ?_
  refine lv_iload_n hx hb dX3_pane_33 rfl (lv_at hl 2 rfl) ?_
  refine wt_callVi (As := [.int x2]) (rest := []) hx hb hml hts hown hK hM wt_rc_X3 cw_X3_61 hd_X3_refuse rfl ⟨qz_b rfl, qz_b rfl⟩ ⟨rfl, rfl⟩ hl.1 rfl (qz_b rfl) dX3_pane_34 hf (fun _ _ h9 => c_X3_refuse h9) (fun r5 s6 H locs hf hM => ?_)
  exact wt_iret hx hb hr hlk hK hM hf dX3_pane_37
set_option maxHeartbeats 4000000 in
set_option maxRecDepth 100000 in
theorem w_X3_pane_0 (C : wt_C p s m args meth c RX3 cX3_pane 3 (some .int) D tI tII) {F : Nat} {x1 : Int32} {σ : Mem} {r : Int32} {σ' : Mem} {H : Heap} {locs : List Loc} {ls : Array Slot} (hf : f_X3_pane F x1 σ = some (r, σ')) (hM : wt_St D tI tII B σ s H locs) (hl : lv_has ls 3 [(0, .ref (B + 0)), (1, .int x1)]) : W p l e rm_X3_pane s m args below meth c H locs 0 0 (MQ below (wt_Qi D tI tII B r σ') args s 0 0 (fun q => B ≤ q)) (F0 m 0 ls []) := by
  obtain ⟨hx, hb, hts, hown, hml, hr, hlk, hK⟩ := id C
  replace hf := Eq.trans f_X3_pane_e.symm hf
  refine lv_iload_n hx hb dX3_pane_0 rfl (lv_at hl 1 rfl) ?_
  refine lv_iconst (v := 0) hx hb dX3_pane_1 (by decide) ?_
  refine lv_sipush (v := 255) hx hb dX3_pane_2 (by decide) ?_
  refine wt_callSi (As := [.int x1, .int (0 : Int32), .int (255 : Int32)]) (rest := []) hx hb hml hts hown hK hM cw_X3_81 hd_X3_outside rfl ⟨qz_b rfl, qz_b rfl⟩ ⟨rfl, rfl⟩ hl.1 rfl (qz_b rfl) dX3_pane_5 hf (fun _ _ h9 => c_X3_outside h9) (fun r7 s8 H locs hf hM => ?_)
  refine lv_istore_n (lv' := [(2, .int r7), (0, .ref (B + 0)), (1, .int x1)]) hx hb dX3_pane_8 rfl hl (by decide) rfl (fun ls hl => ?_)
  refine lv_iload_n hx hb dX3_pane_9 rfl (lv_at hl 0 rfl) ?_
  refine wq_if_ne (tgt := 28) hx hb dX3_pane_10 (by decide) hf (fun hf => ?_) (fun hf => ?_)
  · exact w_X3_pane_28 C hf hM (lv_sub hl [1, 2, 0] rfl)
  refine lv_aload_n hx hb dX3_pane_13 rfl (lv_at hl 1 rfl) ?_
  refine gf_X3_house  hx hb hts hown hK hM tw_114 dX3_pane_14 ?_
  refine gf_X0_paneCount wt_h1 hx hb hts hown hK hM tw_26 dX3_pane_17 ?_
  refine lv_bipush (v := 6) hx hb dX3_pane_20 (by decide) ?_
  refine wq_icmp_lt (tgt := 28) hx hb dX3_pane_22 (by decide) hf (fun hf => ?_) (fun hf => ?_)
  · exact w_X3_pane_28 C hf hM (lv_sub hl [1, 2, 0] rfl)
  refine lv_bipush (v := -6) hx hb dX3_pane_25 (by decide) ?_
  refine lv_istore_n (lv' := [(2, .int (-6 : Int32)), (0, .ref (B + 0)), (1, .int x1)]) hx hb dX3_pane_27 rfl hl (by decide) rfl (fun ls hl => ?_)
  exact w_X3_pane_28 C hf hM (lv_sub hl [1, 2, 0] rfl)
end
set_option maxHeartbeats 4000000 in
set_option maxRecDepth 100000 in
theorem c_X3_pane {l : Launch} {D : va_G} {tI tII : ClassId} {B F : Nat} {x1 : Int32} {σ σ' : Mem} {r : Int32} (hf : f_X3_pane F x1 σ = some (r, σ')) : wt_Mi l yX3_pane cX3_pane 3 (some .int) rm_X3_pane [.ref (B + 0), .int x1] D tI tII B σ r σ' := by
  refine Met.ofW (cc := cX3_pane) (maxL := 3) (ret := (some .int)) (by decide) rfl ?_
  intro p e s m args below meth c s₁ B9 hml hv
  obtain ⟨rfl, hP, hK⟩ := hv
  have hl := lv_entry ([.ref (B + 0), .int x1]) (n := 3) (qz_b rfl)
  rw [lg_entry_eq]
  generalize (lg_sl ([.ref (B + 0), .int x1]) ++ List.replicate (3 - (lg_sl ([.ref (B + 0), .int x1])).length) Slot.unset).toArray = ls at hl ⊢
  exact w_X3_pane_0 (wt_C_of B9 hml hK) hf ⟨hP, va_S.rf⟩ hl
section
variable {p : Program} {l : Launch} {e : Env} {s : State} {m : MethodId} {args : Array Value} {below : List Frame} {meth : Method} {c : Code} {D : va_G} {tI tII : ClassId} {B : Nat}
set_option maxHeartbeats 4000000 in
set_option maxRecDepth 100000 in
theorem w_X3_looker_35 (C : wt_C p s m args meth c RX3 cX3_looker 4 (some .int) D tI tII) {F : Nat} {x1 : Int32} {x2 : Int32} {x3 : Int32} {σ : Mem} {r : Int32} {σ' : Mem} {H : Heap} {locs : List Loc} {ls : Array Slot} (hf : j_X3_looker_35 F x1 x2 x3 σ = some (r, σ')) (hM : wt_St D tI tII B σ s H locs) (hl : lv_has ls 4 [(0, .ref (B + 0)), (1, .int x1), (2, .int x2), (3, .int x3)]) : W p l e rm_X3_looker s m args below meth c H locs 0 0 (MQ below (wt_Qi D tI tII B r σ') args s 0 0 (fun q => B ≤ q)) (F0 m 35 ls []) := by
  obtain ⟨hx, hb, hts, hown, hml, hr, hlk, hK⟩ := id C
  replace hf := Eq.trans j_X3_looker_35_e.symm hf
  refine lv_iload_n hx hb dX3_looker_35 rfl (lv_at hl 3 rfl) ?_
  refine wq_if_eq (tgt := 45) hx hb dX3_looker_36 (by decide) hf (fun hf => ?_) (fun hf => ?_)
  · refine lv_aload_n hx hb dX3_looker_45 rfl (lv_at hl 0 rfl) ?_
    refine gf_X3_house  hx hb hts hown hK hM tw_114 dX3_looker_46 ?_
    refine lv_iload_n hx hb dX3_looker_49 rfl (lv_at hl 1 rfl) ?_
    refine lv_iload_n hx hb dX3_looker_50 rfl (lv_at hl 2 rfl) ?_
    refine wt_callVi (As := [.int x1, .int x2]) (rest := []) hx hb hml hts hown hK hM (wt_rc_X0 wt_h1) cw_X3_156 hd_X0_addLooker rfl ⟨qz_b rfl, qz_b rfl⟩ ⟨rfl, rfl⟩ hl.1 rfl (qz_b rfl) dX3_looker_51 hf (fun _ _ h9 => c_X0_addLooker wt_h1 h9) (fun r1 s2 H locs hf hM => ?_)
    refine lv_pop hx hb dX3_looker_54 rfl ?_
    refine lv_aload_n hx hb dX3_looker_55 rfl (lv_at hl 0 rfl) ?_
    refine gf_X3_steps  hx hb hts hown hK hM tw_118 dX3_looker_56 ?_
    refine wt_callVv (As := []) (rest := []) hx hb hml hts hown hK hM wt_rc_X2 cw_X3_117 hd_X2_forget rfl ⟨qz_b rfl, qz_b rfl⟩ ⟨rfl, rfl⟩ hl.1 rfl (qz_b rfl) dX3_looker_59 hf (fun _ _ h9 => c_X2_forget h9) (fun r3 s4 H locs hf hM => ?_)
    refine lv_aload_n hx hb dX3_looker_62 rfl (lv_at hl 0 rfl) ?_
    refine gf_X3_house  hx hb hts hown hK hM tw_114 dX3_looker_63 ?_
    refine gf_X0_lookerCount wt_h1 hx hb hts hown hK hM tw_31 dX3_looker_66 ?_
    refine lv_iconst (v := 1) hx hb dX3_looker_69 (by decide) ?_
    refine lv_isub hx hb dX3_looker_70 ?_
    exact wt_iret hx hb hr hlk hK hM hf dX3_looker_71
  refine lv_aload_n hx hb dX3_looker_39 rfl (lv_at hl 0 rfl) ?_
  refine lv_iload_n hx hb dX3_looker_40 rfl (lv_at hl 3 rfl) ?_
  refine wt_callVi (As := [.int x3]) (rest := []) hx hb hml hts hown hK hM wt_rc_X3 cw_X3_61 hd_X3_refuse rfl ⟨qz_b rfl, qz_b rfl⟩ ⟨rfl, rfl⟩ hl.1 rfl (qz_b rfl) dX3_looker_41 hf (fun _ _ h9 => c_X3_refuse h9) (fun r5 s6 H locs hf hM => ?_)
  exact wt_iret hx hb hr hlk hK hM hf dX3_looker_44
set_option maxHeartbeats 4000000 in
set_option maxRecDepth 100000 in
theorem w_X3_looker_0 (C : wt_C p s m args meth c RX3 cX3_looker 4 (some .int) D tI tII) {F : Nat} {x1 : Int32} {x2 : Int32} {σ : Mem} {r : Int32} {σ' : Mem} {H : Heap} {locs : List Loc} {ls : Array Slot} (hf : f_X3_looker F x1 x2 σ = some (r, σ')) (hM : wt_St D tI tII B σ s H locs) (hl : lv_has ls 4 [(0, .ref (B + 0)), (1, .int x1), (2, .int x2)]) : W p l e rm_X3_looker s m args below meth c H locs 0 0 (MQ below (wt_Qi D tI tII B r σ') args s 0 0 (fun q => B ≤ q)) (F0 m 0 ls []) := by
  obtain ⟨hx, hb, hts, hown, hml, hr, hlk, hK⟩ := id C
  replace hf := Eq.trans f_X3_looker_e.symm hf
  refine lv_iload_n hx hb dX3_looker_0 rfl (lv_at hl 1 rfl) ?_
  refine lv_bipush (v := 6) hx hb dX3_looker_1 (by decide) ?_
  refine wt_callSi (As := [.int x1, .int (6 : Int32)]) (rest := []) hx hb hml hts hown hK hM cw_X3_123 hd_X3_notBelow rfl ⟨qz_b rfl, qz_b rfl⟩ ⟨rfl, rfl⟩ hl.1 rfl (qz_b rfl) dX3_looker_3 hf (fun _ _ h9 => c_X3_notBelow h9) (fun r7 s8 H locs hf hM => ?_)
  refine lv_iload_n hx hb dX3_looker_6 rfl (lv_at hl 2 rfl) ?_
  refine lv_iconst (v := 0) hx hb dX3_looker_7 (by decide) ?_
  refine lv_bipush (v := 9) hx hb dX3_looker_8 (by decide) ?_
  refine wt_callSi (As := [.int x2, .int (0 : Int32), .int (9 : Int32)]) (rest := [.int r7]) hx hb hml hts hown hK hM cw_X3_81 hd_X3_outside rfl ⟨qz_b rfl, qz_b rfl⟩ ⟨rfl, rfl⟩ hl.1 rfl (qz_b rfl) dX3_looker_10 hf (fun _ _ h9 => c_X3_outside h9) (fun r9 s10 H locs hf hM => ?_)
  refine wt_callSi (As := [.int r7, .int r9]) (rest := []) hx hb hml hts hown hK hM cw_X3_85 hd_X3_firstOf rfl ⟨qz_b rfl, qz_b rfl⟩ ⟨rfl, rfl⟩ hl.1 rfl (qz_b rfl) dX3_looker_13 hf (fun _ _ h9 => c_X3_firstOf h9) (fun r11 s12 H locs hf hM => ?_)
  refine lv_istore_n (lv' := [(3, .int r11), (0, .ref (B + 0)), (1, .int x1), (2, .int x2)]) hx hb dX3_looker_16 rfl hl (by decide) rfl (fun ls hl => ?_)
  refine lv_iload_n hx hb dX3_looker_17 rfl (lv_at hl 0 rfl) ?_
  refine wq_if_ne (tgt := 35) hx hb dX3_looker_18 (by decide) hf (fun hf => ?_) (fun hf => ?_)
  · exact w_X3_looker_35 C hf hM (lv_sub hl [1, 2, 3, 0] rfl)
  refine lv_aload_n hx hb dX3_looker_21 rfl (lv_at hl 1 rfl) ?_
  refine gf_X3_house  hx hb hts hown hK hM tw_114 dX3_looker_22 ?_
  refine gf_X0_lookerCount wt_h1 hx hb hts hown hK hM tw_31 dX3_looker_25 ?_
  refine lv_iconst (v := 5) hx hb dX3_looker_28 (by decide) ?_
  refine wq_icmp_lt (tgt := 35) hx hb dX3_looker_29 (by decide) hf (fun hf => ?_) (fun hf => ?_)
  · exact w_X3_looker_35 C hf hM (lv_sub hl [1, 2, 3, 0] rfl)
  refine lv_bipush (v := -6) hx hb dX3_looker_32 (by decide) ?_
  refine lv_istore_n (lv' := [(3, .int (-6 : Int32)), (0, .ref (B + 0)), (1, .int x1), (2, .int x2)]) hx hb dX3_looker_34 rfl hl (by decide) rfl (fun ls hl => ?_)
  exact w_X3_looker_35 C hf hM (lv_sub hl [1, 2, 3, 0] rfl)
end
set_option maxHeartbeats 4000000 in
set_option maxRecDepth 100000 in
theorem c_X3_looker {l : Launch} {D : va_G} {tI tII : ClassId} {B F : Nat} {x1 : Int32} {x2 : Int32} {σ σ' : Mem} {r : Int32} (hf : f_X3_looker F x1 x2 σ = some (r, σ')) : wt_Mi l yX3_looker cX3_looker 4 (some .int) rm_X3_looker [.ref (B + 0), .int x1, .int x2] D tI tII B σ r σ' := by
  refine Met.ofW (cc := cX3_looker) (maxL := 4) (ret := (some .int)) (by decide) rfl ?_
  intro p e s m args below meth c s₁ B9 hml hv
  obtain ⟨rfl, hP, hK⟩ := hv
  have hl := lv_entry ([.ref (B + 0), .int x1, .int x2]) (n := 4) (qz_b rfl)
  rw [lg_entry_eq]
  generalize (lg_sl ([.ref (B + 0), .int x1, .int x2]) ++ List.replicate (4 - (lg_sl ([.ref (B + 0), .int x1, .int x2])).length) Slot.unset).toArray = ls at hl ⊢
  exact w_X3_looker_0 (wt_C_of B9 hml hK) hf ⟨hP, va_S.rf⟩ hl
section
variable {p : Program} {l : Launch} {e : Env} {s : State} {m : MethodId} {args : Array Value} {below : List Frame} {meth : Method} {c : Code} {D : va_G} {tI tII : ClassId} {B : Nat}
set_option maxHeartbeats 4000000 in
set_option maxRecDepth 100000 in
theorem w_X3_stands_55 (C : wt_C p s m args meth c RX3 cX3_stands 6 (some .int) D tI tII) {F : Nat} {x1 : Int32} {x2 : Int32} {x3 : Int32} {x4 : Int32} {x5 : Int32} {σ : Mem} {r : Int32} {σ' : Mem} {H : Heap} {locs : List Loc} {ls : Array Slot} (hf : j_X3_stands_55 F x1 x2 x3 x4 x5 σ = some (r, σ')) (hM : wt_St D tI tII B σ s H locs) (hl : lv_has ls 6 [(0, .ref (B + 0)), (1, .int x1), (2, .int x2), (3, .int x3), (4, .int x4), (5, .int x5)]) : W p l e rm_X3_stands s m args below meth c H locs 0 0 (MQ below (wt_Qi D tI tII B r σ') args s 0 0 (fun q => B ≤ q)) (F0 m 55 ls []) := by
  obtain ⟨hx, hb, hts, hown, hml, hr, hlk, hK⟩ := id C
  replace hf := Eq.trans j_X3_stands_55_e.symm hf
  refine lv_iload hx hb dX3_stands_55 (lv_at hl 5 rfl) ?_
  refine wq_if_eq (tgt := 67) hx hb dX3_stands_57 (by decide) hf (fun hf => ?_) (fun hf => ?_)
  · refine lv_aload_n hx hb dX3_stands_67 rfl (lv_at hl 0 rfl) ?_
    refine gf_X3_steps  hx hb hts hown hK hM tw_118 dX3_stands_68 ?_
    refine lv_iload_n hx hb dX3_stands_71 rfl (lv_at hl 1 rfl) ?_
    refine lv_aload_n hx hb dX3_stands_72 rfl (lv_at hl 0 rfl) ?_
    refine gf_X3_house  hx hb hts hown hK hM tw_114 dX3_stands_73 ?_
    refine gf_X0_rosters wt_h1 hx hb hts hown hK hM tw_37 dX3_stands_76 ?_
    refine lv_iload_n hx hb dX3_stands_79 rfl (lv_at hl 1 rfl) ?_
    obtain ⟨i1, hf⟩ := wt_chk_of hf
    refine wt_ald hx hb hK hM (wt_aaH_4 wt_h1) i1 dX3_stands_80 ?_
    refine wt_callVv (As := [.int x1, .ref (B + (1 + 5 + Int32.toNatClampNeg x1))]) (rest := []) hx hb hml hts hown hK hM wt_rc_X2 cw_X3_166 hd_X2_keepRoster rfl ⟨qz_b rfl, qz_b rfl⟩ ⟨rfl, rfl⟩ hl.1 rfl (qz_b rfl) dX3_stands_81 hf (fun _ _ h9 => c_X2_keepRoster (wt_rH_4 wt_h1 i1) h9) (fun r2 s3 H locs hf hM => ?_)
    refine lv_aload_n hx hb dX3_stands_84 rfl (lv_at hl 0 rfl) ?_
    refine gf_X3_house  hx hb hts hown hK hM tw_114 dX3_stands_85 ?_
    refine lv_iload_n hx hb dX3_stands_88 rfl (lv_at hl 1 rfl) ?_
    refine lv_iload_n hx hb dX3_stands_89 rfl (lv_at hl 2 rfl) ?_
    refine lv_iload_n hx hb dX3_stands_90 rfl (lv_at hl 3 rfl) ?_
    refine lv_iload hx hb dX3_stands_91 (lv_at hl 4 rfl) ?_
    refine wt_callVi (As := [.int x1, .int x2, .int x3, .int x4]) (rest := []) hx hb hml hts hown hK hM (wt_rc_X0 wt_h1) cw_X3_170 hd_X0_post rfl ⟨qz_b rfl, qz_b rfl⟩ ⟨rfl, rfl⟩ hl.1 rfl (qz_b rfl) dX3_stands_93 hf (fun _ _ h9 => c_X0_post wt_h1 h9) (fun r4 s5 H locs hf hM => ?_)
    refine lv_pop hx hb dX3_stands_96 rfl ?_
    refine lv_aload_n hx hb dX3_stands_97 rfl (lv_at hl 0 rfl) ?_
    refine gf_X3_house  hx hb hts hown hK hM tw_114 dX3_stands_98 ?_
    refine lv_iload_n hx hb dX3_stands_101 rfl (lv_at hl 1 rfl) ?_
    refine wt_callVi (As := [.int x1]) (rest := []) hx hb hml hts hown hK hM (wt_rc_X0 wt_h1) cw_X3_138 hd_X0_hoursOf rfl ⟨qz_b rfl, qz_b rfl⟩ ⟨rfl, rfl⟩ hl.1 rfl (qz_b rfl) dX3_stands_102 hf (fun _ _ h9 => c_X0_hoursOf wt_h1 h9) (fun r6 s7 H locs hf hM => ?_)
    exact wt_iret hx hb hr hlk hK hM hf dX3_stands_105
  refine lv_aload_n hx hb dX3_stands_60 rfl (lv_at hl 0 rfl) ?_
  refine lv_iload hx hb dX3_stands_61 (lv_at hl 5 rfl) ?_
  refine wt_callVi (As := [.int x5]) (rest := []) hx hb hml hts hown hK hM wt_rc_X3 cw_X3_61 hd_X3_refuse rfl ⟨qz_b rfl, qz_b rfl⟩ ⟨rfl, rfl⟩ hl.1 rfl (qz_b rfl) dX3_stands_63 hf (fun _ _ h9 => c_X3_refuse h9) (fun r8 s9 H locs hf hM => ?_)
  exact wt_iret hx hb hr hlk hK hM hf dX3_stands_66
set_option maxHeartbeats 4000000 in
set_option maxRecDepth 100000 in
theorem w_X3_stands_41 (C : wt_C p s m args meth c RX3 cX3_stands 6 (some .int) D tI tII) {F : Nat} {x1 : Int32} {x2 : Int32} {x3 : Int32} {x4 : Int32} {x5 : Int32} {σ : Mem} {r : Int32} {σ' : Mem} {H : Heap} {locs : List Loc} {ls : Array Slot} (hf : j_X3_stands_41 F x1 x2 x3 x4 x5 σ = some (r, σ')) (hM : wt_St D tI tII B σ s H locs) (hl : lv_has ls 6 [(0, .ref (B + 0)), (1, .int x1), (2, .int x2), (3, .int x3), (4, .int x4), (5, .int x5)]) : W p l e rm_X3_stands s m args below meth c H locs 0 0 (MQ below (wt_Qi D tI tII B r σ') args s 0 0 (fun q => B ≤ q)) (F0 m 41 ls []) := by
  obtain ⟨hx, hb, hts, hown, hml, hr, hlk, hK⟩ := id C
  replace hf := Eq.trans j_X3_stands_41_e.symm hf
  refine lv_iload hx hb dX3_stands_41 (lv_at hl 5 rfl) ?_
  refine wq_if_ne (tgt := 55) hx hb dX3_stands_43 (by decide) hf (fun hf => ?_) (fun hf => ?_)
  · exact w_X3_stands_55 C hf hM hl
  refine lv_iload_n hx hb dX3_stands_46 rfl (lv_at hl 2 rfl) ?_
  refine lv_iload_n hx hb dX3_stands_47 rfl (lv_at hl 3 rfl) ?_
  refine wq_icmp_le (tgt := 55) hx hb dX3_stands_48 (by decide) hf (fun hf => ?_) (fun hf => ?_)
  · exact w_X3_stands_55 C hf hM hl
  refine lv_bipush (v := -3) hx hb dX3_stands_51 (by decide) ?_
  refine lv_istore (lv' := [(5, .int (-3 : Int32)), (0, .ref (B + 0)), (1, .int x1), (2, .int x2), (3, .int x3), (4, .int x4)]) hx hb dX3_stands_53 hl (by decide) rfl (fun ls hl => ?_)
  exact w_X3_stands_55 C hf hM (lv_sub hl [1, 2, 3, 4, 5, 0] rfl)
set_option maxHeartbeats 4000000 in
set_option maxRecDepth 100000 in
theorem w_X3_stands_0 (C : wt_C p s m args meth c RX3 cX3_stands 6 (some .int) D tI tII) {F : Nat} {x1 : Int32} {x2 : Int32} {x3 : Int32} {x4 : Int32} {σ : Mem} {r : Int32} {σ' : Mem} {H : Heap} {locs : List Loc} {ls : Array Slot} (hf : f_X3_stands F x1 x2 x3 x4 σ = some (r, σ')) (hM : wt_St D tI tII B σ s H locs) (hl : lv_has ls 6 [(0, .ref (B + 0)), (1, .int x1), (2, .int x2), (3, .int x3), (4, .int x4)]) : W p l e rm_X3_stands s m args below meth c H locs 0 0 (MQ below (wt_Qi D tI tII B r σ') args s 0 0 (fun q => B ≤ q)) (F0 m 0 ls []) := by
  obtain ⟨hx, hb, hts, hown, hml, hr, hlk, hK⟩ := id C
  replace hf := Eq.trans f_X3_stands_e.symm hf
  refine lv_aload_n hx hb dX3_stands_0 rfl (lv_at hl 0 rfl) ?_
  refine lv_iload_n hx hb dX3_stands_1 rfl (lv_at hl 1 rfl) ?_
  refine wt_callVi (As := [.int x1]) (rest := []) hx hb hml hts hown hK hM wt_rc_X3 cw_X3_78 hd_X3_noLooker rfl ⟨qz_b rfl, qz_b rfl⟩ ⟨rfl, rfl⟩ hl.1 rfl (qz_b rfl) dX3_stands_2 hf (fun _ _ h9 => c_X3_noLooker h9) (fun r10 s11 H locs hf hM => ?_)
  refine lv_iload_n hx hb dX3_stands_5 rfl (lv_at hl 2 rfl) ?_
  refine wt_callSi (As := [.int x2]) (rest := [.int r10]) hx hb hml hts hown hK hM cw_X3_160 hd_X3_noHour rfl ⟨qz_b rfl, qz_b rfl⟩ ⟨rfl, rfl⟩ hl.1 rfl (qz_b rfl) dX3_stands_6 hf (fun _ _ h9 => c_X3_noHour h9) (fun r12 s13 H locs hf hM => ?_)
  refine lv_iload_n hx hb dX3_stands_9 rfl (lv_at hl 3 rfl) ?_
  refine wt_callSi (As := [.int x3]) (rest := [.int r12, .int r10]) hx hb hml hts hown hK hM cw_X3_160 hd_X3_noHour rfl ⟨qz_b rfl, qz_b rfl⟩ ⟨rfl, rfl⟩ hl.1 rfl (qz_b rfl) dX3_stands_10 hf (fun _ _ h9 => c_X3_noHour h9) (fun r14 s15 H locs hf hM => ?_)
  refine wt_callSi (As := [.int r12, .int r14]) (rest := [.int r10]) hx hb hml hts hown hK hM cw_X3_85 hd_X3_firstOf rfl ⟨qz_b rfl, qz_b rfl⟩ ⟨rfl, rfl⟩ hl.1 rfl (qz_b rfl) dX3_stands_13 hf (fun _ _ h9 => c_X3_firstOf h9) (fun r16 s17 H locs hf hM => ?_)
  refine wt_callSi (As := [.int r10, .int r16]) (rest := []) hx hb hml hts hown hK hM cw_X3_85 hd_X3_firstOf rfl ⟨qz_b rfl, qz_b rfl⟩ ⟨rfl, rfl⟩ hl.1 rfl (qz_b rfl) dX3_stands_16 hf (fun _ _ h9 => c_X3_firstOf h9) (fun r18 s19 H locs hf hM => ?_)
  refine lv_istore (lv' := [(5, .int r18), (0, .ref (B + 0)), (1, .int x1), (2, .int x2), (3, .int x3), (4, .int x4)]) hx hb dX3_stands_19 hl (by decide) rfl (fun ls hl => ?_)
  refine lv_iload hx hb dX3_stands_21 (lv_at hl 0 rfl) ?_
  refine wq_if_ne (tgt := 41) hx hb dX3_stands_23 (by decide) hf (fun hf => ?_) (fun hf => ?_)
  · exact w_X3_stands_41 C hf hM (lv_sub hl [1, 2, 3, 4, 5, 0] rfl)
  refine lv_iload hx hb dX3_stands_26 (lv_at hl 5 rfl) ?_
  refine lv_bipush (v := 9) hx hb dX3_stands_28 (by decide) ?_
  refine wq_icmp_eq (tgt := 41) hx hb dX3_stands_30 (by decide) hf (fun hf => ?_) (fun hf => ?_)
  · exact w_X3_stands_41 C hf hM (lv_sub hl [1, 2, 3, 4, 5, 0] rfl)
  refine lv_aload_n hx hb dX3_stands_33 rfl (lv_at hl 1 rfl) ?_
  refine lv_iload hx hb dX3_stands_34 (lv_at hl 5 rfl) ?_
  refine wt_callVi (As := [.int x4]) (rest := []) hx hb hml hts hown hK hM wt_rc_X3 cw_X3_120 hd_X3_noPane rfl ⟨qz_b rfl, qz_b rfl⟩ ⟨rfl, rfl⟩ hl.1 rfl (qz_b rfl) dX3_stands_36 hf (fun _ _ h9 => c_X3_noPane h9) (fun r20 s21 H locs hf hM => ?_)
  refine lv_istore (lv' := [(5, .int r20), (0, .ref (B + 0)), (1, .int x1), (2, .int x2), (3, .int x3), (4, .int x4)]) hx hb dX3_stands_39 hl (by decide) rfl (fun ls hl => ?_)
  exact w_X3_stands_41 C hf hM (lv_sub hl [1, 2, 3, 4, 5, 0] rfl)
end
set_option maxHeartbeats 4000000 in
set_option maxRecDepth 100000 in
theorem c_X3_stands {l : Launch} {D : va_G} {tI tII : ClassId} {B F : Nat} {x1 : Int32} {x2 : Int32} {x3 : Int32} {x4 : Int32} {σ σ' : Mem} {r : Int32} (hf : f_X3_stands F x1 x2 x3 x4 σ = some (r, σ')) : wt_Mi l yX3_stands cX3_stands 6 (some .int) rm_X3_stands [.ref (B + 0), .int x1, .int x2, .int x3, .int x4] D tI tII B σ r σ' := by
  refine Met.ofW (cc := cX3_stands) (maxL := 6) (ret := (some .int)) (by decide) rfl ?_
  intro p e s m args below meth c s₁ B9 hml hv
  obtain ⟨rfl, hP, hK⟩ := hv
  have hl := lv_entry ([.ref (B + 0), .int x1, .int x2, .int x3, .int x4]) (n := 6) (qz_b rfl)
  rw [lg_entry_eq]
  generalize (lg_sl ([.ref (B + 0), .int x1, .int x2, .int x3, .int x4]) ++ List.replicate (6 - (lg_sl ([.ref (B + 0), .int x1, .int x2, .int x3, .int x4])).length) Slot.unset).toArray = ls at hl ⊢
  exact w_X3_stands_0 (wt_C_of B9 hml hK) hf ⟨hP, va_S.rf⟩ hl
section
variable {p : Program} {l : Launch} {e : Env} {s : State} {m : MethodId} {args : Array Value} {below : List Frame} {meth : Method} {c : Code} {D : va_G} {tI tII : ClassId} {B : Nat}
set_option maxHeartbeats 4000000 in
set_option maxRecDepth 100000 in
theorem w_X3_roster_0 (C : wt_C p s m args meth c RX3 cX3_roster 5 (some .int) D tI tII) {F : Nat} {x1 : Int32} {x2 : Int32} {σ : Mem} {r : Int32} {σ' : Mem} {H : Heap} {locs : List Loc} {ls : Array Slot} (hf : f_X3_roster F x1 x2 σ = some (r, σ')) (hM : wt_St D tI tII B σ s H locs) (hl : lv_has ls 5 [(0, .ref (B + 0)), (1, .int x1), (2, .int x2)]) : W p l e rm_X3_roster s m args below meth c H locs 0 0 (MQ below (wt_Qi D tI tII B r σ') args s 0 0 (fun q => B ≤ q)) (F0 m 0 ls []) := by
  obtain ⟨hx, hb, hts, hown, hml, hr, hlk, hK⟩ := id C
  replace hf := Eq.trans f_X3_roster_e.symm hf
  refine lv_aload_n hx hb dX3_roster_0 rfl (lv_at hl 0 rfl) ?_
  refine lv_iload_n hx hb dX3_roster_1 rfl (lv_at hl 1 rfl) ?_
  refine wt_callVi (As := [.int x1]) (rest := []) hx hb hml hts hown hK hM wt_rc_X3 cw_X3_78 hd_X3_noLooker rfl ⟨qz_b rfl, qz_b rfl⟩ ⟨rfl, rfl⟩ hl.1 rfl (qz_b rfl) dX3_roster_2 hf (fun _ _ h9 => c_X3_noLooker h9) (fun r1 s2 H locs hf hM => ?_)
  refine lv_iload_n hx hb dX3_roster_5 rfl (lv_at hl 2 rfl) ?_
  refine wt_callSi (As := [.int x2]) (rest := [.int r1]) hx hb hml hts hown hK hM cw_X3_160 hd_X3_noHour rfl ⟨qz_b rfl, qz_b rfl⟩ ⟨rfl, rfl⟩ hl.1 rfl (qz_b rfl) dX3_roster_6 hf (fun _ _ h9 => c_X3_noHour h9) (fun r3 s4 H locs hf hM => ?_)
  refine wt_callSi (As := [.int r1, .int r3]) (rest := []) hx hb hml hts hown hK hM cw_X3_85 hd_X3_firstOf rfl ⟨qz_b rfl, qz_b rfl⟩ ⟨rfl, rfl⟩ hl.1 rfl (qz_b rfl) dX3_roster_9 hf (fun _ _ h9 => c_X3_firstOf h9) (fun r5 s6 H locs hf hM => ?_)
  refine lv_istore_n (lv' := [(3, .int r5), (0, .ref (B + 0)), (1, .int x1), (2, .int x2)]) hx hb dX3_roster_12 rfl hl (by decide) rfl (fun ls hl => ?_)
  refine lv_iload_n hx hb dX3_roster_13 rfl (lv_at hl 0 rfl) ?_
  refine wq_if_eq (tgt := 23) hx hb dX3_roster_14 (by decide) hf (fun hf => ?_) (fun hf => ?_)
  · refine lv_aload_n hx hb dX3_roster_23 rfl (lv_at hl 1 rfl) ?_
    refine gf_X3_house  hx hb hts hown hK hM tw_114 dX3_roster_24 ?_
    refine gf_X0_rosters wt_h1 hx hb hts hown hK hM tw_37 dX3_roster_27 ?_
    refine lv_iload_n hx hb dX3_roster_30 rfl (lv_at hl 2 rfl) ?_
    obtain ⟨i7, hf⟩ := wt_chk_of hf
    refine wt_ald hx hb hK hM (wt_aaH_4 wt_h1) i7 dX3_roster_31 ?_
    refine lv_iload_n hx hb dX3_roster_32 rfl (lv_at hl 3 rfl) ?_
    obtain ⟨i8, hf⟩ := wt_chk_of hf
    refine wt_ild hx hb hK hM (wt_rH_4 wt_h1 i7) i8 dX3_roster_33 ?_
    refine wt_leti hf (fun z9 hf => ?_)
    refine lv_istore (lv' := [(4, .int z9), (3, .int r5), (0, .ref (B + 0)), (1, .int x1), (2, .int x2)]) hx hb dX3_roster_34 hl (by decide) rfl (fun ls hl => ?_)
    refine lv_iload hx hb dX3_roster_36 (lv_at hl 0 rfl) ?_
    refine lv_bipush (v := 9) hx hb dX3_roster_38 (by decide) ?_
    refine wq_icmp_ne (tgt := 48) hx hb dX3_roster_40 (by decide) hf (fun hf => ?_) (fun hf => ?_)
    · refine lv_iload hx hb dX3_roster_48 (lv_at hl 0 rfl) ?_
      exact wt_iret hx hb hr hlk hK hM hf dX3_roster_50
    refine lv_bipush (v := -9) hx hb dX3_roster_43 (by decide) ?_
    refine lv_goto (tgt := 50) hx hb dX3_roster_45 (by decide) ?_
    exact wt_iret hx hb hr hlk hK hM hf dX3_roster_50
  refine lv_aload_n hx hb dX3_roster_17 rfl (lv_at hl 1 rfl) ?_
  refine lv_iload_n hx hb dX3_roster_18 rfl (lv_at hl 0 rfl) ?_
  refine wt_callVi (As := [.int r5]) (rest := []) hx hb hml hts hown hK hM wt_rc_X3 cw_X3_61 hd_X3_refuse rfl ⟨qz_b rfl, qz_b rfl⟩ ⟨rfl, rfl⟩ hl.1 rfl (qz_b rfl) dX3_roster_19 hf (fun _ _ h9 => c_X3_refuse h9) (fun r10 s11 H locs hf hM => ?_)
  exact wt_iret hx hb hr hlk hK hM hf dX3_roster_22
end
set_option maxHeartbeats 4000000 in
set_option maxRecDepth 100000 in
theorem c_X3_roster {l : Launch} {D : va_G} {tI tII : ClassId} {B F : Nat} {x1 : Int32} {x2 : Int32} {σ σ' : Mem} {r : Int32} (hf : f_X3_roster F x1 x2 σ = some (r, σ')) : wt_Mi l yX3_roster cX3_roster 5 (some .int) rm_X3_roster [.ref (B + 0), .int x1, .int x2] D tI tII B σ r σ' := by
  refine Met.ofW (cc := cX3_roster) (maxL := 5) (ret := (some .int)) (by decide) rfl ?_
  intro p e s m args below meth c s₁ B9 hml hv
  obtain ⟨rfl, hP, hK⟩ := hv
  have hl := lv_entry ([.ref (B + 0), .int x1, .int x2]) (n := 5) (qz_b rfl)
  rw [lg_entry_eq]
  generalize (lg_sl ([.ref (B + 0), .int x1, .int x2]) ++ List.replicate (5 - (lg_sl ([.ref (B + 0), .int x1, .int x2])).length) Slot.unset).toArray = ls at hl ⊢
  exact w_X3_roster_0 (wt_C_of B9 hml hK) hf ⟨hP, va_S.rf⟩ hl
section
variable {p : Program} {l : Launch} {e : Env} {s : State} {m : MethodId} {args : Array Value} {below : List Frame} {meth : Method} {c : Code} {D : va_G} {tI tII : ClassId} {B : Nat}
set_option maxHeartbeats 4000000 in
set_option maxRecDepth 100000 in
theorem w_X3_wall_0 (C : wt_C p s m args meth c RX3 cX3_wall 4 (some .int) D tI tII) {F : Nat} {x1 : Int32} {x2 : Int32} {σ : Mem} {r : Int32} {σ' : Mem} {H : Heap} {locs : List Loc} {ls : Array Slot} (hf : f_X3_wall F x1 x2 σ = some (r, σ')) (hM : wt_St D tI tII B σ s H locs) (hl : lv_has ls 4 [(0, .ref (B + 0)), (1, .int x1), (2, .int x2)]) : W p l e rm_X3_wall s m args below meth c H locs 0 0 (MQ below (wt_Qi D tI tII B r σ') args s 0 0 (fun q => B ≤ q)) (F0 m 0 ls []) := by
  obtain ⟨hx, hb, hts, hown, hml, hr, hlk, hK⟩ := id C
  replace hf := Eq.trans f_X3_wall_e.symm hf
  refine lv_aload_n hx hb dX3_wall_0 rfl (lv_at hl 0 rfl) ?_
  refine lv_iload_n hx hb dX3_wall_1 rfl (lv_at hl 1 rfl) ?_
  refine wt_callVi (As := [.int x1]) (rest := []) hx hb hml hts hown hK hM wt_rc_X3 cw_X3_120 hd_X3_noPane rfl ⟨qz_b rfl, qz_b rfl⟩ ⟨rfl, rfl⟩ hl.1 rfl (qz_b rfl) dX3_wall_2 hf (fun _ _ h9 => c_X3_noPane h9) (fun r1 s2 H locs hf hM => ?_)
  refine lv_iload_n hx hb dX3_wall_5 rfl (lv_at hl 2 rfl) ?_
  refine wt_callSi (As := [.int x2]) (rest := [.int r1]) hx hb hml hts hown hK hM cw_X3_174 hd_X3_noView rfl ⟨qz_b rfl, qz_b rfl⟩ ⟨rfl, rfl⟩ hl.1 rfl (qz_b rfl) dX3_wall_6 hf (fun _ _ h9 => c_X3_noView h9) (fun r3 s4 H locs hf hM => ?_)
  refine wt_callSi (As := [.int r1, .int r3]) (rest := []) hx hb hml hts hown hK hM cw_X3_85 hd_X3_firstOf rfl ⟨qz_b rfl, qz_b rfl⟩ ⟨rfl, rfl⟩ hl.1 rfl (qz_b rfl) dX3_wall_9 hf (fun _ _ h9 => c_X3_firstOf h9) (fun r5 s6 H locs hf hM => ?_)
  refine lv_istore_n (lv' := [(3, .int r5), (0, .ref (B + 0)), (1, .int x1), (2, .int x2)]) hx hb dX3_wall_12 rfl hl (by decide) rfl (fun ls hl => ?_)
  refine lv_iload_n hx hb dX3_wall_13 rfl (lv_at hl 0 rfl) ?_
  refine wq_if_eq (tgt := 23) hx hb dX3_wall_14 (by decide) hf (fun hf => ?_) (fun hf => ?_)
  · refine lv_aload_n hx hb dX3_wall_23 rfl (lv_at hl 1 rfl) ?_
    refine gf_X3_steps  hx hb hts hown hK hM tw_118 dX3_wall_24 ?_
    refine lv_iconst (v := 1) hx hb dX3_wall_27 (by decide) ?_
    refine lv_iload_n hx hb dX3_wall_28 rfl (lv_at hl 2 rfl) ?_
    refine lv_aload_n hx hb dX3_wall_29 rfl (lv_at hl 1 rfl) ?_
    refine gf_X3_house  hx hb hts hown hK hM tw_114 dX3_wall_30 ?_
    refine gf_X0_paneViews wt_h1 hx hb hts hown hK hM tw_29 dX3_wall_33 ?_
    refine lv_iload_n hx hb dX3_wall_36 rfl (lv_at hl 2 rfl) ?_
    obtain ⟨i7, hf⟩ := wt_chk_of hf
    refine wt_ild hx hb hK hM (wt_aH_1 wt_h1) i7 dX3_wall_37 ?_
    refine wt_callVv (As := [.int (1 : Int32), .int x1, .int (s6 (1 + 1) (Int32.toNatClampNeg x1))]) (rest := []) hx hb hml hts hown hK hM wt_rc_X2 cw_X3_177 hd_X2_keep rfl ⟨qz_b rfl, qz_b rfl⟩ ⟨rfl, rfl⟩ hl.1 rfl (qz_b rfl) dX3_wall_38 hf (fun _ _ h9 => c_X2_keep h9) (fun r8 s9 H locs hf hM => ?_)
    refine lv_aload_n hx hb dX3_wall_41 rfl (lv_at hl 1 rfl) ?_
    refine gf_X3_house  hx hb hts hown hK hM tw_114 dX3_wall_42 ?_
    refine lv_iload_n hx hb dX3_wall_45 rfl (lv_at hl 2 rfl) ?_
    refine lv_iload_n hx hb dX3_wall_46 rfl (lv_at hl 3 rfl) ?_
    refine wt_callVi (As := [.int x1, .int x2]) (rest := []) hx hb hml hts hown hK hM (wt_rc_X0 wt_h1) cw_X3_181 hd_X0_flip rfl ⟨qz_b rfl, qz_b rfl⟩ ⟨rfl, rfl⟩ hl.1 rfl (qz_b rfl) dX3_wall_47 hf (fun _ _ h9 => c_X0_flip wt_h1 h9) (fun r10 s11 H locs hf hM => ?_)
    refine lv_pop hx hb dX3_wall_50 rfl ?_
    refine lv_aload_n hx hb dX3_wall_51 rfl (lv_at hl 1 rfl) ?_
    refine gf_X3_house  hx hb hts hown hK hM tw_114 dX3_wall_52 ?_
    refine lv_iload_n hx hb dX3_wall_55 rfl (lv_at hl 2 rfl) ?_
    refine lv_iload_n hx hb dX3_wall_56 rfl (lv_at hl 3 rfl) ?_
    refine wt_callVi (As := [.int x1, .int x2]) (rest := []) hx hb hml hts hown hK hM (wt_rc_X0 wt_h1) cw_X3_184 hd_X0_shows rfl ⟨qz_b rfl, qz_b rfl⟩ ⟨rfl, rfl⟩ hl.1 rfl (qz_b rfl) dX3_wall_57 hf (fun _ _ h9 => c_X0_shows wt_h1 h9) (fun r12 s13 H locs hf hM => ?_)
    refine wq_if_eq (tgt := 67) hx hb dX3_wall_60 (by decide) hf (fun hf => ?_) (fun hf => ?_)
    · refine lv_iconst (v := 0) hx hb dX3_wall_67 (by decide) ?_
      exact wt_iret hx hb hr hlk hK hM hf dX3_wall_68
    refine lv_iconst (v := 1) hx hb dX3_wall_63 (by decide) ?_
    refine lv_goto (tgt := 68) hx hb dX3_wall_64 (by decide) ?_
    exact wt_iret hx hb hr hlk hK hM hf dX3_wall_68
  refine lv_aload_n hx hb dX3_wall_17 rfl (lv_at hl 1 rfl) ?_
  refine lv_iload_n hx hb dX3_wall_18 rfl (lv_at hl 0 rfl) ?_
  refine wt_callVi (As := [.int r5]) (rest := []) hx hb hml hts hown hK hM wt_rc_X3 cw_X3_61 hd_X3_refuse rfl ⟨qz_b rfl, qz_b rfl⟩ ⟨rfl, rfl⟩ hl.1 rfl (qz_b rfl) dX3_wall_19 hf (fun _ _ h9 => c_X3_refuse h9) (fun r14 s15 H locs hf hM => ?_)
  exact wt_iret hx hb hr hlk hK hM hf dX3_wall_22
end
set_option maxHeartbeats 4000000 in
set_option maxRecDepth 100000 in
theorem c_X3_wall {l : Launch} {D : va_G} {tI tII : ClassId} {B F : Nat} {x1 : Int32} {x2 : Int32} {σ σ' : Mem} {r : Int32} (hf : f_X3_wall F x1 x2 σ = some (r, σ')) : wt_Mi l yX3_wall cX3_wall 4 (some .int) rm_X3_wall [.ref (B + 0), .int x1, .int x2] D tI tII B σ r σ' := by
  refine Met.ofW (cc := cX3_wall) (maxL := 4) (ret := (some .int)) (by decide) rfl ?_
  intro p e s m args below meth c s₁ B9 hml hv
  obtain ⟨rfl, hP, hK⟩ := hv
  have hl := lv_entry ([.ref (B + 0), .int x1, .int x2]) (n := 4) (qz_b rfl)
  rw [lg_entry_eq]
  generalize (lg_sl ([.ref (B + 0), .int x1, .int x2]) ++ List.replicate (4 - (lg_sl ([.ref (B + 0), .int x1, .int x2])).length) Slot.unset).toArray = ls at hl ⊢
  exact w_X3_wall_0 (wt_C_of B9 hml hK) hf ⟨hP, va_S.rf⟩ hl
section
variable {p : Program} {l : Launch} {e : Env} {s : State} {m : MethodId} {args : Array Value} {below : List Frame} {meth : Method} {c : Code} {D : va_G} {tI tII : ClassId} {B : Nat}
set_option maxHeartbeats 4000000 in
set_option maxRecDepth 100000 in
theorem w_X3_worth_0 (C : wt_C p s m args meth c RX3 cX3_worth 5 (some .int) D tI tII) {F : Nat} {x1 : Int32} {x2 : Int32} {σ : Mem} {r : Int32} {σ' : Mem} {H : Heap} {locs : List Loc} {ls : Array Slot} (hf : f_X3_worth F x1 x2 σ = some (r, σ')) (hM : wt_St D tI tII B σ s H locs) (hl : lv_has ls 5 [(0, .ref (B + 0)), (1, .int x1), (2, .int x2)]) : W p l e rm_X3_worth s m args below meth c H locs 0 0 (MQ below (wt_Qi D tI tII B r σ') args s 0 0 (fun q => B ≤ q)) (F0 m 0 ls []) := by
  obtain ⟨hx, hb, hts, hown, hml, hr, hlk, hK⟩ := id C
  replace hf := Eq.trans f_X3_worth_e.symm hf
  refine lv_iload_n hx hb dX3_worth_0 rfl (lv_at hl 1 rfl) ?_
  refine wt_callSi (As := [.int x1]) (rest := []) hx hb hml hts hown hK hM cw_X3_174 hd_X3_noView rfl ⟨qz_b rfl, qz_b rfl⟩ ⟨rfl, rfl⟩ hl.1 rfl (qz_b rfl) dX3_worth_1 hf (fun _ _ h9 => c_X3_noView h9) (fun r1 s2 H locs hf hM => ?_)
  refine lv_iload_n hx hb dX3_worth_4 rfl (lv_at hl 2 rfl) ?_
  refine lv_iconst (v := 0) hx hb dX3_worth_5 (by decide) ?_
  refine lv_bipush (v := 9) hx hb dX3_worth_6 (by decide) ?_
  refine wt_callSi (As := [.int x2, .int (0 : Int32), .int (9 : Int32)]) (rest := [.int r1]) hx hb hml hts hown hK hM cw_X3_81 hd_X3_outside rfl ⟨qz_b rfl, qz_b rfl⟩ ⟨rfl, rfl⟩ hl.1 rfl (qz_b rfl) dX3_worth_8 hf (fun _ _ h9 => c_X3_outside h9) (fun r3 s4 H locs hf hM => ?_)
  refine wt_callSi (As := [.int r1, .int r3]) (rest := []) hx hb hml hts hown hK hM cw_X3_85 hd_X3_firstOf rfl ⟨qz_b rfl, qz_b rfl⟩ ⟨rfl, rfl⟩ hl.1 rfl (qz_b rfl) dX3_worth_11 hf (fun _ _ h9 => c_X3_firstOf h9) (fun r5 s6 H locs hf hM => ?_)
  refine lv_istore_n (lv' := [(3, .int r5), (0, .ref (B + 0)), (1, .int x1), (2, .int x2)]) hx hb dX3_worth_14 rfl hl (by decide) rfl (fun ls hl => ?_)
  refine lv_iload_n hx hb dX3_worth_15 rfl (lv_at hl 0 rfl) ?_
  refine wq_if_eq (tgt := 25) hx hb dX3_worth_16 (by decide) hf (fun hf => ?_) (fun hf => ?_)
  · refine lv_aload_n hx hb dX3_worth_25 rfl (lv_at hl 1 rfl) ?_
    refine gf_X3_house  hx hb hts hown hK hM tw_114 dX3_worth_26 ?_
    refine gf_X0_worths wt_h1 hx hb hts hown hK hM tw_41 dX3_worth_29 ?_
    refine lv_iload_n hx hb dX3_worth_32 rfl (lv_at hl 2 rfl) ?_
    obtain ⟨i7, hf⟩ := wt_chk_of hf
    refine wt_ild hx hb hK hM (wt_aH_16 wt_h1) i7 dX3_worth_33 ?_
    refine wt_leti hf (fun z8 hf => ?_)
    refine lv_istore (lv' := [(4, .int z8), (3, .int r5), (0, .ref (B + 0)), (1, .int x1), (2, .int x2)]) hx hb dX3_worth_34 hl (by decide) rfl (fun ls hl => ?_)
    refine lv_aload_n hx hb dX3_worth_36 rfl (lv_at hl 2 rfl) ?_
    refine gf_X3_steps  hx hb hts hown hK hM tw_118 dX3_worth_37 ?_
    refine lv_iconst (v := 2) hx hb dX3_worth_40 (by decide) ?_
    refine lv_iload_n hx hb dX3_worth_41 rfl (lv_at hl 3 rfl) ?_
    refine lv_iload hx hb dX3_worth_42 (lv_at hl 0 rfl) ?_
    refine wt_callVv (As := [.int (2 : Int32), .int x1, .int z8]) (rest := []) hx hb hml hts hown hK hM wt_rc_X2 cw_X3_177 hd_X2_keep rfl ⟨qz_b rfl, qz_b rfl⟩ ⟨rfl, rfl⟩ hl.1 rfl (qz_b rfl) dX3_worth_44 hf (fun _ _ h9 => c_X2_keep h9) (fun r9 s10 H locs hf hM => ?_)
    refine lv_aload_n hx hb dX3_worth_47 rfl (lv_at hl 2 rfl) ?_
    refine gf_X3_house  hx hb hts hown hK hM tw_114 dX3_worth_48 ?_
    refine lv_iload_n hx hb dX3_worth_51 rfl (lv_at hl 3 rfl) ?_
    refine lv_iload_n hx hb dX3_worth_52 rfl (lv_at hl 4 rfl) ?_
    refine wt_callVi (As := [.int x1, .int x2]) (rest := []) hx hb hml hts hown hK hM (wt_rc_X0 wt_h1) cw_X3_190 hd_X0_price rfl ⟨qz_b rfl, qz_b rfl⟩ ⟨rfl, rfl⟩ hl.1 rfl (qz_b rfl) dX3_worth_53 hf (fun _ _ h9 => c_X0_price wt_h1 h9) (fun r11 s12 H locs hf hM => ?_)
    refine lv_pop hx hb dX3_worth_56 rfl ?_
    refine lv_iload hx hb dX3_worth_57 (lv_at hl 0 rfl) ?_
    exact wt_iret hx hb hr hlk hK hM hf dX3_worth_59
  refine lv_aload_n hx hb dX3_worth_19 rfl (lv_at hl 1 rfl) ?_
  refine lv_iload_n hx hb dX3_worth_20 rfl (lv_at hl 0 rfl) ?_
  refine wt_callVi (As := [.int r5]) (rest := []) hx hb hml hts hown hK hM wt_rc_X3 cw_X3_61 hd_X3_refuse rfl ⟨qz_b rfl, qz_b rfl⟩ ⟨rfl, rfl⟩ hl.1 rfl (qz_b rfl) dX3_worth_21 hf (fun _ _ h9 => c_X3_refuse h9) (fun r13 s14 H locs hf hM => ?_)
  exact wt_iret hx hb hr hlk hK hM hf dX3_worth_24
end
set_option maxHeartbeats 4000000 in
set_option maxRecDepth 100000 in
theorem c_X3_worth {l : Launch} {D : va_G} {tI tII : ClassId} {B F : Nat} {x1 : Int32} {x2 : Int32} {σ σ' : Mem} {r : Int32} (hf : f_X3_worth F x1 x2 σ = some (r, σ')) : wt_Mi l yX3_worth cX3_worth 5 (some .int) rm_X3_worth [.ref (B + 0), .int x1, .int x2] D tI tII B σ r σ' := by
  refine Met.ofW (cc := cX3_worth) (maxL := 5) (ret := (some .int)) (by decide) rfl ?_
  intro p e s m args below meth c s₁ B9 hml hv
  obtain ⟨rfl, hP, hK⟩ := hv
  have hl := lv_entry ([.ref (B + 0), .int x1, .int x2]) (n := 5) (qz_b rfl)
  rw [lg_entry_eq]
  generalize (lg_sl ([.ref (B + 0), .int x1, .int x2]) ++ List.replicate (5 - (lg_sl ([.ref (B + 0), .int x1, .int x2])).length) Slot.unset).toArray = ls at hl ⊢
  exact w_X3_worth_0 (wt_C_of B9 hml hK) hf ⟨hP, va_S.rf⟩ hl
section
variable {p : Program} {l : Launch} {e : Env} {s : State} {m : MethodId} {args : Array Value} {below : List Frame} {meth : Method} {c : Code} {D : va_G} {tI tII : ClassId} {B : Nat}
set_option maxHeartbeats 4000000 in
set_option maxRecDepth 100000 in
theorem w_X3_law_0 (C : wt_C p s m args meth c RX3 cX3_law 4 (some .int) D tI tII) {F : Nat} {x1 : Int32} {σ : Mem} {r : Int32} {σ' : Mem} {H : Heap} {locs : List Loc} {ls : Array Slot} (hf : f_X3_law F x1 σ = some (r, σ')) (hM : wt_St D tI tII B σ s H locs) (hl : lv_has ls 4 [(0, .ref (B + 0)), (1, .int x1)]) : W p l e rm_X3_law s m args below meth c H locs 0 0 (MQ below (wt_Qi D tI tII B r σ') args s 0 0 (fun q => B ≤ q)) (F0 m 0 ls []) := by
  obtain ⟨hx, hb, hts, hown, hml, hr, hlk, hK⟩ := id C
  replace hf := Eq.trans f_X3_law_e.symm hf
  refine lv_iload_n hx hb dX3_law_0 rfl (lv_at hl 1 rfl) ?_
  refine lv_iconst (v := 3) hx hb dX3_law_1 (by decide) ?_
  refine wt_callSi (As := [.int x1, .int (3 : Int32)]) (rest := []) hx hb hml hts hown hK hM cw_X3_123 hd_X3_notBelow rfl ⟨qz_b rfl, qz_b rfl⟩ ⟨rfl, rfl⟩ hl.1 rfl (qz_b rfl) dX3_law_2 hf (fun _ _ h9 => c_X3_notBelow h9) (fun r1 s2 H locs hf hM => ?_)
  refine lv_istore_n (lv' := [(2, .int r1), (0, .ref (B + 0)), (1, .int x1)]) hx hb dX3_law_5 rfl hl (by decide) rfl (fun ls hl => ?_)
  refine lv_iload_n hx hb dX3_law_6 rfl (lv_at hl 0 rfl) ?_
  refine wq_if_eq (tgt := 16) hx hb dX3_law_7 (by decide) hf (fun hf => ?_) (fun hf => ?_)
  · refine lv_aload_n hx hb dX3_law_16 rfl (lv_at hl 1 rfl) ?_
    refine gf_X3_house  hx hb hts hown hK hM tw_114 dX3_law_17 ?_
    refine gf_X0_law wt_h1 hx hb hts hown hK hM tw_43 dX3_law_20 ?_
    refine lv_istore_n (lv' := [(3, .int (s2 1 8)), (2, .int r1), (0, .ref (B + 0)), (1, .int x1)]) hx hb dX3_law_23 rfl hl (by decide) rfl (fun ls hl => ?_)
    refine lv_aload_n hx hb dX3_law_24 rfl (lv_at hl 2 rfl) ?_
    refine gf_X3_steps  hx hb hts hown hK hM tw_118 dX3_law_25 ?_
    refine lv_iconst (v := 3) hx hb dX3_law_28 (by decide) ?_
    refine lv_iconst (v := 0) hx hb dX3_law_29 (by decide) ?_
    refine lv_iload_n hx hb dX3_law_30 rfl (lv_at hl 0 rfl) ?_
    refine wt_callVv (As := [.int (3 : Int32), .int (0 : Int32), .int (s2 1 8)]) (rest := []) hx hb hml hts hown hK hM wt_rc_X2 cw_X3_177 hd_X2_keep rfl ⟨qz_b rfl, qz_b rfl⟩ ⟨rfl, rfl⟩ hl.1 rfl (qz_b rfl) dX3_law_31 hf (fun _ _ h9 => c_X2_keep h9) (fun r3 s4 H locs hf hM => ?_)
    refine lv_aload_n hx hb dX3_law_34 rfl (lv_at hl 2 rfl) ?_
    refine gf_X3_house  hx hb hts hown hK hM tw_114 dX3_law_35 ?_
    refine lv_iload_n hx hb dX3_law_38 rfl (lv_at hl 3 rfl) ?_
    refine wt_callVi (As := [.int x1]) (rest := []) hx hb hml hts hown hK hM (wt_rc_X0 wt_h1) cw_X3_196 hd_X0_rule rfl ⟨qz_b rfl, qz_b rfl⟩ ⟨rfl, rfl⟩ hl.1 rfl (qz_b rfl) dX3_law_39 hf (fun _ _ h9 => c_X0_rule wt_h1 h9) (fun r5 s6 H locs hf hM => ?_)
    refine lv_pop hx hb dX3_law_42 rfl ?_
    refine lv_iload_n hx hb dX3_law_43 rfl (lv_at hl 0 rfl) ?_
    exact wt_iret hx hb hr hlk hK hM hf dX3_law_44
  refine lv_aload_n hx hb dX3_law_10 rfl (lv_at hl 1 rfl) ?_
  refine lv_iload_n hx hb dX3_law_11 rfl (lv_at hl 0 rfl) ?_
  refine wt_callVi (As := [.int r1]) (rest := []) hx hb hml hts hown hK hM wt_rc_X3 cw_X3_61 hd_X3_refuse rfl ⟨qz_b rfl, qz_b rfl⟩ ⟨rfl, rfl⟩ hl.1 rfl (qz_b rfl) dX3_law_12 hf (fun _ _ h9 => c_X3_refuse h9) (fun r7 s8 H locs hf hM => ?_)
  exact wt_iret hx hb hr hlk hK hM hf dX3_law_15
end
set_option maxHeartbeats 4000000 in
set_option maxRecDepth 100000 in
theorem c_X3_law {l : Launch} {D : va_G} {tI tII : ClassId} {B F : Nat} {x1 : Int32} {σ σ' : Mem} {r : Int32} (hf : f_X3_law F x1 σ = some (r, σ')) : wt_Mi l yX3_law cX3_law 4 (some .int) rm_X3_law [.ref (B + 0), .int x1] D tI tII B σ r σ' := by
  refine Met.ofW (cc := cX3_law) (maxL := 4) (ret := (some .int)) (by decide) rfl ?_
  intro p e s m args below meth c s₁ B9 hml hv
  obtain ⟨rfl, hP, hK⟩ := hv
  have hl := lv_entry ([.ref (B + 0), .int x1]) (n := 4) (qz_b rfl)
  rw [lg_entry_eq]
  generalize (lg_sl ([.ref (B + 0), .int x1]) ++ List.replicate (4 - (lg_sl ([.ref (B + 0), .int x1])).length) Slot.unset).toArray = ls at hl ⊢
  exact w_X3_law_0 (wt_C_of B9 hml hK) hf ⟨hP, va_S.rf⟩ hl
