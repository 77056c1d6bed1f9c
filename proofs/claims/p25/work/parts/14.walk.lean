theorem dX4_pane_0 : decode cX4_pane 0 = .ok (.aload_n 0, 1) := qd_p qo_42 (by decide +kernel)
theorem dX4_pane_1 : decode cX4_pane 1 = .ok (.iconst 0, 1) := qd_p qo_3 (by decide +kernel)
theorem dX4_pane_2 : decode cX4_pane 2 = .ok (.putfield 70, 3) := qz_2 .putfield 0 70 qo_181 (by decide +kernel) rfl
theorem dX4_pane_5 : decode cX4_pane 5 = .ok (.iload_n 1, 1) := qd_p qo_27 (by decide +kernel)
theorem dX4_pane_6 : decode cX4_pane 6 = .ok (.iconst 0, 1) := qd_p qo_3 (by decide +kernel)
theorem dX4_pane_7 : decode cX4_pane 7 = .ok (.sipush 255, 3) := qz_s2 .sipush 0 255 qo_17 (by decide +kernel) rfl
theorem dX4_pane_10 : decode cX4_pane 10 = .ok (.invokestatic 231, 3) := qz_2 .invokestatic 0 231 qo_184 (by decide +kernel) rfl
theorem dX4_pane_13 : decode cX4_pane 13 = .ok (.istore_n 2, 1) := qd_p qo_61 (by decide +kernel)
theorem dX4_pane_14 : decode cX4_pane 14 = .ok (.iload_n 2, 1) := qd_p qo_28 (by decide +kernel)
theorem dX4_pane_15 : decode cX4_pane 15 = .ok (.ifCond .ne 17, 3) := qz_s2 (.ifCond .ne) 0 17 qo_154 (by decide +kernel) rfl
theorem dX4_pane_18 : decode cX4_pane 18 = .ok (.aload_n 0, 1) := qd_p qo_42 (by decide +kernel)
theorem dX4_pane_19 : decode cX4_pane 19 = .ok (.getfield 81, 3) := qz_2 .getfield 0 81 qo_180 (by decide +kernel) rfl
theorem dX4_pane_22 : decode cX4_pane 22 = .ok (.bipush 6, 2) := qz_s1 .bipush 6 qo_16 (by decide +kernel) rfl
theorem dX4_pane_24 : decode cX4_pane 24 = .ok (.if_icmp .ne 8, 3) := qz_s2 (.if_icmp .ne) 0 8 qo_160 (by decide +kernel) rfl
theorem dX4_pane_27 : decode cX4_pane 27 = .ok (.bipush (-6), 2) := qz_s1 .bipush 250 qo_16 (by decide +kernel) rfl
theorem dX4_pane_29 : decode cX4_pane 29 = .ok (.goto 4, 3) := qz_s2 .goto 0 4 qo_167 (by decide +kernel) rfl
theorem dX4_pane_32 : decode cX4_pane 32 = .ok (.iload_n 2, 1) := qd_p qo_28 (by decide +kernel)
theorem dX4_pane_33 : decode cX4_pane 33 = .ok (.istore_n 2, 1) := qd_p qo_61 (by decide +kernel)
theorem dX4_pane_34 : decode cX4_pane 34 = .ok (.iload_n 2, 1) := qd_p qo_28 (by decide +kernel)
theorem dX4_pane_35 : decode cX4_pane 35 = .ok (.ifCond .ge 9, 3) := qz_s2 (.ifCond .ge) 0 9 qo_156 (by decide +kernel) rfl
theorem dX4_pane_38 : decode cX4_pane 38 = .ok (.aload_n 0, 1) := qd_p qo_42 (by decide +kernel)
theorem dX4_pane_39 : decode cX4_pane 39 = .ok (.iload_n 2, 1) := qd_p qo_28 (by decide +kernel)
theorem dX4_pane_40 : decode cX4_pane 40 = .ok (.invokevirtual 143, 3) := qz_2 .invokevirtual 0 143 qo_182 (by decide +kernel) rfl
theorem dX4_pane_43 : decode cX4_pane 43 = .ok (.ireturn, 1) := qd_p qo_172 (by decide +kernel)
theorem dX4_pane_44 : decode cX4_pane 44 = .ok (.aload_n 0, 1) := qd_p qo_42 (by decide +kernel)
theorem dX4_pane_45 : decode cX4_pane 45 = .ok (.getfield 13, 3) := qz_2 .getfield 0 13 qo_180 (by decide +kernel) rfl
theorem dX4_pane_48 : decode cX4_pane 48 = .ok (.aload_n 0, 1) := qd_p qo_42 (by decide +kernel)
theorem dX4_pane_49 : decode cX4_pane 49 = .ok (.getfield 81, 3) := qz_2 .getfield 0 81 qo_180 (by decide +kernel) rfl
theorem dX4_pane_52 : decode cX4_pane 52 = .ok (.iload_n 1, 1) := qd_p qo_27 (by decide +kernel)
theorem dX4_pane_53 : decode cX4_pane 53 = .ok (.iastore, 1) := qd_p qo_79 (by decide +kernel)
theorem dX4_pane_54 : decode cX4_pane 54 = .ok (.aload_n 0, 1) := qd_p qo_42 (by decide +kernel)
theorem dX4_pane_55 : decode cX4_pane 55 = .ok (.dup, 1) := qd_p qo_89 (by decide +kernel)
theorem dX4_pane_56 : decode cX4_pane 56 = .ok (.getfield 81, 3) := qz_2 .getfield 0 81 qo_180 (by decide +kernel) rfl
theorem dX4_pane_59 : decode cX4_pane 59 = .ok (.iconst 1, 1) := qd_p qo_4 (by decide +kernel)
theorem dX4_pane_60 : decode cX4_pane 60 = .ok (.iadd, 1) := qd_p qo_96 (by decide +kernel)
theorem dX4_pane_61 : decode cX4_pane 61 = .ok (.putfield 81, 3) := qz_2 .putfield 0 81 qo_181 (by decide +kernel) rfl
theorem dX4_pane_64 : decode cX4_pane 64 = .ok (.aload_n 0, 1) := qd_p qo_42 (by decide +kernel)
theorem dX4_pane_65 : decode cX4_pane 65 = .ok (.iconst 0, 1) := qd_p qo_3 (by decide +kernel)
theorem dX4_pane_66 : decode cX4_pane 66 = .ok (.putfield 204, 3) := qz_2 .putfield 0 204 qo_181 (by decide +kernel) rfl
theorem dX4_pane_69 : decode cX4_pane 69 = .ok (.aload_n 0, 1) := qd_p qo_42 (by decide +kernel)
theorem dX4_pane_70 : decode cX4_pane 70 = .ok (.getfield 81, 3) := qz_2 .getfield 0 81 qo_180 (by decide +kernel) rfl
theorem dX4_pane_73 : decode cX4_pane 73 = .ok (.iconst 1, 1) := qd_p qo_4 (by decide +kernel)
theorem dX4_pane_74 : decode cX4_pane 74 = .ok (.isub, 1) := qd_p qo_100 (by decide +kernel)
theorem dX4_pane_75 : decode cX4_pane 75 = .ok (.ireturn, 1) := qd_p qo_172 (by decide +kernel)
theorem dX4_looker_0 : decode cX4_looker 0 = .ok (.aload_n 0, 1) := qd_p qo_42 (by decide +kernel)
theorem dX4_looker_1 : decode cX4_looker 1 = .ok (.iconst 0, 1) := qd_p qo_3 (by decide +kernel)
theorem dX4_looker_2 : decode cX4_looker 2 = .ok (.putfield 70, 3) := qz_2 .putfield 0 70 qo_181 (by decide +kernel) rfl
theorem dX4_looker_5 : decode cX4_looker 5 = .ok (.iload_n 1, 1) := qd_p qo_27 (by decide +kernel)
theorem dX4_looker_6 : decode cX4_looker 6 = .ok (.i2l, 1) := qd_p qo_133 (by decide +kernel)
theorem dX4_looker_7 : decode cX4_looker 7 = .ok (.lconst 0, 1) := qd_p qo_9 (by decide +kernel)
theorem dX4_looker_8 : decode cX4_looker 8 = .ok (.ldc2_w 235, 3) := qz_2 .ldc2_w 0 235 qo_20 (by decide +kernel) rfl
theorem dX4_looker_11 : decode cX4_looker 11 = .ok (.invokestatic 77, 3) := qz_2 .invokestatic 0 77 qo_184 (by decide +kernel) rfl
theorem dX4_looker_14 : decode cX4_looker 14 = .ok (.ifCond .eq 13, 3) := qz_s2 (.ifCond .eq) 0 13 qo_153 (by decide +kernel) rfl
theorem dX4_looker_17 : decode cX4_looker 17 = .ok (.iload_n 2, 1) := qd_p qo_28 (by decide +kernel)
theorem dX4_looker_18 : decode cX4_looker 18 = .ok (.iconst 0, 1) := qd_p qo_3 (by decide +kernel)
theorem dX4_looker_19 : decode cX4_looker 19 = .ok (.bipush 9, 2) := qz_s1 .bipush 9 qo_16 (by decide +kernel) rfl
theorem dX4_looker_21 : decode cX4_looker 21 = .ok (.invokestatic 231, 3) := qz_2 .invokestatic 0 231 qo_184 (by decide +kernel) rfl
theorem dX4_looker_24 : decode cX4_looker 24 = .ok (.goto 5, 3) := qz_s2 .goto 0 5 qo_167 (by decide +kernel) rfl
theorem dX4_looker_27 : decode cX4_looker 27 = .ok (.bipush (-2), 2) := qz_s1 .bipush 254 qo_16 (by decide +kernel) rfl
theorem dX4_looker_29 : decode cX4_looker 29 = .ok (.istore_n 3, 1) := qd_p qo_62 (by decide +kernel)
theorem dX4_looker_30 : decode cX4_looker 30 = .ok (.iload_n 3, 1) := qd_p qo_29 (by decide +kernel)
theorem dX4_looker_31 : decode cX4_looker 31 = .ok (.ifCond .ne 16, 3) := qz_s2 (.ifCond .ne) 0 16 qo_154 (by decide +kernel) rfl
theorem dX4_looker_34 : decode cX4_looker 34 = .ok (.aload_n 0, 1) := qd_p qo_42 (by decide +kernel)
theorem dX4_looker_35 : decode cX4_looker 35 = .ok (.getfield 74, 3) := qz_2 .getfield 0 74 qo_180 (by decide +kernel) rfl
theorem dX4_looker_38 : decode cX4_looker 38 = .ok (.iconst 5, 1) := qd_p qo_8 (by decide +kernel)
theorem dX4_looker_39 : decode cX4_looker 39 = .ok (.if_icmp .ne 8, 3) := qz_s2 (.if_icmp .ne) 0 8 qo_160 (by decide +kernel) rfl
theorem dX4_looker_42 : decode cX4_looker 42 = .ok (.bipush (-6), 2) := qz_s1 .bipush 250 qo_16 (by decide +kernel) rfl
theorem dX4_looker_44 : decode cX4_looker 44 = .ok (.goto 4, 3) := qz_s2 .goto 0 4 qo_167 (by decide +kernel) rfl
theorem dX4_looker_47 : decode cX4_looker 47 = .ok (.iload_n 3, 1) := qd_p qo_29 (by decide +kernel)
theorem dX4_looker_48 : decode cX4_looker 48 = .ok (.istore_n 3, 1) := qd_p qo_62 (by decide +kernel)
theorem dX4_looker_49 : decode cX4_looker 49 = .ok (.iload_n 3, 1) := qd_p qo_29 (by decide +kernel)
theorem dX4_looker_50 : decode cX4_looker 50 = .ok (.ifCond .ge 9, 3) := qz_s2 (.ifCond .ge) 0 9 qo_156 (by decide +kernel) rfl
theorem dX4_looker_53 : decode cX4_looker 53 = .ok (.aload_n 0, 1) := qd_p qo_42 (by decide +kernel)
theorem dX4_looker_54 : decode cX4_looker 54 = .ok (.iload_n 3, 1) := qd_p qo_29 (by decide +kernel)
theorem dX4_looker_55 : decode cX4_looker 55 = .ok (.invokevirtual 143, 3) := qz_2 .invokevirtual 0 143 qo_182 (by decide +kernel) rfl
theorem dX4_looker_58 : decode cX4_looker 58 = .ok (.ireturn, 1) := qd_p qo_172 (by decide +kernel)
theorem dX4_looker_59 : decode cX4_looker 59 = .ok (.aload_n 0, 1) := qd_p qo_42 (by decide +kernel)
theorem dX4_looker_60 : decode cX4_looker 60 = .ok (.iload_n 1, 1) := qd_p qo_27 (by decide +kernel)
theorem dX4_looker_61 : decode cX4_looker 61 = .ok (.iload_n 2, 1) := qd_p qo_28 (by decide +kernel)
theorem dX4_looker_62 : decode cX4_looker 62 = .ok (.invokevirtual 176, 3) := qz_2 .invokevirtual 0 176 qo_182 (by decide +kernel) rfl
theorem dX4_looker_65 : decode cX4_looker 65 = .ok (.aload_n 0, 1) := qd_p qo_42 (by decide +kernel)
theorem dX4_looker_66 : decode cX4_looker 66 = .ok (.iconst 0, 1) := qd_p qo_3 (by decide +kernel)
theorem dX4_looker_67 : decode cX4_looker 67 = .ok (.putfield 204, 3) := qz_2 .putfield 0 204 qo_181 (by decide +kernel) rfl
theorem dX4_looker_70 : decode cX4_looker 70 = .ok (.aload_n 0, 1) := qd_p qo_42 (by decide +kernel)
theorem dX4_looker_71 : decode cX4_looker 71 = .ok (.getfield 74, 3) := qz_2 .getfield 0 74 qo_180 (by decide +kernel) rfl
theorem dX4_looker_74 : decode cX4_looker 74 = .ok (.iconst 1, 1) := qd_p qo_4 (by decide +kernel)
theorem dX4_looker_75 : decode cX4_looker 75 = .ok (.isub, 1) := qd_p qo_100 (by decide +kernel)
theorem dX4_looker_76 : decode cX4_looker 76 = .ok (.ireturn, 1) := qd_p qo_172 (by decide +kernel)
theorem dX4_stands_0 : decode cX4_stands 0 = .ok (.aload_n 0, 1) := qd_p qo_42 (by decide +kernel)
theorem dX4_stands_1 : decode cX4_stands 1 = .ok (.iconst 0, 1) := qd_p qo_3 (by decide +kernel)
theorem dX4_stands_2 : decode cX4_stands 2 = .ok (.putfield 70, 3) := qz_2 .putfield 0 70 qo_181 (by decide +kernel) rfl
theorem dX4_stands_5 : decode cX4_stands 5 = .ok (.aload_n 0, 1) := qd_p qo_42 (by decide +kernel)
theorem dX4_stands_6 : decode cX4_stands 6 = .ok (.iload_n 1, 1) := qd_p qo_27 (by decide +kernel)
theorem dX4_stands_7 : decode cX4_stands 7 = .ok (.invokevirtual 88, 3) := qz_2 .invokevirtual 0 88 qo_182 (by decide +kernel) rfl
theorem dX4_stands_10 : decode cX4_stands 10 = .ok (.ifCond .eq 47, 3) := qz_s2 (.ifCond .eq) 0 47 qo_153 (by decide +kernel) rfl
theorem dX4_stands_13 : decode cX4_stands 13 = .ok (.iload_n 2, 1) := qd_p qo_28 (by decide +kernel)
theorem dX4_stands_14 : decode cX4_stands 14 = .ok (.invokestatic 237, 3) := qz_2 .invokestatic 0 237 qo_184 (by decide +kernel) rfl
theorem dX4_stands_17 : decode cX4_stands 17 = .ok (.ifCond .eq 40, 3) := qz_s2 (.ifCond .eq) 0 40 qo_153 (by decide +kernel) rfl
theorem dX4_stands_20 : decode cX4_stands 20 = .ok (.iload_n 3, 1) := qd_p qo_29 (by decide +kernel)
theorem dX4_stands_21 : decode cX4_stands 21 = .ok (.invokestatic 237, 3) := qz_2 .invokestatic 0 237 qo_184 (by decide +kernel) rfl
theorem dX4_stands_24 : decode cX4_stands 24 = .ok (.ifCond .eq 33, 3) := qz_s2 (.ifCond .eq) 0 33 qo_153 (by decide +kernel) rfl
theorem dX4_stands_27 : decode cX4_stands 27 = .ok (.iload 4, 2) := qz_1 .iload 4 qo_21 (by decide +kernel)
theorem dX4_stands_29 : decode cX4_stands 29 = .ok (.bipush 9, 2) := qz_s1 .bipush 9 qo_16 (by decide +kernel) rfl
theorem dX4_stands_31 : decode cX4_stands 31 = .ok (.if_icmp .eq 12, 3) := qz_s2 (.if_icmp .eq) 0 12 qo_159 (by decide +kernel) rfl
theorem dX4_stands_34 : decode cX4_stands 34 = .ok (.aload_n 0, 1) := qd_p qo_42 (by decide +kernel)
theorem dX4_stands_35 : decode cX4_stands 35 = .ok (.iload 4, 2) := qz_1 .iload 4 qo_21 (by decide +kernel)
theorem dX4_stands_37 : decode cX4_stands 37 = .ok (.invokevirtual 179, 3) := qz_2 .invokevirtual 0 179 qo_182 (by decide +kernel) rfl
theorem dX4_stands_40 : decode cX4_stands 40 = .ok (.ifCond .eq 17, 3) := qz_s2 (.ifCond .eq) 0 17 qo_153 (by decide +kernel) rfl
theorem dX4_stands_43 : decode cX4_stands 43 = .ok (.iload_n 2, 1) := qd_p qo_28 (by decide +kernel)
theorem dX4_stands_44 : decode cX4_stands 44 = .ok (.iload_n 3, 1) := qd_p qo_29 (by decide +kernel)
theorem dX4_stands_45 : decode cX4_stands 45 = .ok (.if_icmp .le 8, 3) := qz_s2 (.if_icmp .le) 0 8 qo_164 (by decide +kernel) rfl
theorem dX4_stands_48 : decode cX4_stands 48 = .ok (.bipush (-3), 2) := qz_s1 .bipush 253 qo_16 (by decide +kernel) rfl
theorem dX4_stands_50 : decode cX4_stands 50 = .ok (.goto 8, 3) := qz_s2 .goto 0 8 qo_167 (by decide +kernel) rfl
theorem dX4_stands_53 : decode cX4_stands 53 = .ok (.iconst 0, 1) := qd_p qo_3 (by decide +kernel)
theorem dX4_stands_54 : decode cX4_stands 54 = .ok (.goto 4, 3) := qz_s2 .goto 0 4 qo_167 (by decide +kernel) rfl
theorem dX4_stands_57 : decode cX4_stands 57 = .ok (.iconst (-1), 1) := qd_p qo_2 (by decide +kernel)
theorem dX4_stands_58 : decode cX4_stands 58 = .ok (.istore 5, 2) := qz_1 .istore 5 qo_54 (by decide +kernel)
theorem dX4_stands_60 : decode cX4_stands 60 = .ok (.iload 5, 2) := qz_1 .iload 5 qo_21 (by decide +kernel)
theorem dX4_stands_62 : decode cX4_stands 62 = .ok (.ifCond .ge 10, 3) := qz_s2 (.ifCond .ge) 0 10 qo_156 (by decide +kernel) rfl
theorem dX4_stands_65 : decode cX4_stands 65 = .ok (.aload_n 0, 1) := qd_p qo_42 (by decide +kernel)
theorem dX4_stands_66 : decode cX4_stands 66 = .ok (.iload 5, 2) := qz_1 .iload 5 qo_21 (by decide +kernel)
theorem dX4_stands_68 : decode cX4_stands 68 = .ok (.invokevirtual 143, 3) := qz_2 .invokevirtual 0 143 qo_182 (by decide +kernel) rfl
theorem dX4_stands_71 : decode cX4_stands 71 = .ok (.ireturn, 1) := qd_p qo_172 (by decide +kernel)
theorem dX4_stands_72 : decode cX4_stands 72 = .ok (.aload_n 0, 1) := qd_p qo_42 (by decide +kernel)
theorem dX4_stands_73 : decode cX4_stands 73 = .ok (.invokevirtual 240, 3) := qz_2 .invokevirtual 0 240 qo_182 (by decide +kernel) rfl
theorem dX4_stands_76 : decode cX4_stands 76 = .ok (.aload_n 0, 1) := qd_p qo_42 (by decide +kernel)
theorem dX4_stands_77 : decode cX4_stands 77 = .ok (.iload_n 1, 1) := qd_p qo_27 (by decide +kernel)
theorem dX4_stands_78 : decode cX4_stands 78 = .ok (.iload_n 2, 1) := qd_p qo_28 (by decide +kernel)
theorem dX4_stands_79 : decode cX4_stands 79 = .ok (.iload_n 3, 1) := qd_p qo_29 (by decide +kernel)
theorem dX4_stands_80 : decode cX4_stands 80 = .ok (.iload 4, 2) := qz_1 .iload 4 qo_21 (by decide +kernel)
theorem dX4_stands_82 : decode cX4_stands 82 = .ok (.invokevirtual 182, 3) := qz_2 .invokevirtual 0 182 qo_182 (by decide +kernel) rfl
theorem dX4_stands_85 : decode cX4_stands 85 = .ok (.aload_n 0, 1) := qd_p qo_42 (by decide +kernel)
theorem dX4_stands_86 : decode cX4_stands 86 = .ok (.iload_n 1, 1) := qd_p qo_27 (by decide +kernel)
theorem dX4_stands_87 : decode cX4_stands 87 = .ok (.invokevirtual 228, 3) := qz_2 .invokevirtual 0 228 qo_182 (by decide +kernel) rfl
theorem dX4_stands_90 : decode cX4_stands 90 = .ok (.ireturn, 1) := qd_p qo_172 (by decide +kernel)
theorem dX4_roster_0 : decode cX4_roster 0 = .ok (.aload_n 0, 1) := qd_p qo_42 (by decide +kernel)
theorem dX4_roster_1 : decode cX4_roster 1 = .ok (.iconst 0, 1) := qd_p qo_3 (by decide +kernel)
theorem dX4_roster_2 : decode cX4_roster 2 = .ok (.putfield 70, 3) := qz_2 .putfield 0 70 qo_181 (by decide +kernel) rfl
theorem dX4_roster_5 : decode cX4_roster 5 = .ok (.aload_n 0, 1) := qd_p qo_42 (by decide +kernel)
theorem dX4_roster_6 : decode cX4_roster 6 = .ok (.iload_n 1, 1) := qd_p qo_27 (by decide +kernel)
theorem dX4_roster_7 : decode cX4_roster 7 = .ok (.invokevirtual 88, 3) := qz_2 .invokevirtual 0 88 qo_182 (by decide +kernel) rfl
theorem dX4_roster_10 : decode cX4_roster 10 = .ok (.ifCond .eq 24, 3) := qz_s2 (.ifCond .eq) 0 24 qo_153 (by decide +kernel) rfl
theorem dX4_roster_13 : decode cX4_roster 13 = .ok (.iload_n 2, 1) := qd_p qo_28 (by decide +kernel)
theorem dX4_roster_14 : decode cX4_roster 14 = .ok (.invokestatic 237, 3) := qz_2 .invokestatic 0 237 qo_184 (by decide +kernel) rfl
theorem dX4_roster_17 : decode cX4_roster 17 = .ok (.ifCond .eq 17, 3) := qz_s2 (.ifCond .eq) 0 17 qo_153 (by decide +kernel) rfl
theorem dX4_roster_20 : decode cX4_roster 20 = .ok (.aload_n 0, 1) := qd_p qo_42 (by decide +kernel)
theorem dX4_roster_21 : decode cX4_roster 21 = .ok (.getfield 22, 3) := qz_2 .getfield 0 22 qo_180 (by decide +kernel) rfl
theorem dX4_roster_24 : decode cX4_roster 24 = .ok (.bipush 24, 2) := qz_s1 .bipush 24 qo_16 (by decide +kernel) rfl
theorem dX4_roster_26 : decode cX4_roster 26 = .ok (.iload_n 1, 1) := qd_p qo_27 (by decide +kernel)
theorem dX4_roster_27 : decode cX4_roster 27 = .ok (.imul, 1) := qd_p qo_104 (by decide +kernel)
theorem dX4_roster_28 : decode cX4_roster 28 = .ok (.iload_n 2, 1) := qd_p qo_28 (by decide +kernel)
theorem dX4_roster_29 : decode cX4_roster 29 = .ok (.iadd, 1) := qd_p qo_96 (by decide +kernel)
theorem dX4_roster_30 : decode cX4_roster 30 = .ok (.iaload, 1) := qd_p qo_46 (by decide +kernel)
theorem dX4_roster_31 : decode cX4_roster 31 = .ok (.goto 8, 3) := qz_s2 .goto 0 8 qo_167 (by decide +kernel) rfl
theorem dX4_roster_34 : decode cX4_roster 34 = .ok (.aload_n 0, 1) := qd_p qo_42 (by decide +kernel)
theorem dX4_roster_35 : decode cX4_roster 35 = .ok (.iconst (-1), 1) := qd_p qo_2 (by decide +kernel)
theorem dX4_roster_36 : decode cX4_roster 36 = .ok (.invokevirtual 143, 3) := qz_2 .invokevirtual 0 143 qo_182 (by decide +kernel) rfl
theorem dX4_roster_39 : decode cX4_roster 39 = .ok (.ireturn, 1) := qd_p qo_172 (by decide +kernel)
theorem dX4_wall_0 : decode cX4_wall 0 = .ok (.aload_n 0, 1) := qd_p qo_42 (by decide +kernel)
theorem dX4_wall_1 : decode cX4_wall 1 = .ok (.iconst 0, 1) := qd_p qo_3 (by decide +kernel)
theorem dX4_wall_2 : decode cX4_wall 2 = .ok (.putfield 70, 3) := qz_2 .putfield 0 70 qo_181 (by decide +kernel) rfl
theorem dX4_wall_5 : decode cX4_wall 5 = .ok (.aload_n 0, 1) := qd_p qo_42 (by decide +kernel)
theorem dX4_wall_6 : decode cX4_wall 6 = .ok (.iload_n 1, 1) := qd_p qo_27 (by decide +kernel)
theorem dX4_wall_7 : decode cX4_wall 7 = .ok (.invokevirtual 179, 3) := qz_2 .invokevirtual 0 179 qo_182 (by decide +kernel) rfl
theorem dX4_wall_10 : decode cX4_wall 10 = .ok (.ifCond .eq 10, 3) := qz_s2 (.ifCond .eq) 0 10 qo_153 (by decide +kernel) rfl
theorem dX4_wall_13 : decode cX4_wall 13 = .ok (.iload_n 2, 1) := qd_p qo_28 (by decide +kernel)
theorem dX4_wall_14 : decode cX4_wall 14 = .ok (.invokestatic 243, 3) := qz_2 .invokestatic 0 243 qo_184 (by decide +kernel) rfl
theorem dX4_wall_17 : decode cX4_wall 17 = .ok (.ifCond .ne 9, 3) := qz_s2 (.ifCond .ne) 0 9 qo_154 (by decide +kernel) rfl
theorem dX4_wall_20 : decode cX4_wall 20 = .ok (.aload_n 0, 1) := qd_p qo_42 (by decide +kernel)
theorem dX4_wall_21 : decode cX4_wall 21 = .ok (.iconst (-1), 1) := qd_p qo_2 (by decide +kernel)
theorem dX4_wall_22 : decode cX4_wall 22 = .ok (.invokevirtual 143, 3) := qz_2 .invokevirtual 0 143 qo_182 (by decide +kernel) rfl
theorem dX4_wall_25 : decode cX4_wall 25 = .ok (.ireturn, 1) := qd_p qo_172 (by decide +kernel)
theorem dX4_wall_26 : decode cX4_wall 26 = .ok (.aload_n 0, 1) := qd_p qo_42 (by decide +kernel)
theorem dX4_wall_27 : decode cX4_wall 27 = .ok (.invokevirtual 240, 3) := qz_2 .invokevirtual 0 240 qo_182 (by decide +kernel) rfl
theorem dX4_wall_30 : decode cX4_wall 30 = .ok (.aload_n 0, 1) := qd_p qo_42 (by decide +kernel)
theorem dX4_wall_31 : decode cX4_wall 31 = .ok (.getfield 13, 3) := qz_2 .getfield 0 13 qo_180 (by decide +kernel) rfl
theorem dX4_wall_34 : decode cX4_wall 34 = .ok (.iload_n 1, 1) := qd_p qo_27 (by decide +kernel)
theorem dX4_wall_35 : decode cX4_wall 35 = .ok (.dup2, 1) := qd_p qo_92 (by decide +kernel)
theorem dX4_wall_36 : decode cX4_wall 36 = .ok (.iaload, 1) := qd_p qo_46 (by decide +kernel)
theorem dX4_wall_37 : decode cX4_wall 37 = .ok (.iconst 1, 1) := qd_p qo_4 (by decide +kernel)
theorem dX4_wall_38 : decode cX4_wall 38 = .ok (.iload_n 2, 1) := qd_p qo_28 (by decide +kernel)
theorem dX4_wall_39 : decode cX4_wall 39 = .ok (.ishl, 1) := qd_p qo_120 (by decide +kernel)
theorem dX4_wall_40 : decode cX4_wall 40 = .ok (.ixor, 1) := qd_p qo_130 (by decide +kernel)
theorem dX4_wall_41 : decode cX4_wall 41 = .ok (.iastore, 1) := qd_p qo_79 (by decide +kernel)
theorem dX4_wall_42 : decode cX4_wall 42 = .ok (.aload_n 0, 1) := qd_p qo_42 (by decide +kernel)
theorem dX4_wall_43 : decode cX4_wall 43 = .ok (.getfield 13, 3) := qz_2 .getfield 0 13 qo_180 (by decide +kernel) rfl
theorem dX4_wall_46 : decode cX4_wall 46 = .ok (.iload_n 1, 1) := qd_p qo_27 (by decide +kernel)
theorem dX4_wall_47 : decode cX4_wall 47 = .ok (.iaload, 1) := qd_p qo_46 (by decide +kernel)
theorem dX4_wall_48 : decode cX4_wall 48 = .ok (.iload_n 2, 1) := qd_p qo_28 (by decide +kernel)
theorem dX4_wall_49 : decode cX4_wall 49 = .ok (.ishr, 1) := qd_p qo_122 (by decide +kernel)
theorem dX4_wall_50 : decode cX4_wall 50 = .ok (.iconst 1, 1) := qd_p qo_4 (by decide +kernel)
theorem dX4_wall_51 : decode cX4_wall 51 = .ok (.iand, 1) := qd_p qo_126 (by decide +kernel)
theorem dX4_wall_52 : decode cX4_wall 52 = .ok (.ireturn, 1) := qd_p qo_172 (by decide +kernel)
theorem dX4_worth_0 : decode cX4_worth 0 = .ok (.aload_n 0, 1) := qd_p qo_42 (by decide +kernel)
theorem dX4_worth_1 : decode cX4_worth 1 = .ok (.iconst 0, 1) := qd_p qo_3 (by decide +kernel)
theorem dX4_worth_2 : decode cX4_worth 2 = .ok (.putfield 70, 3) := qz_2 .putfield 0 70 qo_181 (by decide +kernel) rfl
theorem dX4_worth_5 : decode cX4_worth 5 = .ok (.iload_n 1, 1) := qd_p qo_27 (by decide +kernel)
theorem dX4_worth_6 : decode cX4_worth 6 = .ok (.invokestatic 243, 3) := qz_2 .invokestatic 0 243 qo_184 (by decide +kernel) rfl
theorem dX4_worth_9 : decode cX4_worth 9 = .ok (.ifCond .eq 13, 3) := qz_s2 (.ifCond .eq) 0 13 qo_153 (by decide +kernel) rfl
theorem dX4_worth_12 : decode cX4_worth 12 = .ok (.iload_n 2, 1) := qd_p qo_28 (by decide +kernel)
theorem dX4_worth_13 : decode cX4_worth 13 = .ok (.iconst 0, 1) := qd_p qo_3 (by decide +kernel)
theorem dX4_worth_14 : decode cX4_worth 14 = .ok (.bipush 9, 2) := qz_s1 .bipush 9 qo_16 (by decide +kernel) rfl
theorem dX4_worth_16 : decode cX4_worth 16 = .ok (.invokestatic 231, 3) := qz_2 .invokestatic 0 231 qo_184 (by decide +kernel) rfl
theorem dX4_worth_19 : decode cX4_worth 19 = .ok (.goto 4, 3) := qz_s2 .goto 0 4 qo_167 (by decide +kernel) rfl
theorem dX4_worth_22 : decode cX4_worth 22 = .ok (.iconst (-1), 1) := qd_p qo_2 (by decide +kernel)
theorem dX4_worth_23 : decode cX4_worth 23 = .ok (.istore_n 3, 1) := qd_p qo_62 (by decide +kernel)
theorem dX4_worth_24 : decode cX4_worth 24 = .ok (.iload_n 3, 1) := qd_p qo_29 (by decide +kernel)
theorem dX4_worth_25 : decode cX4_worth 25 = .ok (.ifCond .ge 9, 3) := qz_s2 (.ifCond .ge) 0 9 qo_156 (by decide +kernel) rfl
theorem dX4_worth_28 : decode cX4_worth 28 = .ok (.aload_n 0, 1) := qd_p qo_42 (by decide +kernel)
theorem dX4_worth_29 : decode cX4_worth 29 = .ok (.iload_n 3, 1) := qd_p qo_29 (by decide +kernel)
theorem dX4_worth_30 : decode cX4_worth 30 = .ok (.invokevirtual 143, 3) := qz_2 .invokevirtual 0 143 qo_182 (by decide +kernel) rfl
theorem dX4_worth_33 : decode cX4_worth 33 = .ok (.ireturn, 1) := qd_p qo_172 (by decide +kernel)
theorem dX4_worth_34 : decode cX4_worth 34 = .ok (.aload_n 0, 1) := qd_p qo_42 (by decide +kernel)
theorem dX4_worth_35 : decode cX4_worth 35 = .ok (.invokevirtual 240, 3) := qz_2 .invokevirtual 0 240 qo_182 (by decide +kernel) rfl
theorem dX4_worth_38 : decode cX4_worth 38 = .ok (.aload_n 0, 1) := qd_p qo_42 (by decide +kernel)
theorem dX4_worth_39 : decode cX4_worth 39 = .ok (.getfield 7, 3) := qz_2 .getfield 0 7 qo_180 (by decide +kernel) rfl
theorem dX4_worth_42 : decode cX4_worth 42 = .ok (.iload_n 1, 1) := qd_p qo_27 (by decide +kernel)
theorem dX4_worth_43 : decode cX4_worth 43 = .ok (.iaload, 1) := qd_p qo_46 (by decide +kernel)
theorem dX4_worth_44 : decode cX4_worth 44 = .ok (.istore 4, 2) := qz_1 .istore 4 qo_54 (by decide +kernel)
theorem dX4_worth_46 : decode cX4_worth 46 = .ok (.aload_n 0, 1) := qd_p qo_42 (by decide +kernel)
theorem dX4_worth_47 : decode cX4_worth 47 = .ok (.getfield 7, 3) := qz_2 .getfield 0 7 qo_180 (by decide +kernel) rfl
theorem dX4_worth_50 : decode cX4_worth 50 = .ok (.iload_n 1, 1) := qd_p qo_27 (by decide +kernel)
theorem dX4_worth_51 : decode cX4_worth 51 = .ok (.iload_n 2, 1) := qd_p qo_28 (by decide +kernel)
theorem dX4_worth_52 : decode cX4_worth 52 = .ok (.iastore, 1) := qd_p qo_79 (by decide +kernel)
theorem dX4_worth_53 : decode cX4_worth 53 = .ok (.iload 4, 2) := qz_1 .iload 4 qo_21 (by decide +kernel)
theorem dX4_worth_55 : decode cX4_worth 55 = .ok (.ireturn, 1) := qd_p qo_172 (by decide +kernel)
theorem dX4_law_0 : decode cX4_law 0 = .ok (.aload_n 0, 1) := qd_p qo_42 (by decide +kernel)
theorem dX4_law_1 : decode cX4_law 1 = .ok (.iconst 0, 1) := qd_p qo_3 (by decide +kernel)
theorem dX4_law_2 : decode cX4_law 2 = .ok (.putfield 70, 3) := qz_2 .putfield 0 70 qo_181 (by decide +kernel) rfl
theorem dX4_law_5 : decode cX4_law 5 = .ok (.iload_n 1, 1) := qd_p qo_27 (by decide +kernel)
theorem dX4_law_6 : decode cX4_law 6 = .ok (.i2l, 1) := qd_p qo_133 (by decide +kernel)
theorem dX4_law_7 : decode cX4_law 7 = .ok (.lconst 0, 1) := qd_p qo_9 (by decide +kernel)
theorem dX4_law_8 : decode cX4_law 8 = .ok (.ldc2_w 246, 3) := qz_2 .ldc2_w 0 246 qo_20 (by decide +kernel) rfl
theorem dX4_law_11 : decode cX4_law 11 = .ok (.invokestatic 77, 3) := qz_2 .invokestatic 0 77 qo_184 (by decide +kernel) rfl
theorem dX4_law_14 : decode cX4_law 14 = .ok (.ifCond .ne 10, 3) := qz_s2 (.ifCond .ne) 0 10 qo_154 (by decide +kernel) rfl
theorem dX4_law_17 : decode cX4_law 17 = .ok (.aload_n 0, 1) := qd_p qo_42 (by decide +kernel)
theorem dX4_law_18 : decode cX4_law 18 = .ok (.bipush (-2), 2) := qz_s1 .bipush 254 qo_16 (by decide +kernel) rfl
theorem dX4_law_20 : decode cX4_law 20 = .ok (.invokevirtual 143, 3) := qz_2 .invokevirtual 0 143 qo_182 (by decide +kernel) rfl
theorem dX4_law_23 : decode cX4_law 23 = .ok (.ireturn, 1) := qd_p qo_172 (by decide +kernel)
theorem dX4_law_24 : decode cX4_law 24 = .ok (.aload_n 0, 1) := qd_p qo_42 (by decide +kernel)
theorem dX4_law_25 : decode cX4_law 25 = .ok (.invokevirtual 240, 3) := qz_2 .invokevirtual 0 240 qo_182 (by decide +kernel) rfl
theorem dX4_law_28 : decode cX4_law 28 = .ok (.aload_n 0, 1) := qd_p qo_42 (by decide +kernel)
theorem dX4_law_29 : decode cX4_law 29 = .ok (.getfield 115, 3) := qz_2 .getfield 0 115 qo_180 (by decide +kernel) rfl
theorem dX4_law_32 : decode cX4_law 32 = .ok (.istore_n 2, 1) := qd_p qo_61 (by decide +kernel)
theorem dX4_law_33 : decode cX4_law 33 = .ok (.aload_n 0, 1) := qd_p qo_42 (by decide +kernel)
theorem dX4_law_34 : decode cX4_law 34 = .ok (.iload_n 1, 1) := qd_p qo_27 (by decide +kernel)
theorem dX4_law_35 : decode cX4_law 35 = .ok (.putfield 115, 3) := qz_2 .putfield 0 115 qo_181 (by decide +kernel) rfl
theorem dX4_law_38 : decode cX4_law 38 = .ok (.iload_n 2, 1) := qd_p qo_28 (by decide +kernel)
theorem dX4_law_39 : decode cX4_law 39 = .ok (.ireturn, 1) := qd_p qo_172 (by decide +kernel)
theorem dX4_days_0 : decode cX4_days 0 = .ok (.aload_n 0, 1) := qd_p qo_42 (by decide +kernel)
theorem dX4_days_1 : decode cX4_days 1 = .ok (.iconst 0, 1) := qd_p qo_3 (by decide +kernel)
theorem dX4_days_2 : decode cX4_days 2 = .ok (.putfield 70, 3) := qz_2 .putfield 0 70 qo_181 (by decide +kernel) rfl
theorem dX4_days_5 : decode cX4_days 5 = .ok (.iload_n 1, 1) := qd_p qo_27 (by decide +kernel)
theorem dX4_days_6 : decode cX4_days 6 = .ok (.iconst 1, 1) := qd_p qo_4 (by decide +kernel)
theorem dX4_days_7 : decode cX4_days 7 = .ok (.bipush 99, 2) := qz_s1 .bipush 99 qo_16 (by decide +kernel) rfl
theorem dX4_days_9 : decode cX4_days 9 = .ok (.invokestatic 231, 3) := qz_2 .invokestatic 0 231 qo_184 (by decide +kernel) rfl
theorem dX4_days_12 : decode cX4_days 12 = .ok (.istore_n 2, 1) := qd_p qo_61 (by decide +kernel)
theorem dX4_days_13 : decode cX4_days 13 = .ok (.iload_n 2, 1) := qd_p qo_28 (by decide +kernel)
theorem dX4_days_14 : decode cX4_days 14 = .ok (.ifCond .ne 20, 3) := qz_s2 (.ifCond .ne) 0 20 qo_154 (by decide +kernel) rfl
theorem dX4_days_17 : decode cX4_days 17 = .ok (.aload_n 0, 1) := qd_p qo_42 (by decide +kernel)
theorem dX4_days_18 : decode cX4_days 18 = .ok (.getfield 140, 3) := qz_2 .getfield 0 140 qo_180 (by decide +kernel) rfl
theorem dX4_days_21 : decode cX4_days 21 = .ok (.iload_n 1, 1) := qd_p qo_27 (by decide +kernel)
theorem dX4_days_22 : decode cX4_days 22 = .ok (.iadd, 1) := qd_p qo_96 (by decide +kernel)
theorem dX4_days_23 : decode cX4_days 23 = .ok (.sipush 9999, 3) := qz_s2 .sipush 39 15 qo_17 (by decide +kernel) rfl
theorem dX4_days_26 : decode cX4_days 26 = .ok (.if_icmp .le 8, 3) := qz_s2 (.if_icmp .le) 0 8 qo_164 (by decide +kernel) rfl
theorem dX4_days_29 : decode cX4_days 29 = .ok (.bipush (-6), 2) := qz_s1 .bipush 250 qo_16 (by decide +kernel) rfl
theorem dX4_days_31 : decode cX4_days 31 = .ok (.goto 4, 3) := qz_s2 .goto 0 4 qo_167 (by decide +kernel) rfl
theorem dX4_days_34 : decode cX4_days 34 = .ok (.iload_n 2, 1) := qd_p qo_28 (by decide +kernel)
theorem dX4_days_35 : decode cX4_days 35 = .ok (.istore_n 2, 1) := qd_p qo_61 (by decide +kernel)
theorem dX4_days_36 : decode cX4_days 36 = .ok (.iload_n 2, 1) := qd_p qo_28 (by decide +kernel)
theorem dX4_days_37 : decode cX4_days 37 = .ok (.ifCond .ge 9, 3) := qz_s2 (.ifCond .ge) 0 9 qo_156 (by decide +kernel) rfl
theorem dX4_days_40 : decode cX4_days 40 = .ok (.aload_n 0, 1) := qd_p qo_42 (by decide +kernel)
theorem dX4_days_41 : decode cX4_days 41 = .ok (.iload_n 2, 1) := qd_p qo_28 (by decide +kernel)
theorem dX4_days_42 : decode cX4_days 42 = .ok (.invokevirtual 143, 3) := qz_2 .invokevirtual 0 143 qo_182 (by decide +kernel) rfl
theorem dX4_days_45 : decode cX4_days 45 = .ok (.ireturn, 1) := qd_p qo_172 (by decide +kernel)
theorem dX4_days_46 : decode cX4_days 46 = .ok (.aload_n 0, 1) := qd_p qo_42 (by decide +kernel)
theorem dX4_days_47 : decode cX4_days 47 = .ok (.iload_n 1, 1) := qd_p qo_27 (by decide +kernel)
theorem dX4_days_48 : decode cX4_days 48 = .ok (.invokevirtual 188, 3) := qz_2 .invokevirtual 0 188 qo_182 (by decide +kernel) rfl
theorem dX4_days_51 : decode cX4_days 51 = .ok (.aload_n 0, 1) := qd_p qo_42 (by decide +kernel)
theorem dX4_days_52 : decode cX4_days 52 = .ok (.iconst 0, 1) := qd_p qo_3 (by decide +kernel)
theorem dX4_days_53 : decode cX4_days 53 = .ok (.putfield 204, 3) := qz_2 .putfield 0 204 qo_181 (by decide +kernel) rfl
theorem dX4_days_56 : decode cX4_days 56 = .ok (.aload_n 0, 1) := qd_p qo_42 (by decide +kernel)
theorem dX4_days_57 : decode cX4_days 57 = .ok (.invokevirtual 248, 3) := qz_2 .invokevirtual 0 248 qo_182 (by decide +kernel) rfl
theorem dX4_days_60 : decode cX4_days 60 = .ok (.ireturn, 1) := qd_p qo_172 (by decide +kernel)
theorem dX4_counts_0 : decode cX4_counts 0 = .ok (.aload_n 0, 1) := qd_p qo_42 (by decide +kernel)
theorem dX4_counts_1 : decode cX4_counts 1 = .ok (.iconst 0, 1) := qd_p qo_3 (by decide +kernel)
theorem dX4_counts_2 : decode cX4_counts 2 = .ok (.putfield 70, 3) := qz_2 .putfield 0 70 qo_181 (by decide +kernel) rfl
theorem dX4_counts_5 : decode cX4_counts 5 = .ok (.aload_n 0, 1) := qd_p qo_42 (by decide +kernel)
theorem dX4_counts_6 : decode cX4_counts 6 = .ok (.iload_n 1, 1) := qd_p qo_27 (by decide +kernel)
theorem dX4_counts_7 : decode cX4_counts 7 = .ok (.invokevirtual 88, 3) := qz_2 .invokevirtual 0 88 qo_182 (by decide +kernel) rfl
theorem dX4_counts_10 : decode cX4_counts 10 = .ok (.ifCond .eq 19, 3) := qz_s2 (.ifCond .eq) 0 19 qo_153 (by decide +kernel) rfl
theorem dX4_counts_13 : decode cX4_counts 13 = .ok (.iload_n 2, 1) := qd_p qo_28 (by decide +kernel)
theorem dX4_counts_14 : decode cX4_counts 14 = .ok (.invokestatic 243, 3) := qz_2 .invokestatic 0 243 qo_184 (by decide +kernel) rfl
theorem dX4_counts_17 : decode cX4_counts 17 = .ok (.ifCond .eq 12, 3) := qz_s2 (.ifCond .eq) 0 12 qo_153 (by decide +kernel) rfl
theorem dX4_counts_20 : decode cX4_counts 20 = .ok (.iconst 0, 1) := qd_p qo_3 (by decide +kernel)
theorem dX4_counts_21 : decode cX4_counts 21 = .ok (.iload_n 3, 1) := qd_p qo_29 (by decide +kernel)
theorem dX4_counts_22 : decode cX4_counts 22 = .ok (.iconst 1, 1) := qd_p qo_4 (by decide +kernel)
theorem dX4_counts_23 : decode cX4_counts 23 = .ok (.invokestatic 251, 3) := qz_2 .invokestatic 0 251 qo_184 (by decide +kernel) rfl
theorem dX4_counts_26 : decode cX4_counts 26 = .ok (.goto 4, 3) := qz_s2 .goto 0 4 qo_167 (by decide +kernel) rfl
theorem dX4_counts_29 : decode cX4_counts 29 = .ok (.iconst (-1), 1) := qd_p qo_2 (by decide +kernel)
theorem dX4_counts_30 : decode cX4_counts 30 = .ok (.istore 4, 2) := qz_1 .istore 4 qo_54 (by decide +kernel)
theorem dX4_counts_32 : decode cX4_counts 32 = .ok (.iload 4, 2) := qz_1 .iload 4 qo_21 (by decide +kernel)
theorem dX4_counts_34 : decode cX4_counts 34 = .ok (.ifCond .ge 10, 3) := qz_s2 (.ifCond .ge) 0 10 qo_156 (by decide +kernel) rfl
theorem dX4_counts_37 : decode cX4_counts 37 = .ok (.aload_n 0, 1) := qd_p qo_42 (by decide +kernel)
theorem dX4_counts_38 : decode cX4_counts 38 = .ok (.iload 4, 2) := qz_1 .iload 4 qo_21 (by decide +kernel)
theorem dX4_counts_40 : decode cX4_counts 40 = .ok (.invokevirtual 143, 3) := qz_2 .invokevirtual 0 143 qo_182 (by decide +kernel) rfl
theorem dX4_counts_43 : decode cX4_counts 43 = .ok (.ireturn, 1) := qd_p qo_172 (by decide +kernel)
theorem dX4_counts_44 : decode cX4_counts 44 = .ok (.iload_n 3, 1) := qd_p qo_29 (by decide +kernel)
theorem dX4_counts_45 : decode cX4_counts 45 = .ok (.ifCond .ne 17, 3) := qz_s2 (.ifCond .ne) 0 17 qo_154 (by decide +kernel) rfl
theorem dX4_counts_48 : decode cX4_counts 48 = .ok (.aload_n 0, 1) := qd_p qo_42 (by decide +kernel)
theorem dX4_counts_49 : decode cX4_counts 49 = .ok (.getfield 25, 3) := qz_2 .getfield 0 25 qo_180 (by decide +kernel) rfl
theorem dX4_counts_52 : decode cX4_counts 52 = .ok (.bipush 8, 2) := qz_s1 .bipush 8 qo_16 (by decide +kernel) rfl
theorem dX4_counts_54 : decode cX4_counts 54 = .ok (.iload_n 1, 1) := qd_p qo_27 (by decide +kernel)
theorem dX4_counts_55 : decode cX4_counts 55 = .ok (.imul, 1) := qd_p qo_104 (by decide +kernel)
theorem dX4_counts_56 : decode cX4_counts 56 = .ok (.iload_n 2, 1) := qd_p qo_28 (by decide +kernel)
theorem dX4_counts_57 : decode cX4_counts 57 = .ok (.iadd, 1) := qd_p qo_96 (by decide +kernel)
theorem dX4_counts_58 : decode cX4_counts 58 = .ok (.iaload, 1) := qd_p qo_46 (by decide +kernel)
theorem dX4_counts_59 : decode cX4_counts 59 = .ok (.goto 9, 3) := qz_s2 .goto 0 9 qo_167 (by decide +kernel) rfl
theorem dX4_counts_62 : decode cX4_counts 62 = .ok (.aload_n 0, 1) := qd_p qo_42 (by decide +kernel)
theorem dX4_counts_63 : decode cX4_counts 63 = .ok (.iload_n 1, 1) := qd_p qo_27 (by decide +kernel)
theorem dX4_counts_64 : decode cX4_counts 64 = .ok (.iload_n 2, 1) := qd_p qo_28 (by decide +kernel)
theorem dX4_counts_65 : decode cX4_counts 65 = .ok (.invokevirtual 111, 3) := qz_2 .invokevirtual 0 111 qo_182 (by decide +kernel) rfl
theorem dX4_counts_68 : decode cX4_counts 68 = .ok (.ireturn, 1) := qd_p qo_172 (by decide +kernel)
theorem dX4_owner_0 : decode cX4_owner 0 = .ok (.aload_n 0, 1) := qd_p qo_42 (by decide +kernel)
theorem dX4_owner_1 : decode cX4_owner 1 = .ok (.iconst 0, 1) := qd_p qo_3 (by decide +kernel)
theorem dX4_owner_2 : decode cX4_owner 2 = .ok (.putfield 70, 3) := qz_2 .putfield 0 70 qo_181 (by decide +kernel) rfl
theorem dX4_owner_5 : decode cX4_owner 5 = .ok (.iload_n 1, 1) := qd_p qo_27 (by decide +kernel)
theorem dX4_owner_6 : decode cX4_owner 6 = .ok (.invokestatic 243, 3) := qz_2 .invokestatic 0 243 qo_184 (by decide +kernel) rfl
theorem dX4_owner_9 : decode cX4_owner 9 = .ok (.ifCond .eq 14, 3) := qz_s2 (.ifCond .eq) 0 14 qo_153 (by decide +kernel) rfl
theorem dX4_owner_12 : decode cX4_owner 12 = .ok (.iload_n 2, 1) := qd_p qo_28 (by decide +kernel)
theorem dX4_owner_13 : decode cX4_owner 13 = .ok (.iconst 0, 1) := qd_p qo_3 (by decide +kernel)
theorem dX4_owner_14 : decode cX4_owner 14 = .ok (.sipush 999, 3) := qz_s2 .sipush 3 231 qo_17 (by decide +kernel) rfl
theorem dX4_owner_17 : decode cX4_owner 17 = .ok (.invokestatic 231, 3) := qz_2 .invokestatic 0 231 qo_184 (by decide +kernel) rfl
theorem dX4_owner_20 : decode cX4_owner 20 = .ok (.goto 4, 3) := qz_s2 .goto 0 4 qo_167 (by decide +kernel) rfl
theorem dX4_owner_23 : decode cX4_owner 23 = .ok (.iconst (-1), 1) := qd_p qo_2 (by decide +kernel)
theorem dX4_owner_24 : decode cX4_owner 24 = .ok (.istore_n 3, 1) := qd_p qo_62 (by decide +kernel)
theorem dX4_owner_25 : decode cX4_owner 25 = .ok (.iload_n 3, 1) := qd_p qo_29 (by decide +kernel)
theorem dX4_owner_26 : decode cX4_owner 26 = .ok (.ifCond .ge 9, 3) := qz_s2 (.ifCond .ge) 0 9 qo_156 (by decide +kernel) rfl
theorem dX4_owner_29 : decode cX4_owner 29 = .ok (.aload_n 0, 1) := qd_p qo_42 (by decide +kernel)
theorem dX4_owner_30 : decode cX4_owner 30 = .ok (.iload_n 3, 1) := qd_p qo_29 (by decide +kernel)
theorem dX4_owner_31 : decode cX4_owner 31 = .ok (.invokevirtual 143, 3) := qz_2 .invokevirtual 0 143 qo_182 (by decide +kernel) rfl
theorem dX4_owner_34 : decode cX4_owner 34 = .ok (.ireturn, 1) := qd_p qo_172 (by decide +kernel)
theorem dX4_owner_35 : decode cX4_owner 35 = .ok (.aload_n 0, 1) := qd_p qo_42 (by decide +kernel)
theorem dX4_owner_36 : decode cX4_owner 36 = .ok (.invokevirtual 134, 3) := qz_2 .invokevirtual 0 134 qo_182 (by decide +kernel) rfl
theorem dX4_owner_39 : decode cX4_owner 39 = .ok (.aload_n 0, 1) := qd_p qo_42 (by decide +kernel)
theorem dX4_owner_40 : decode cX4_owner 40 = .ok (.iload_n 1, 1) := qd_p qo_27 (by decide +kernel)
theorem dX4_owner_41 : decode cX4_owner 41 = .ok (.iload_n 2, 1) := qd_p qo_28 (by decide +kernel)
theorem dX4_owner_42 : decode cX4_owner 42 = .ok (.invokevirtual 125, 3) := qz_2 .invokevirtual 0 125 qo_182 (by decide +kernel) rfl
theorem dX4_owner_45 : decode cX4_owner 45 = .ok (.ireturn, 1) := qd_p qo_172 (by decide +kernel)
theorem dX4_owns_0 : decode cX4_owns 0 = .ok (.aload_n 0, 1) := qd_p qo_42 (by decide +kernel)
theorem dX4_owns_1 : decode cX4_owns 1 = .ok (.iconst 0, 1) := qd_p qo_3 (by decide +kernel)
theorem dX4_owns_2 : decode cX4_owns 2 = .ok (.putfield 70, 3) := qz_2 .putfield 0 70 qo_181 (by decide +kernel) rfl
theorem dX4_owns_5 : decode cX4_owns 5 = .ok (.aload_n 0, 1) := qd_p qo_42 (by decide +kernel)
theorem dX4_owns_6 : decode cX4_owns 6 = .ok (.iload_n 1, 1) := qd_p qo_27 (by decide +kernel)
theorem dX4_owns_7 : decode cX4_owns 7 = .ok (.invokevirtual 88, 3) := qz_2 .invokevirtual 0 88 qo_182 (by decide +kernel) rfl
theorem dX4_owns_10 : decode cX4_owns 10 = .ok (.ifCond .eq 14, 3) := qz_s2 (.ifCond .eq) 0 14 qo_153 (by decide +kernel) rfl
theorem dX4_owns_13 : decode cX4_owns 13 = .ok (.iload_n 2, 1) := qd_p qo_28 (by decide +kernel)
theorem dX4_owns_14 : decode cX4_owns 14 = .ok (.iconst 0, 1) := qd_p qo_3 (by decide +kernel)
theorem dX4_owns_15 : decode cX4_owns 15 = .ok (.sipush 999, 3) := qz_s2 .sipush 3 231 qo_17 (by decide +kernel) rfl
theorem dX4_owns_18 : decode cX4_owns 18 = .ok (.invokestatic 231, 3) := qz_2 .invokestatic 0 231 qo_184 (by decide +kernel) rfl
theorem dX4_owns_21 : decode cX4_owns 21 = .ok (.goto 4, 3) := qz_s2 .goto 0 4 qo_167 (by decide +kernel) rfl
theorem dX4_owns_24 : decode cX4_owns 24 = .ok (.iconst (-1), 1) := qd_p qo_2 (by decide +kernel)
theorem dX4_owns_25 : decode cX4_owns 25 = .ok (.iload_n 3, 1) := qd_p qo_29 (by decide +kernel)
theorem dX4_owns_26 : decode cX4_owns 26 = .ok (.iconst 1, 1) := qd_p qo_4 (by decide +kernel)
theorem dX4_owns_27 : decode cX4_owns 27 = .ok (.invokestatic 251, 3) := qz_2 .invokestatic 0 251 qo_184 (by decide +kernel) rfl
theorem dX4_owns_30 : decode cX4_owns 30 = .ok (.istore 4, 2) := qz_1 .istore 4 qo_54 (by decide +kernel)
theorem dX4_owns_32 : decode cX4_owns 32 = .ok (.iload 4, 2) := qz_1 .iload 4 qo_21 (by decide +kernel)
theorem dX4_owns_34 : decode cX4_owns 34 = .ok (.ifCond .ge 10, 3) := qz_s2 (.ifCond .ge) 0 10 qo_156 (by decide +kernel) rfl
theorem dX4_owns_37 : decode cX4_owns 37 = .ok (.aload_n 0, 1) := qd_p qo_42 (by decide +kernel)
theorem dX4_owns_38 : decode cX4_owns 38 = .ok (.iload 4, 2) := qz_1 .iload 4 qo_21 (by decide +kernel)
theorem dX4_owns_40 : decode cX4_owns 40 = .ok (.invokevirtual 143, 3) := qz_2 .invokevirtual 0 143 qo_182 (by decide +kernel) rfl
theorem dX4_owns_43 : decode cX4_owns 43 = .ok (.ireturn, 1) := qd_p qo_172 (by decide +kernel)
theorem dX4_owns_44 : decode cX4_owns 44 = .ok (.aload_n 0, 1) := qd_p qo_42 (by decide +kernel)
theorem dX4_owns_45 : decode cX4_owns 45 = .ok (.invokevirtual 134, 3) := qz_2 .invokevirtual 0 134 qo_182 (by decide +kernel) rfl
theorem dX4_owns_48 : decode cX4_owns 48 = .ok (.iload_n 3, 1) := qd_p qo_29 (by decide +kernel)
theorem dX4_owns_49 : decode cX4_owns 49 = .ok (.ifCond .ne 12, 3) := qz_s2 (.ifCond .ne) 0 12 qo_154 (by decide +kernel) rfl
theorem dX4_owns_52 : decode cX4_owns 52 = .ok (.aload_n 0, 1) := qd_p qo_42 (by decide +kernel)
theorem dX4_owns_53 : decode cX4_owns 53 = .ok (.iload_n 1, 1) := qd_p qo_27 (by decide +kernel)
theorem dX4_owns_54 : decode cX4_owns 54 = .ok (.iload_n 2, 1) := qd_p qo_28 (by decide +kernel)
theorem dX4_owns_55 : decode cX4_owns 55 = .ok (.invokevirtual 128, 3) := qz_2 .invokevirtual 0 128 qo_182 (by decide +kernel) rfl
theorem dX4_owns_58 : decode cX4_owns 58 = .ok (.goto 9, 3) := qz_s2 .goto 0 9 qo_167 (by decide +kernel) rfl
theorem dX4_owns_61 : decode cX4_owns 61 = .ok (.aload_n 0, 1) := qd_p qo_42 (by decide +kernel)
theorem dX4_owns_62 : decode cX4_owns 62 = .ok (.iload_n 1, 1) := qd_p qo_27 (by decide +kernel)
theorem dX4_owns_63 : decode cX4_owns 63 = .ok (.iload_n 2, 1) := qd_p qo_28 (by decide +kernel)
theorem dX4_owns_64 : decode cX4_owns 64 = .ok (.invokevirtual 137, 3) := qz_2 .invokevirtual 0 137 qo_182 (by decide +kernel) rfl
theorem dX4_owns_67 : decode cX4_owns 67 = .ok (.ireturn, 1) := qd_p qo_172 (by decide +kernel)
theorem dX4_nobodys_0 : decode cX4_nobodys 0 = .ok (.aload_n 0, 1) := qd_p qo_42 (by decide +kernel)
theorem dX4_nobodys_1 : decode cX4_nobodys 1 = .ok (.iconst 0, 1) := qd_p qo_3 (by decide +kernel)
theorem dX4_nobodys_2 : decode cX4_nobodys 2 = .ok (.putfield 70, 3) := qz_2 .putfield 0 70 qo_181 (by decide +kernel) rfl
theorem dX4_nobodys_5 : decode cX4_nobodys 5 = .ok (.iload_n 1, 1) := qd_p qo_27 (by decide +kernel)
theorem dX4_nobodys_6 : decode cX4_nobodys 6 = .ok (.iconst 0, 1) := qd_p qo_3 (by decide +kernel)
theorem dX4_nobodys_7 : decode cX4_nobodys 7 = .ok (.sipush 999, 3) := qz_s2 .sipush 3 231 qo_17 (by decide +kernel) rfl
theorem dX4_nobodys_10 : decode cX4_nobodys 10 = .ok (.invokestatic 231, 3) := qz_2 .invokestatic 0 231 qo_184 (by decide +kernel) rfl
theorem dX4_nobodys_13 : decode cX4_nobodys 13 = .ok (.ifCond .ge 16, 3) := qz_s2 (.ifCond .ge) 0 16 qo_156 (by decide +kernel) rfl
theorem dX4_nobodys_16 : decode cX4_nobodys 16 = .ok (.aload_n 0, 1) := qd_p qo_42 (by decide +kernel)
theorem dX4_nobodys_17 : decode cX4_nobodys 17 = .ok (.iload_n 1, 1) := qd_p qo_27 (by decide +kernel)
theorem dX4_nobodys_18 : decode cX4_nobodys 18 = .ok (.iconst 0, 1) := qd_p qo_3 (by decide +kernel)
theorem dX4_nobodys_19 : decode cX4_nobodys 19 = .ok (.sipush 999, 3) := qz_s2 .sipush 3 231 qo_17 (by decide +kernel) rfl
theorem dX4_nobodys_22 : decode cX4_nobodys 22 = .ok (.invokestatic 231, 3) := qz_2 .invokestatic 0 231 qo_184 (by decide +kernel) rfl
theorem dX4_nobodys_25 : decode cX4_nobodys 25 = .ok (.invokevirtual 143, 3) := qz_2 .invokevirtual 0 143 qo_182 (by decide +kernel) rfl
theorem dX4_nobodys_28 : decode cX4_nobodys 28 = .ok (.ireturn, 1) := qd_p qo_172 (by decide +kernel)
theorem dX4_nobodys_29 : decode cX4_nobodys 29 = .ok (.aload_n 0, 1) := qd_p qo_42 (by decide +kernel)
theorem dX4_nobodys_30 : decode cX4_nobodys 30 = .ok (.invokevirtual 134, 3) := qz_2 .invokevirtual 0 134 qo_182 (by decide +kernel) rfl
theorem dX4_nobodys_33 : decode cX4_nobodys 33 = .ok (.aload_n 0, 1) := qd_p qo_42 (by decide +kernel)
theorem dX4_nobodys_34 : decode cX4_nobodys 34 = .ok (.bipush (-9), 2) := qz_s1 .bipush 247 qo_16 (by decide +kernel) rfl
theorem dX4_nobodys_36 : decode cX4_nobodys 36 = .ok (.iload_n 1, 1) := qd_p qo_27 (by decide +kernel)
theorem dX4_nobodys_37 : decode cX4_nobodys 37 = .ok (.invokevirtual 128, 3) := qz_2 .invokevirtual 0 128 qo_182 (by decide +kernel) rfl
theorem dX4_nobodys_40 : decode cX4_nobodys 40 = .ok (.ireturn, 1) := qd_p qo_172 (by decide +kernel)
theorem dX4_from_0 : decode cX4_from 0 = .ok (.aload_n 0, 1) := qd_p qo_42 (by decide +kernel)
theorem dX4_from_1 : decode cX4_from 1 = .ok (.iconst 0, 1) := qd_p qo_3 (by decide +kernel)
theorem dX4_from_2 : decode cX4_from 2 = .ok (.putfield 70, 3) := qz_2 .putfield 0 70 qo_181 (by decide +kernel) rfl
theorem dX4_from_5 : decode cX4_from 5 = .ok (.aload_n 0, 1) := qd_p qo_42 (by decide +kernel)
theorem dX4_from_6 : decode cX4_from 6 = .ok (.iload_n 1, 1) := qd_p qo_27 (by decide +kernel)
theorem dX4_from_7 : decode cX4_from 7 = .ok (.invokevirtual 88, 3) := qz_2 .invokevirtual 0 88 qo_182 (by decide +kernel) rfl
theorem dX4_from_10 : decode cX4_from 10 = .ok (.ifCond .eq 10, 3) := qz_s2 (.ifCond .eq) 0 10 qo_153 (by decide +kernel) rfl
theorem dX4_from_13 : decode cX4_from 13 = .ok (.iload_n 2, 1) := qd_p qo_28 (by decide +kernel)
theorem dX4_from_14 : decode cX4_from 14 = .ok (.invokestatic 243, 3) := qz_2 .invokestatic 0 243 qo_184 (by decide +kernel) rfl
theorem dX4_from_17 : decode cX4_from 17 = .ok (.ifCond .ne 9, 3) := qz_s2 (.ifCond .ne) 0 9 qo_154 (by decide +kernel) rfl
theorem dX4_from_20 : decode cX4_from 20 = .ok (.aload_n 0, 1) := qd_p qo_42 (by decide +kernel)
theorem dX4_from_21 : decode cX4_from 21 = .ok (.iconst (-1), 1) := qd_p qo_2 (by decide +kernel)
theorem dX4_from_22 : decode cX4_from 22 = .ok (.invokevirtual 143, 3) := qz_2 .invokevirtual 0 143 qo_182 (by decide +kernel) rfl
theorem dX4_from_25 : decode cX4_from 25 = .ok (.ireturn, 1) := qd_p qo_172 (by decide +kernel)
theorem dX4_from_26 : decode cX4_from 26 = .ok (.aload_n 0, 1) := qd_p qo_42 (by decide +kernel)
theorem dX4_from_27 : decode cX4_from 27 = .ok (.invokevirtual 134, 3) := qz_2 .invokevirtual 0 134 qo_182 (by decide +kernel) rfl
theorem dX4_from_30 : decode cX4_from 30 = .ok (.iconst 0, 1) := qd_p qo_3 (by decide +kernel)
theorem dX4_from_31 : decode cX4_from 31 = .ok (.istore_n 3, 1) := qd_p qo_62 (by decide +kernel)
theorem dX4_from_32 : decode cX4_from 32 = .ok (.iload_n 3, 1) := qd_p qo_29 (by decide +kernel)
theorem dX4_from_33 : decode cX4_from 33 = .ok (.sipush 999, 3) := qz_s2 .sipush 3 231 qo_17 (by decide +kernel) rfl
theorem dX4_from_36 : decode cX4_from 36 = .ok (.if_icmp .gt 21, 3) := qz_s2 (.if_icmp .gt) 0 21 qo_163 (by decide +kernel) rfl
theorem dX4_from_39 : decode cX4_from 39 = .ok (.aload_n 0, 1) := qd_p qo_42 (by decide +kernel)
theorem dX4_from_40 : decode cX4_from 40 = .ok (.iload_n 2, 1) := qd_p qo_28 (by decide +kernel)
theorem dX4_from_41 : decode cX4_from 41 = .ok (.iload_n 3, 1) := qd_p qo_29 (by decide +kernel)
theorem dX4_from_42 : decode cX4_from 42 = .ok (.invokevirtual 125, 3) := qz_2 .invokevirtual 0 125 qo_182 (by decide +kernel) rfl
theorem dX4_from_45 : decode cX4_from 45 = .ok (.iload_n 1, 1) := qd_p qo_27 (by decide +kernel)
theorem dX4_from_46 : decode cX4_from 46 = .ok (.if_icmp .ne 5, 3) := qz_s2 (.if_icmp .ne) 0 5 qo_160 (by decide +kernel) rfl
theorem dX4_from_49 : decode cX4_from 49 = .ok (.iload_n 3, 1) := qd_p qo_29 (by decide +kernel)
theorem dX4_from_50 : decode cX4_from 50 = .ok (.ireturn, 1) := qd_p qo_172 (by decide +kernel)
theorem dX4_from_51 : decode cX4_from 51 = .ok (.iinc 3 1, 3) := qd_i (x := 3) (y := 1) qo_132 (by decide +kernel) rfl
theorem dX4_from_54 : decode cX4_from 54 = .ok (.goto (-22), 3) := qz_s2 .goto 255 234 qo_167 (by decide +kernel) rfl
theorem dX4_from_57 : decode cX4_from 57 = .ok (.bipush (-9), 2) := qz_s1 .bipush 247 qo_16 (by decide +kernel) rfl
theorem dX4_from_59 : decode cX4_from 59 = .ok (.ireturn, 1) := qd_p qo_172 (by decide +kernel)
theorem dX4_lost_0 : decode cX4_lost 0 = .ok (.aload_n 0, 1) := qd_p qo_42 (by decide +kernel)
theorem dX4_lost_1 : decode cX4_lost 1 = .ok (.iconst 0, 1) := qd_p qo_3 (by decide +kernel)
theorem dX4_lost_2 : decode cX4_lost 2 = .ok (.putfield 70, 3) := qz_2 .putfield 0 70 qo_181 (by decide +kernel) rfl
theorem dX4_lost_5 : decode cX4_lost 5 = .ok (.iload_n 1, 1) := qd_p qo_27 (by decide +kernel)
theorem dX4_lost_6 : decode cX4_lost 6 = .ok (.invokestatic 243, 3) := qz_2 .invokestatic 0 243 qo_184 (by decide +kernel) rfl
theorem dX4_lost_9 : decode cX4_lost 9 = .ok (.ifCond .ne 9, 3) := qz_s2 (.ifCond .ne) 0 9 qo_154 (by decide +kernel) rfl
theorem dX4_lost_12 : decode cX4_lost 12 = .ok (.aload_n 0, 1) := qd_p qo_42 (by decide +kernel)
theorem dX4_lost_13 : decode cX4_lost 13 = .ok (.iconst (-1), 1) := qd_p qo_2 (by decide +kernel)
theorem dX4_lost_14 : decode cX4_lost 14 = .ok (.invokevirtual 143, 3) := qz_2 .invokevirtual 0 143 qo_182 (by decide +kernel) rfl
theorem dX4_lost_17 : decode cX4_lost 17 = .ok (.ireturn, 1) := qd_p qo_172 (by decide +kernel)
theorem dX4_lost_18 : decode cX4_lost 18 = .ok (.aload_n 0, 1) := qd_p qo_42 (by decide +kernel)
theorem dX4_lost_19 : decode cX4_lost 19 = .ok (.invokevirtual 134, 3) := qz_2 .invokevirtual 0 134 qo_182 (by decide +kernel) rfl
theorem dX4_lost_22 : decode cX4_lost 22 = .ok (.aload_n 0, 1) := qd_p qo_42 (by decide +kernel)
theorem dX4_lost_23 : decode cX4_lost 23 = .ok (.iload_n 1, 1) := qd_p qo_27 (by decide +kernel)
theorem dX4_lost_24 : decode cX4_lost 24 = .ok (.iconst 0, 1) := qd_p qo_3 (by decide +kernel)
theorem dX4_lost_25 : decode cX4_lost 25 = .ok (.invokevirtual 125, 3) := qz_2 .invokevirtual 0 125 qo_182 (by decide +kernel) rfl
theorem dX4_lost_28 : decode cX4_lost 28 = .ok (.istore_n 2, 1) := qd_p qo_61 (by decide +kernel)
theorem dX4_lost_29 : decode cX4_lost 29 = .ok (.iload_n 2, 1) := qd_p qo_28 (by decide +kernel)
theorem dX4_lost_30 : decode cX4_lost 30 = .ok (.ifCond .ge 10, 3) := qz_s2 (.ifCond .ge) 0 10 qo_156 (by decide +kernel) rfl
theorem dX4_lost_33 : decode cX4_lost 33 = .ok (.aload_n 0, 1) := qd_p qo_42 (by decide +kernel)
theorem dX4_lost_34 : decode cX4_lost 34 = .ok (.bipush (-3), 2) := qz_s1 .bipush 253 qo_16 (by decide +kernel) rfl
theorem dX4_lost_36 : decode cX4_lost 36 = .ok (.invokevirtual 143, 3) := qz_2 .invokevirtual 0 143 qo_182 (by decide +kernel) rfl
theorem dX4_lost_39 : decode cX4_lost 39 = .ok (.ireturn, 1) := qd_p qo_172 (by decide +kernel)
theorem dX4_lost_40 : decode cX4_lost 40 = .ok (.iconst 1, 1) := qd_p qo_4 (by decide +kernel)
theorem dX4_lost_41 : decode cX4_lost 41 = .ok (.istore_n 3, 1) := qd_p qo_62 (by decide +kernel)
theorem dX4_lost_42 : decode cX4_lost 42 = .ok (.iload_n 3, 1) := qd_p qo_29 (by decide +kernel)
theorem dX4_lost_43 : decode cX4_lost 43 = .ok (.sipush 999, 3) := qz_s2 .sipush 3 231 qo_17 (by decide +kernel) rfl
theorem dX4_lost_46 : decode cX4_lost 46 = .ok (.if_icmp .gt 21, 3) := qz_s2 (.if_icmp .gt) 0 21 qo_163 (by decide +kernel) rfl
theorem dX4_lost_49 : decode cX4_lost 49 = .ok (.aload_n 0, 1) := qd_p qo_42 (by decide +kernel)
theorem dX4_lost_50 : decode cX4_lost 50 = .ok (.iload_n 1, 1) := qd_p qo_27 (by decide +kernel)
theorem dX4_lost_51 : decode cX4_lost 51 = .ok (.iload_n 3, 1) := qd_p qo_29 (by decide +kernel)
theorem dX4_lost_52 : decode cX4_lost 52 = .ok (.invokevirtual 125, 3) := qz_2 .invokevirtual 0 125 qo_182 (by decide +kernel) rfl
theorem dX4_lost_55 : decode cX4_lost 55 = .ok (.iload_n 2, 1) := qd_p qo_28 (by decide +kernel)
theorem dX4_lost_56 : decode cX4_lost 56 = .ok (.if_icmp .eq 5, 3) := qz_s2 (.if_icmp .eq) 0 5 qo_159 (by decide +kernel) rfl
theorem dX4_lost_59 : decode cX4_lost 59 = .ok (.iload_n 3, 1) := qd_p qo_29 (by decide +kernel)
theorem dX4_lost_60 : decode cX4_lost 60 = .ok (.ireturn, 1) := qd_p qo_172 (by decide +kernel)
theorem dX4_lost_61 : decode cX4_lost 61 = .ok (.iinc 3 1, 3) := qd_i (x := 3) (y := 1) qo_132 (by decide +kernel) rfl
theorem dX4_lost_64 : decode cX4_lost 64 = .ok (.goto (-22), 3) := qz_s2 .goto 255 234 qo_167 (by decide +kernel) rfl
theorem dX4_lost_67 : decode cX4_lost 67 = .ok (.bipush (-9), 2) := qz_s1 .bipush 247 qo_16 (by decide +kernel) rfl
theorem dX4_lost_69 : decode cX4_lost 69 = .ok (.ireturn, 1) := qd_p qo_172 (by decide +kernel)
theorem dX4_richestIn_0 : decode cX4_richestIn 0 = .ok (.bipush (-9), 2) := qz_s1 .bipush 247 qo_16 (by decide +kernel) rfl
theorem dX4_richestIn_2 : decode cX4_richestIn 2 = .ok (.istore_n 2, 1) := qd_p qo_61 (by decide +kernel)
theorem dX4_richestIn_3 : decode cX4_richestIn 3 = .ok (.iconst 0, 1) := qd_p qo_3 (by decide +kernel)
theorem dX4_richestIn_4 : decode cX4_richestIn 4 = .ok (.istore_n 3, 1) := qd_p qo_62 (by decide +kernel)
theorem dX4_richestIn_5 : decode cX4_richestIn 5 = .ok (.iload_n 3, 1) := qd_p qo_29 (by decide +kernel)
theorem dX4_richestIn_6 : decode cX4_richestIn 6 = .ok (.aload_n 0, 1) := qd_p qo_42 (by decide +kernel)
theorem dX4_richestIn_7 : decode cX4_richestIn 7 = .ok (.getfield 74, 3) := qz_2 .getfield 0 74 qo_180 (by decide +kernel) rfl
theorem dX4_richestIn_10 : decode cX4_richestIn 10 = .ok (.if_icmp .ge 34, 3) := qz_s2 (.if_icmp .ge) 0 34 qo_162 (by decide +kernel) rfl
theorem dX4_richestIn_13 : decode cX4_richestIn 13 = .ok (.iload_n 2, 1) := qd_p qo_28 (by decide +kernel)
theorem dX4_richestIn_14 : decode cX4_richestIn 14 = .ok (.ifCond .lt 18, 3) := qz_s2 (.ifCond .lt) 0 18 qo_155 (by decide +kernel) rfl
theorem dX4_richestIn_17 : decode cX4_richestIn 17 = .ok (.aload_n 0, 1) := qd_p qo_42 (by decide +kernel)
theorem dX4_richestIn_18 : decode cX4_richestIn 18 = .ok (.iload_n 3, 1) := qd_p qo_29 (by decide +kernel)
theorem dX4_richestIn_19 : decode cX4_richestIn 19 = .ok (.iload_n 1, 1) := qd_p qo_27 (by decide +kernel)
theorem dX4_richestIn_20 : decode cX4_richestIn 20 = .ok (.invokevirtual 137, 3) := qz_2 .invokevirtual 0 137 qo_182 (by decide +kernel) rfl
theorem dX4_richestIn_23 : decode cX4_richestIn 23 = .ok (.aload_n 0, 1) := qd_p qo_42 (by decide +kernel)
theorem dX4_richestIn_24 : decode cX4_richestIn 24 = .ok (.iload_n 2, 1) := qd_p qo_28 (by decide +kernel)
theorem dX4_richestIn_25 : decode cX4_richestIn 25 = .ok (.iload_n 1, 1) := qd_p qo_27 (by decide +kernel)
theorem dX4_richestIn_26 : decode cX4_richestIn 26 = .ok (.invokevirtual 137, 3) := qz_2 .invokevirtual 0 137 qo_182 (by decide +kernel) rfl
theorem dX4_richestIn_29 : decode cX4_richestIn 29 = .ok (.if_icmp .le 7, 3) := qz_s2 (.if_icmp .le) 0 7 qo_164 (by decide +kernel) rfl
theorem dX4_richestIn_32 : decode cX4_richestIn 32 = .ok (.iload_n 3, 1) := qd_p qo_29 (by decide +kernel)
theorem dX4_richestIn_33 : decode cX4_richestIn 33 = .ok (.goto 4, 3) := qz_s2 .goto 0 4 qo_167 (by decide +kernel) rfl
theorem dX4_richestIn_36 : decode cX4_richestIn 36 = .ok (.iload_n 2, 1) := qd_p qo_28 (by decide +kernel)
theorem dX4_richestIn_37 : decode cX4_richestIn 37 = .ok (.istore_n 2, 1) := qd_p qo_61 (by decide +kernel)
theorem dX4_richestIn_38 : decode cX4_richestIn 38 = .ok (.iinc 3 1, 3) := qd_i (x := 3) (y := 1) qo_132 (by decide +kernel) rfl
theorem dX4_richestIn_41 : decode cX4_richestIn 41 = .ok (.goto (-36), 3) := qz_s2 .goto 255 220 qo_167 (by decide +kernel) rfl
theorem dX4_richestIn_44 : decode cX4_richestIn 44 = .ok (.iload_n 2, 1) := qd_p qo_28 (by decide +kernel)
theorem dX4_richestIn_45 : decode cX4_richestIn 45 = .ok (.ireturn, 1) := qd_p qo_172 (by decide +kernel)
theorem dX4_richest_0 : decode cX4_richest 0 = .ok (.aload_n 0, 1) := qd_p qo_42 (by decide +kernel)
theorem dX4_richest_1 : decode cX4_richest 1 = .ok (.iconst 0, 1) := qd_p qo_3 (by decide +kernel)
theorem dX4_richest_2 : decode cX4_richest 2 = .ok (.putfield 70, 3) := qz_2 .putfield 0 70 qo_181 (by decide +kernel) rfl
theorem dX4_richest_5 : decode cX4_richest 5 = .ok (.iload_n 1, 1) := qd_p qo_27 (by decide +kernel)
theorem dX4_richest_6 : decode cX4_richest 6 = .ok (.iconst 0, 1) := qd_p qo_3 (by decide +kernel)
theorem dX4_richest_7 : decode cX4_richest 7 = .ok (.sipush 999, 3) := qz_s2 .sipush 3 231 qo_17 (by decide +kernel) rfl
theorem dX4_richest_10 : decode cX4_richest 10 = .ok (.invokestatic 231, 3) := qz_2 .invokestatic 0 231 qo_184 (by decide +kernel) rfl
theorem dX4_richest_13 : decode cX4_richest 13 = .ok (.iload_n 2, 1) := qd_p qo_28 (by decide +kernel)
theorem dX4_richest_14 : decode cX4_richest 14 = .ok (.iconst 1, 1) := qd_p qo_4 (by decide +kernel)
theorem dX4_richest_15 : decode cX4_richest 15 = .ok (.invokestatic 251, 3) := qz_2 .invokestatic 0 251 qo_184 (by decide +kernel) rfl
theorem dX4_richest_18 : decode cX4_richest 18 = .ok (.istore_n 3, 1) := qd_p qo_62 (by decide +kernel)
theorem dX4_richest_19 : decode cX4_richest 19 = .ok (.iload_n 3, 1) := qd_p qo_29 (by decide +kernel)
theorem dX4_richest_20 : decode cX4_richest 20 = .ok (.ifCond .ge 9, 3) := qz_s2 (.ifCond .ge) 0 9 qo_156 (by decide +kernel) rfl
theorem dX4_richest_23 : decode cX4_richest 23 = .ok (.aload_n 0, 1) := qd_p qo_42 (by decide +kernel)
theorem dX4_richest_24 : decode cX4_richest 24 = .ok (.iload_n 3, 1) := qd_p qo_29 (by decide +kernel)
theorem dX4_richest_25 : decode cX4_richest 25 = .ok (.invokevirtual 143, 3) := qz_2 .invokevirtual 0 143 qo_182 (by decide +kernel) rfl
theorem dX4_richest_28 : decode cX4_richest 28 = .ok (.ireturn, 1) := qd_p qo_172 (by decide +kernel)
theorem dX4_richest_29 : decode cX4_richest 29 = .ok (.aload_n 0, 1) := qd_p qo_42 (by decide +kernel)
theorem dX4_richest_30 : decode cX4_richest 30 = .ok (.invokevirtual 134, 3) := qz_2 .invokevirtual 0 134 qo_182 (by decide +kernel) rfl
theorem dX4_richest_33 : decode cX4_richest 33 = .ok (.aload_n 0, 1) := qd_p qo_42 (by decide +kernel)
theorem dX4_richest_34 : decode cX4_richest 34 = .ok (.iload_n 1, 1) := qd_p qo_27 (by decide +kernel)
theorem dX4_richest_35 : decode cX4_richest 35 = .ok (.invokevirtual 254, 3) := qz_2 .invokevirtual 0 254 qo_182 (by decide +kernel) rfl
theorem dX4_richest_38 : decode cX4_richest 38 = .ok (.istore 4, 2) := qz_1 .istore 4 qo_54 (by decide +kernel)
theorem dX4_richest_40 : decode cX4_richest 40 = .ok (.iload_n 2, 1) := qd_p qo_28 (by decide +kernel)
theorem dX4_richest_41 : decode cX4_richest 41 = .ok (.ifCond .eq 8, 3) := qz_s2 (.ifCond .eq) 0 8 qo_153 (by decide +kernel) rfl
theorem dX4_richest_44 : decode cX4_richest 44 = .ok (.iload 4, 2) := qz_1 .iload 4 qo_21 (by decide +kernel)
theorem dX4_richest_46 : decode cX4_richest 46 = .ok (.ifCond .ge 8, 3) := qz_s2 (.ifCond .ge) 0 8 qo_156 (by decide +kernel) rfl
theorem dX4_richest_49 : decode cX4_richest 49 = .ok (.iload 4, 2) := qz_1 .iload 4 qo_21 (by decide +kernel)
theorem dX4_richest_51 : decode cX4_richest 51 = .ok (.goto 10, 3) := qz_s2 .goto 0 10 qo_167 (by decide +kernel) rfl
theorem dX4_richest_54 : decode cX4_richest 54 = .ok (.aload_n 0, 1) := qd_p qo_42 (by decide +kernel)
theorem dX4_richest_55 : decode cX4_richest 55 = .ok (.iload 4, 2) := qz_1 .iload 4 qo_21 (by decide +kernel)
theorem dX4_richest_57 : decode cX4_richest 57 = .ok (.iload_n 1, 1) := qd_p qo_27 (by decide +kernel)
theorem dX4_richest_58 : decode cX4_richest 58 = .ok (.invokevirtual 137, 3) := qz_2 .invokevirtual 0 137 qo_182 (by decide +kernel) rfl
theorem dX4_richest_61 : decode cX4_richest 61 = .ok (.ireturn, 1) := qd_p qo_172 (by decide +kernel)
theorem dX4_staredOut_0 : decode cX4_staredOut 0 = .ok (.aload_n 0, 1) := qd_p qo_42 (by decide +kernel)
theorem dX4_staredOut_1 : decode cX4_staredOut 1 = .ok (.iconst 0, 1) := qd_p qo_3 (by decide +kernel)
theorem dX4_staredOut_2 : decode cX4_staredOut 2 = .ok (.putfield 70, 3) := qz_2 .putfield 0 70 qo_181 (by decide +kernel) rfl
theorem dX4_staredOut_5 : decode cX4_staredOut 5 = .ok (.aload_n 0, 1) := qd_p qo_42 (by decide +kernel)
theorem dX4_staredOut_6 : decode cX4_staredOut 6 = .ok (.iload_n 1, 1) := qd_p qo_27 (by decide +kernel)
theorem dX4_staredOut_7 : decode cX4_staredOut 7 = .ok (.iload_n 2, 1) := qd_p qo_28 (by decide +kernel)
theorem dX4_staredOut_8 : decode cX4_staredOut 8 = .ok (.invokevirtual 257, 3) := qz_2 .invokevirtual 1 1 qo_182 (by decide +kernel) rfl
theorem dX4_staredOut_11 : decode cX4_staredOut 11 = .ok (.ifCond .eq 14, 3) := qz_s2 (.ifCond .eq) 0 14 qo_153 (by decide +kernel) rfl
theorem dX4_staredOut_14 : decode cX4_staredOut 14 = .ok (.iload_n 3, 1) := qd_p qo_29 (by decide +kernel)
theorem dX4_staredOut_15 : decode cX4_staredOut 15 = .ok (.iconst 0, 1) := qd_p qo_3 (by decide +kernel)
theorem dX4_staredOut_16 : decode cX4_staredOut 16 = .ok (.sipush 999, 3) := qz_s2 .sipush 3 231 qo_17 (by decide +kernel) rfl
theorem dX4_staredOut_19 : decode cX4_staredOut 19 = .ok (.invokestatic 231, 3) := qz_2 .invokestatic 0 231 qo_184 (by decide +kernel) rfl
theorem dX4_staredOut_22 : decode cX4_staredOut 22 = .ok (.goto 4, 3) := qz_s2 .goto 0 4 qo_167 (by decide +kernel) rfl
theorem dX4_staredOut_25 : decode cX4_staredOut 25 = .ok (.iconst (-1), 1) := qd_p qo_2 (by decide +kernel)
theorem dX4_staredOut_26 : decode cX4_staredOut 26 = .ok (.istore 4, 2) := qz_1 .istore 4 qo_54 (by decide +kernel)
theorem dX4_staredOut_28 : decode cX4_staredOut 28 = .ok (.iload 4, 2) := qz_1 .iload 4 qo_21 (by decide +kernel)
theorem dX4_staredOut_30 : decode cX4_staredOut 30 = .ok (.ifCond .ge 10, 3) := qz_s2 (.ifCond .ge) 0 10 qo_156 (by decide +kernel) rfl
theorem dX4_staredOut_33 : decode cX4_staredOut 33 = .ok (.aload_n 0, 1) := qd_p qo_42 (by decide +kernel)
theorem dX4_staredOut_34 : decode cX4_staredOut 34 = .ok (.iload 4, 2) := qz_1 .iload 4 qo_21 (by decide +kernel)
theorem dX4_staredOut_36 : decode cX4_staredOut 36 = .ok (.invokevirtual 143, 3) := qz_2 .invokevirtual 0 143 qo_182 (by decide +kernel) rfl
theorem dX4_staredOut_39 : decode cX4_staredOut 39 = .ok (.ireturn, 1) := qd_p qo_172 (by decide +kernel)
theorem dX4_staredOut_40 : decode cX4_staredOut 40 = .ok (.aload_n 0, 1) := qd_p qo_42 (by decide +kernel)
theorem dX4_staredOut_41 : decode cX4_staredOut 41 = .ok (.invokevirtual 134, 3) := qz_2 .invokevirtual 0 134 qo_182 (by decide +kernel) rfl
theorem dX4_staredOut_44 : decode cX4_staredOut 44 = .ok (.aload_n 0, 1) := qd_p qo_42 (by decide +kernel)
theorem dX4_staredOut_45 : decode cX4_staredOut 45 = .ok (.iload_n 1, 1) := qd_p qo_27 (by decide +kernel)
theorem dX4_staredOut_46 : decode cX4_staredOut 46 = .ok (.iconst 0, 1) := qd_p qo_3 (by decide +kernel)
theorem dX4_staredOut_47 : decode cX4_staredOut 47 = .ok (.invokevirtual 128, 3) := qz_2 .invokevirtual 0 128 qo_182 (by decide +kernel) rfl
theorem dX4_staredOut_50 : decode cX4_staredOut 50 = .ok (.aload_n 0, 1) := qd_p qo_42 (by decide +kernel)
theorem dX4_staredOut_51 : decode cX4_staredOut 51 = .ok (.iload_n 2, 1) := qd_p qo_28 (by decide +kernel)
theorem dX4_staredOut_52 : decode cX4_staredOut 52 = .ok (.iload_n 3, 1) := qd_p qo_29 (by decide +kernel)
theorem dX4_staredOut_53 : decode cX4_staredOut 53 = .ok (.invokevirtual 128, 3) := qz_2 .invokevirtual 0 128 qo_182 (by decide +kernel) rfl
theorem dX4_staredOut_56 : decode cX4_staredOut 56 = .ok (.iand, 1) := qd_p qo_126 (by decide +kernel)
theorem dX4_staredOut_57 : decode cX4_staredOut 57 = .ok (.ireturn, 1) := qd_p qo_172 (by decide +kernel)
theorem dX4_moreHours_0 : decode cX4_moreHours 0 = .ok (.aload_n 0, 1) := qd_p qo_42 (by decide +kernel)
theorem dX4_moreHours_1 : decode cX4_moreHours 1 = .ok (.iconst 0, 1) := qd_p qo_3 (by decide +kernel)
theorem dX4_moreHours_2 : decode cX4_moreHours 2 = .ok (.putfield 70, 3) := qz_2 .putfield 0 70 qo_181 (by decide +kernel) rfl
theorem dX4_moreHours_5 : decode cX4_moreHours 5 = .ok (.aload_n 0, 1) := qd_p qo_42 (by decide +kernel)
theorem dX4_moreHours_6 : decode cX4_moreHours 6 = .ok (.iload_n 1, 1) := qd_p qo_27 (by decide +kernel)
theorem dX4_moreHours_7 : decode cX4_moreHours 7 = .ok (.invokevirtual 88, 3) := qz_2 .invokevirtual 0 88 qo_182 (by decide +kernel) rfl
theorem dX4_moreHours_10 : decode cX4_moreHours 10 = .ok (.ifCond .eq 21, 3) := qz_s2 (.ifCond .eq) 0 21 qo_153 (by decide +kernel) rfl
theorem dX4_moreHours_13 : decode cX4_moreHours 13 = .ok (.iload_n 2, 1) := qd_p qo_28 (by decide +kernel)
theorem dX4_moreHours_14 : decode cX4_moreHours 14 = .ok (.invokestatic 243, 3) := qz_2 .invokestatic 0 243 qo_184 (by decide +kernel) rfl
theorem dX4_moreHours_17 : decode cX4_moreHours 17 = .ok (.ifCond .eq 14, 3) := qz_s2 (.ifCond .eq) 0 14 qo_153 (by decide +kernel) rfl
theorem dX4_moreHours_20 : decode cX4_moreHours 20 = .ok (.iload_n 3, 1) := qd_p qo_29 (by decide +kernel)
theorem dX4_moreHours_21 : decode cX4_moreHours 21 = .ok (.iconst 1, 1) := qd_p qo_4 (by decide +kernel)
theorem dX4_moreHours_22 : decode cX4_moreHours 22 = .ok (.sipush 999, 3) := qz_s2 .sipush 3 231 qo_17 (by decide +kernel) rfl
theorem dX4_moreHours_25 : decode cX4_moreHours 25 = .ok (.invokestatic 231, 3) := qz_2 .invokestatic 0 231 qo_184 (by decide +kernel) rfl
theorem dX4_moreHours_28 : decode cX4_moreHours 28 = .ok (.goto 4, 3) := qz_s2 .goto 0 4 qo_167 (by decide +kernel) rfl
theorem dX4_moreHours_31 : decode cX4_moreHours 31 = .ok (.iconst (-1), 1) := qd_p qo_2 (by decide +kernel)
theorem dX4_moreHours_32 : decode cX4_moreHours 32 = .ok (.istore 4, 2) := qz_1 .istore 4 qo_54 (by decide +kernel)
theorem dX4_moreHours_34 : decode cX4_moreHours 34 = .ok (.iload 4, 2) := qz_1 .iload 4 qo_21 (by decide +kernel)
theorem dX4_moreHours_36 : decode cX4_moreHours 36 = .ok (.ifCond .ge 10, 3) := qz_s2 (.ifCond .ge) 0 10 qo_156 (by decide +kernel) rfl
theorem dX4_moreHours_39 : decode cX4_moreHours 39 = .ok (.aload_n 0, 1) := qd_p qo_42 (by decide +kernel)
theorem dX4_moreHours_40 : decode cX4_moreHours 40 = .ok (.iload 4, 2) := qz_1 .iload 4 qo_21 (by decide +kernel)
theorem dX4_moreHours_42 : decode cX4_moreHours 42 = .ok (.invokevirtual 143, 3) := qz_2 .invokevirtual 0 143 qo_182 (by decide +kernel) rfl
theorem dX4_moreHours_45 : decode cX4_moreHours 45 = .ok (.ireturn, 1) := qd_p qo_172 (by decide +kernel)
theorem dX4_moreHours_46 : decode cX4_moreHours 46 = .ok (.aload_n 0, 1) := qd_p qo_42 (by decide +kernel)
theorem dX4_moreHours_47 : decode cX4_moreHours 47 = .ok (.invokevirtual 134, 3) := qz_2 .invokevirtual 0 134 qo_182 (by decide +kernel) rfl
theorem dX4_moreHours_50 : decode cX4_moreHours 50 = .ok (.aload_n 0, 1) := qd_p qo_42 (by decide +kernel)
theorem dX4_moreHours_51 : decode cX4_moreHours 51 = .ok (.iload_n 2, 1) := qd_p qo_28 (by decide +kernel)
theorem dX4_moreHours_52 : decode cX4_moreHours 52 = .ok (.iload_n 3, 1) := qd_p qo_29 (by decide +kernel)
theorem dX4_moreHours_53 : decode cX4_moreHours 53 = .ok (.invokevirtual 125, 3) := qz_2 .invokevirtual 0 125 qo_182 (by decide +kernel) rfl
theorem dX4_moreHours_56 : decode cX4_moreHours 56 = .ok (.iload_n 1, 1) := qd_p qo_27 (by decide +kernel)
theorem dX4_moreHours_57 : decode cX4_moreHours 57 = .ok (.if_icmp .ne 5, 3) := qz_s2 (.if_icmp .ne) 0 5 qo_160 (by decide +kernel) rfl
theorem dX4_moreHours_60 : decode cX4_moreHours 60 = .ok (.iconst 0, 1) := qd_p qo_3 (by decide +kernel)
theorem dX4_moreHours_61 : decode cX4_moreHours 61 = .ok (.ireturn, 1) := qd_p qo_172 (by decide +kernel)
theorem dX4_moreHours_62 : decode cX4_moreHours 62 = .ok (.aload_n 0, 1) := qd_p qo_42 (by decide +kernel)
theorem dX4_moreHours_63 : decode cX4_moreHours 63 = .ok (.getfield 16, 3) := qz_2 .getfield 0 16 qo_180 (by decide +kernel) rfl
theorem dX4_moreHours_66 : decode cX4_moreHours 66 = .ok (.iload_n 1, 1) := qd_p qo_27 (by decide +kernel)
theorem dX4_moreHours_67 : decode cX4_moreHours 67 = .ok (.iaload, 1) := qd_p qo_46 (by decide +kernel)
theorem dX4_moreHours_68 : decode cX4_moreHours 68 = .ok (.iconst 2, 1) := qd_p qo_5 (by decide +kernel)
theorem dX4_moreHours_69 : decode cX4_moreHours 69 = .ok (.if_icmp .eq 14, 3) := qz_s2 (.if_icmp .eq) 0 14 qo_159 (by decide +kernel) rfl
theorem dX4_moreHours_72 : decode cX4_moreHours 72 = .ok (.aload_n 0, 1) := qd_p qo_42 (by decide +kernel)
theorem dX4_moreHours_73 : decode cX4_moreHours 73 = .ok (.invokevirtual 96, 3) := qz_2 .invokevirtual 0 96 qo_182 (by decide +kernel) rfl
theorem dX4_moreHours_76 : decode cX4_moreHours 76 = .ok (.iload_n 2, 1) := qd_p qo_28 (by decide +kernel)
theorem dX4_moreHours_77 : decode cX4_moreHours 77 = .ok (.invokestatic 104, 3) := qz_2 .invokestatic 0 104 qo_184 (by decide +kernel) rfl
theorem dX4_moreHours_80 : decode cX4_moreHours 80 = .ok (.ifCond .ne 6, 3) := qz_s2 (.ifCond .ne) 0 6 qo_154 (by decide +kernel) rfl
theorem dX4_moreHours_83 : decode cX4_moreHours 83 = .ok (.bipush (-9), 2) := qz_s1 .bipush 247 qo_16 (by decide +kernel) rfl
theorem dX4_moreHours_85 : decode cX4_moreHours 85 = .ok (.ireturn, 1) := qd_p qo_172 (by decide +kernel)
theorem dX4_moreHours_86 : decode cX4_moreHours 86 = .ok (.iconst 0, 1) := qd_p qo_3 (by decide +kernel)
theorem dX4_moreHours_87 : decode cX4_moreHours 87 = .ok (.istore 5, 2) := qz_1 .istore 5 qo_54 (by decide +kernel)
theorem dX4_moreHours_89 : decode cX4_moreHours 89 = .ok (.bipush 10, 2) := qz_s1 .bipush 10 qo_16 (by decide +kernel) rfl
theorem dX4_moreHours_91 : decode cX4_moreHours 91 = .ok (.istore 6, 2) := qz_1 .istore 6 qo_54 (by decide +kernel)
theorem dX4_moreHours_93 : decode cX4_moreHours 93 = .ok (.iload 6, 2) := qz_1 .iload 6 qo_21 (by decide +kernel)
theorem dX4_moreHours_95 : decode cX4_moreHours 95 = .ok (.ifCond .lt 84, 3) := qz_s2 (.ifCond .lt) 0 84 qo_155 (by decide +kernel) rfl
theorem dX4_moreHours_98 : decode cX4_moreHours 98 = .ok (.iconst 0, 1) := qd_p qo_3 (by decide +kernel)
theorem dX4_moreHours_99 : decode cX4_moreHours 99 = .ok (.istore 7, 2) := qz_1 .istore 7 qo_54 (by decide +kernel)
theorem dX4_moreHours_101 : decode cX4_moreHours 101 = .ok (.iload 7, 2) := qz_1 .iload 7 qo_21 (by decide +kernel)
theorem dX4_moreHours_103 : decode cX4_moreHours 103 = .ok (.bipush 24, 2) := qz_s1 .bipush 24 qo_16 (by decide +kernel) rfl
theorem dX4_moreHours_105 : decode cX4_moreHours 105 = .ok (.if_icmp .ge 68, 3) := qz_s2 (.if_icmp .ge) 0 68 qo_162 (by decide +kernel) rfl
theorem dX4_moreHours_108 : decode cX4_moreHours 108 = .ok (.aload_n 0, 1) := qd_p qo_42 (by decide +kernel)
theorem dX4_moreHours_109 : decode cX4_moreHours 109 = .ok (.getfield 22, 3) := qz_2 .getfield 0 22 qo_180 (by decide +kernel) rfl
theorem dX4_moreHours_112 : decode cX4_moreHours 112 = .ok (.bipush 24, 2) := qz_s1 .bipush 24 qo_16 (by decide +kernel) rfl
theorem dX4_moreHours_114 : decode cX4_moreHours 114 = .ok (.iload_n 1, 1) := qd_p qo_27 (by decide +kernel)
theorem dX4_moreHours_115 : decode cX4_moreHours 115 = .ok (.imul, 1) := qd_p qo_104 (by decide +kernel)
theorem dX4_moreHours_116 : decode cX4_moreHours 116 = .ok (.iload 7, 2) := qz_1 .iload 7 qo_21 (by decide +kernel)
theorem dX4_moreHours_118 : decode cX4_moreHours 118 = .ok (.iadd, 1) := qd_p qo_96 (by decide +kernel)
theorem dX4_moreHours_119 : decode cX4_moreHours 119 = .ok (.iaload, 1) := qd_p qo_46 (by decide +kernel)
theorem dX4_moreHours_120 : decode cX4_moreHours 120 = .ok (.ifCond .ge 47, 3) := qz_s2 (.ifCond .ge) 0 47 qo_156 (by decide +kernel) rfl
theorem dX4_moreHours_123 : decode cX4_moreHours 123 = .ok (.aload_n 0, 1) := qd_p qo_42 (by decide +kernel)
theorem dX4_moreHours_124 : decode cX4_moreHours 124 = .ok (.iload_n 1, 1) := qd_p qo_27 (by decide +kernel)
theorem dX4_moreHours_125 : decode cX4_moreHours 125 = .ok (.iload 7, 2) := qz_1 .iload 7 qo_21 (by decide +kernel)
theorem dX4_moreHours_127 : decode cX4_moreHours 127 = .ok (.invokevirtual 108, 3) := qz_2 .invokevirtual 0 108 qo_182 (by decide +kernel) rfl
theorem dX4_moreHours_130 : decode cX4_moreHours 130 = .ok (.iload 6, 2) := qz_1 .iload 6 qo_21 (by decide +kernel)
theorem dX4_moreHours_132 : decode cX4_moreHours 132 = .ok (.if_icmp .ne 35, 3) := qz_s2 (.if_icmp .ne) 0 35 qo_160 (by decide +kernel) rfl
theorem dX4_moreHours_135 : decode cX4_moreHours 135 = .ok (.iinc 5 1, 3) := qd_i (x := 5) (y := 1) qo_132 (by decide +kernel) rfl
theorem dX4_moreHours_138 : decode cX4_moreHours 138 = .ok (.aload_n 0, 1) := qd_p qo_42 (by decide +kernel)
theorem dX4_moreHours_139 : decode cX4_moreHours 139 = .ok (.getfield 31, 3) := qz_2 .getfield 0 31 qo_180 (by decide +kernel) rfl
theorem dX4_moreHours_142 : decode cX4_moreHours 142 = .ok (.bipush 8, 2) := qz_s1 .bipush 8 qo_16 (by decide +kernel) rfl
theorem dX4_moreHours_144 : decode cX4_moreHours 144 = .ok (.iload_n 1, 1) := qd_p qo_27 (by decide +kernel)
theorem dX4_moreHours_145 : decode cX4_moreHours 145 = .ok (.imul, 1) := qd_p qo_104 (by decide +kernel)
theorem dX4_moreHours_146 : decode cX4_moreHours 146 = .ok (.iload_n 2, 1) := qd_p qo_28 (by decide +kernel)
theorem dX4_moreHours_147 : decode cX4_moreHours 147 = .ok (.iadd, 1) := qd_p qo_96 (by decide +kernel)
theorem dX4_moreHours_148 : decode cX4_moreHours 148 = .ok (.dup2, 1) := qd_p qo_92 (by decide +kernel)
theorem dX4_moreHours_149 : decode cX4_moreHours 149 = .ok (.iaload, 1) := qd_p qo_46 (by decide +kernel)
theorem dX4_moreHours_150 : decode cX4_moreHours 150 = .ok (.iload 6, 2) := qz_1 .iload 6 qo_21 (by decide +kernel)
theorem dX4_moreHours_152 : decode cX4_moreHours 152 = .ok (.iadd, 1) := qd_p qo_96 (by decide +kernel)
theorem dX4_moreHours_153 : decode cX4_moreHours 153 = .ok (.iastore, 1) := qd_p qo_79 (by decide +kernel)
theorem dX4_moreHours_154 : decode cX4_moreHours 154 = .ok (.aload_n 0, 1) := qd_p qo_42 (by decide +kernel)
theorem dX4_moreHours_155 : decode cX4_moreHours 155 = .ok (.iload_n 2, 1) := qd_p qo_28 (by decide +kernel)
theorem dX4_moreHours_156 : decode cX4_moreHours 156 = .ok (.iload_n 3, 1) := qd_p qo_29 (by decide +kernel)
theorem dX4_moreHours_157 : decode cX4_moreHours 157 = .ok (.invokevirtual 125, 3) := qz_2 .invokevirtual 0 125 qo_182 (by decide +kernel) rfl
theorem dX4_moreHours_160 : decode cX4_moreHours 160 = .ok (.iload_n 1, 1) := qd_p qo_27 (by decide +kernel)
theorem dX4_moreHours_161 : decode cX4_moreHours 161 = .ok (.if_icmp .ne 6, 3) := qz_s2 (.if_icmp .ne) 0 6 qo_160 (by decide +kernel) rfl
theorem dX4_moreHours_164 : decode cX4_moreHours 164 = .ok (.iload 5, 2) := qz_1 .iload 5 qo_21 (by decide +kernel)
theorem dX4_moreHours_166 : decode cX4_moreHours 166 = .ok (.ireturn, 1) := qd_p qo_172 (by decide +kernel)
theorem dX4_moreHours_167 : decode cX4_moreHours 167 = .ok (.iinc 7 1, 3) := qd_i (x := 7) (y := 1) qo_132 (by decide +kernel) rfl
theorem dX4_moreHours_170 : decode cX4_moreHours 170 = .ok (.goto (-69), 3) := qz_s2 .goto 255 187 qo_167 (by decide +kernel) rfl
theorem dX4_moreHours_173 : decode cX4_moreHours 173 = .ok (.iinc 6 (-1), 3) := qd_i (x := 6) (y := 255) qo_132 (by decide +kernel) rfl
theorem dX4_moreHours_176 : decode cX4_moreHours 176 = .ok (.goto (-83), 3) := qz_s2 .goto 255 173 qo_167 (by decide +kernel) rfl
theorem dX4_moreHours_179 : decode cX4_moreHours 179 = .ok (.bipush (-9), 2) := qz_s1 .bipush 247 qo_16 (by decide +kernel) rfl
theorem dX4_moreHours_181 : decode cX4_moreHours 181 = .ok (.ireturn, 1) := qd_p qo_172 (by decide +kernel)
section
variable {p : Program} {l : Launch} {e : Env} {s : State} {m : MethodId} {args : Array Value} {below : List Frame} {meth : Method} {c : Code} {D : va_G} {tI tII : ClassId} {B : Nat}
set_option maxHeartbeats 4000000 in
set_option maxRecDepth 100000 in
theorem w_X4_pane_33 (C : wt_C p s m args meth c RX4 cX4_pane 3 (some .int) D tI tII) {F : Nat} {x1 : Int32} {t0 : Int32} {σ : Mem} {r : Int32} {σ' : Mem} {H : Heap} {locs : List Loc} {ls : Array Slot} (hf : j_X4_pane_33 F x1 t0 σ = some (r, σ')) (hM : wt_St D tI tII B σ s H locs) (hl : lv_has ls 3 [(0, .ref (B + 101)), (1, .int x1)]) : W p l e rm_X4_pane s m args below meth c H locs 0 0 (MQ below (wt_Qi D tI tII B r σ') args s 0 0 (fun q => B ≤ q)) (F0 m 33 ls [.int t0]) := by
  obtain ⟨hx, hb, hts, hown, hml, hr, hlk, hK⟩ := id C
  replace hf := Eq.trans j_X4_pane_33_e.symm hf
  refine lv_istore_n (lv' := [(2, .int t0), (0, .ref (B + 101)), (1, .int x1)]) hx hb dX4_pane_33 rfl hl (by decide) rfl (fun ls hl => ?_)
  refine lv_iload_n hx hb dX4_pane_34 rfl (lv_at hl 0 rfl) ?_
  refine wq_if_ge (tgt := 44) hx hb dX4_pane_35 (by decide) hf (fun hf => ?_) (fun hf => ?_)
  · refine lv_aload_n hx hb dX4_pane_44 rfl (lv_at hl 1 rfl) ?_
    refine gf_X4_shows  hx hb hts hown hK hM tw_712 dX4_pane_45 ?_
    refine lv_aload_n hx hb dX4_pane_48 rfl (lv_at hl 1 rfl) ?_
    refine gf_X4_panes  hx hb hts hown hK hM tw_711 dX4_pane_49 ?_
    refine lv_iload_n hx hb dX4_pane_52 rfl (lv_at hl 2 rfl) ?_
    obtain ⟨i1, hf⟩ := wt_chk_of hf
    refine wt_ist hx hb hK hM wt_a103 i1 dX4_pane_53 hf (fun s2 H locs hf hM => ?_)
    refine lv_aload_n hx hb dX4_pane_54 rfl (lv_at hl 1 rfl) ?_
    refine lv_dup hx hb dX4_pane_55 rfl ?_
    refine gf_X4_panes  hx hb hts hown hK hM tw_711 dX4_pane_56 ?_
    refine lv_iconst (v := 1) hx hb dX4_pane_59 (by decide) ?_
    refine lv_iadd hx hb dX4_pane_60 ?_
    refine pf_X4_panes  hx hb hts hown hK hM tw_711 dX4_pane_61 hf (fun s3 H locs hf hM => ?_)
    refine lv_aload_n hx hb dX4_pane_64 rfl (lv_at hl 1 rfl) ?_
    refine lv_iconst (v := 0) hx hb dX4_pane_65 (by decide) ?_
    refine pf_X4_turned  hx hb hts hown hK hM tw_740 dX4_pane_66 hf (fun s4 H locs hf hM => ?_)
    refine lv_aload_n hx hb dX4_pane_69 rfl (lv_at hl 1 rfl) ?_
    refine gf_X4_panes  hx hb hts hown hK hM tw_711 dX4_pane_70 ?_
    refine lv_iconst (v := 1) hx hb dX4_pane_73 (by decide) ?_
    refine lv_isub hx hb dX4_pane_74 ?_
    exact wt_iret hx hb hr hlk hK hM hf dX4_pane_75
  refine lv_aload_n hx hb dX4_pane_38 rfl (lv_at hl 1 rfl) ?_
  refine lv_iload_n hx hb dX4_pane_39 rfl (lv_at hl 0 rfl) ?_
  refine wt_callVi (As := [.int t0]) (rest := []) hx hb hml hts hown hK hM wt_rc_X4 cw_X4_143 hd_X4_refuse rfl ⟨qz_b rfl, qz_b rfl⟩ ⟨rfl, rfl⟩ hl.1 rfl (qz_b rfl) dX4_pane_40 hf (fun _ _ h9 => c_X4_refuse h9) (fun r5 s6 H locs hf hM => ?_)
  exact wt_iret hx hb hr hlk hK hM hf dX4_pane_43
set_option maxHeartbeats 4000000 in
set_option maxRecDepth 100000 in
theorem w_X4_pane_32 (C : wt_C p s m args meth c RX4 cX4_pane 3 (some .int) D tI tII) {F : Nat} {x1 : Int32} {x2 : Int32} {σ : Mem} {r : Int32} {σ' : Mem} {H : Heap} {locs : List Loc} {ls : Array Slot} (hf : j_X4_pane_32 F x1 x2 σ = some (r, σ')) (hM : wt_St D tI tII B σ s H locs) (hl : lv_has ls 3 [(0, .ref (B + 101)), (1, .int x1), (2, .int x2)]) : W p l e rm_X4_pane s m args below meth c H locs 0 0 (MQ below (wt_Qi D tI tII B r σ') args s 0 0 (fun q => B ≤ q)) (F0 m 32 ls []) := by
  obtain ⟨hx, hb, hts, hown, hml, hr, hlk, hK⟩ := id C
  replace hf := Eq.trans j_X4_pane_32_e.symm hf
  refine lv_iload_n hx hb dX4_pane_32 rfl (lv_at hl 2 rfl) ?_
  exact w_X4_pane_33 C hf hM (lv_sub hl [0, 1] rfl)
set_option maxHeartbeats 4000000 in
set_option maxRecDepth 100000 in
theorem w_X4_pane_0 (C : wt_C p s m args meth c RX4 cX4_pane 3 (some .int) D tI tII) {F : Nat} {x1 : Int32} {σ : Mem} {r : Int32} {σ' : Mem} {H : Heap} {locs : List Loc} {ls : Array Slot} (hf : f_X4_pane F x1 σ = some (r, σ')) (hM : wt_St D tI tII B σ s H locs) (hl : lv_has ls 3 [(0, .ref (B + 101)), (1, .int x1)]) : W p l e rm_X4_pane s m args below meth c H locs 0 0 (MQ below (wt_Qi D tI tII B r σ') args s 0 0 (fun q => B ≤ q)) (F0 m 0 ls []) := by
  obtain ⟨hx, hb, hts, hown, hml, hr, hlk, hK⟩ := id C
  replace hf := Eq.trans f_X4_pane_e.symm hf
  refine lv_aload_n hx hb dX4_pane_0 rfl (lv_at hl 0 rfl) ?_
  refine lv_iconst (v := 0) hx hb dX4_pane_1 (by decide) ?_
  refine pf_X4_thrown  hx hb hts hown hK hM tw_720 dX4_pane_2 hf (fun s7 H locs hf hM => ?_)
  refine lv_iload_n hx hb dX4_pane_5 rfl (lv_at hl 1 rfl) ?_
  refine lv_iconst (v := 0) hx hb dX4_pane_6 (by decide) ?_
  refine lv_sipush (v := 255) hx hb dX4_pane_7 (by decide) ?_
  refine wt_callSi (As := [.int x1, .int (0 : Int32), .int (255 : Int32)]) (rest := []) hx hb hml hts hown hK hM cw_X4_231 hd_X4_wrongNumber rfl ⟨qz_b rfl, qz_b rfl⟩ ⟨rfl, rfl⟩ hl.1 rfl (qz_b rfl) dX4_pane_10 hf (fun _ _ h9 => c_X4_wrongNumber h9) (fun r8 s9 H locs hf hM => ?_)
  refine lv_istore_n (lv' := [(2, .int r8), (0, .ref (B + 101)), (1, .int x1)]) hx hb dX4_pane_13 rfl hl (by decide) rfl (fun ls hl => ?_)
  refine lv_iload_n hx hb dX4_pane_14 rfl (lv_at hl 0 rfl) ?_
  refine wq_if_ne (tgt := 32) hx hb dX4_pane_15 (by decide) hf (fun hf => ?_) (fun hf => ?_)
  · exact w_X4_pane_32 C hf hM (lv_sub hl [1, 2, 0] rfl)
  refine lv_aload_n hx hb dX4_pane_18 rfl (lv_at hl 1 rfl) ?_
  refine gf_X4_panes  hx hb hts hown hK hM tw_711 dX4_pane_19 ?_
  refine lv_bipush (v := 6) hx hb dX4_pane_22 (by decide) ?_
  refine wq_icmp_ne (tgt := 32) hx hb dX4_pane_24 (by decide) hf (fun hf => ?_) (fun hf => ?_)
  · exact w_X4_pane_32 C hf hM (lv_sub hl [1, 2, 0] rfl)
  refine lv_bipush (v := -6) hx hb dX4_pane_27 (by decide) ?_
  refine lv_goto (tgt := 33) hx hb dX4_pane_29 (by decide) ?_
  exact w_X4_pane_33 C hf hM (lv_sub hl [1, 2] rfl)
end
set_option maxHeartbeats 4000000 in
set_option maxRecDepth 100000 in
theorem c_X4_pane {l : Launch} {D : va_G} {tI tII : ClassId} {B F : Nat} {x1 : Int32} {σ σ' : Mem} {r : Int32} (hf : f_X4_pane F x1 σ = some (r, σ')) : wt_Mi l yX4_pane cX4_pane 3 (some .int) rm_X4_pane [.ref (B + 101), .int x1] D tI tII B σ r σ' := by
  refine Met.ofW (cc := cX4_pane) (maxL := 3) (ret := (some .int)) (by decide) rfl ?_
  intro p e s m args below meth c s₁ B9 hml hv
  obtain ⟨rfl, hP, hK⟩ := hv
  have hl := lv_entry ([.ref (B + 101), .int x1]) (n := 3) (qz_b rfl)
  rw [lg_entry_eq]
  generalize (lg_sl ([.ref (B + 101), .int x1]) ++ List.replicate (3 - (lg_sl ([.ref (B + 101), .int x1])).length) Slot.unset).toArray = ls at hl ⊢
  exact w_X4_pane_0 (wt_C_of B9 hml hK) hf ⟨hP, va_S.rf⟩ hl
section
variable {p : Program} {l : Launch} {e : Env} {s : State} {m : MethodId} {args : Array Value} {below : List Frame} {meth : Method} {c : Code} {D : va_G} {tI tII : ClassId} {B : Nat}
set_option maxHeartbeats 4000000 in
set_option maxRecDepth 100000 in
theorem w_X4_looker_48 (C : wt_C p s m args meth c RX4 cX4_looker 4 (some .int) D tI tII) {F : Nat} {x1 : Int32} {x2 : Int32} {t0 : Int32} {σ : Mem} {r : Int32} {σ' : Mem} {H : Heap} {locs : List Loc} {ls : Array Slot} (hf : j_X4_looker_48 F x1 x2 t0 σ = some (r, σ')) (hM : wt_St D tI tII B σ s H locs) (hl : lv_has ls 4 [(0, .ref (B + 101)), (1, .int x1), (2, .int x2)]) : W p l e rm_X4_looker s m args below meth c H locs 0 0 (MQ below (wt_Qi D tI tII B r σ') args s 0 0 (fun q => B ≤ q)) (F0 m 48 ls [.int t0]) := by
  obtain ⟨hx, hb, hts, hown, hml, hr, hlk, hK⟩ := id C
  replace hf := Eq.trans j_X4_looker_48_e.symm hf
  refine lv_istore_n (lv' := [(3, .int t0), (0, .ref (B + 101)), (1, .int x1), (2, .int x2)]) hx hb dX4_looker_48 rfl hl (by decide) rfl (fun ls hl => ?_)
  refine lv_iload_n hx hb dX4_looker_49 rfl (lv_at hl 0 rfl) ?_
  refine wq_if_ge (tgt := 59) hx hb dX4_looker_50 (by decide) hf (fun hf => ?_) (fun hf => ?_)
  · refine lv_aload_n hx hb dX4_looker_59 rfl (lv_at hl 1 rfl) ?_
    refine lv_iload_n hx hb dX4_looker_60 rfl (lv_at hl 2 rfl) ?_
    refine lv_iload_n hx hb dX4_looker_61 rfl (lv_at hl 3 rfl) ?_
    refine wt_callVv (As := [.int x1, .int x2]) (rest := []) hx hb hml hts hown hK hM wt_rc_X4 cw_X4_176 hd_X4_lookerComes rfl ⟨qz_b rfl, qz_b rfl⟩ ⟨rfl, rfl⟩ hl.1 rfl (qz_b rfl) dX4_looker_62 hf (fun _ _ h9 => c_X4_lookerComes h9) (fun r1 s2 H locs hf hM => ?_)
    refine lv_aload_n hx hb dX4_looker_65 rfl (lv_at hl 1 rfl) ?_
    refine lv_iconst (v := 0) hx hb dX4_looker_66 (by decide) ?_
    refine pf_X4_turned  hx hb hts hown hK hM tw_740 dX4_looker_67 hf (fun s3 H locs hf hM => ?_)
    refine lv_aload_n hx hb dX4_looker_70 rfl (lv_at hl 1 rfl) ?_
    refine gf_X4_lookers  hx hb hts hown hK hM tw_713 dX4_looker_71 ?_
    refine lv_iconst (v := 1) hx hb dX4_looker_74 (by decide) ?_
    refine lv_isub hx hb dX4_looker_75 ?_
    exact wt_iret hx hb hr hlk hK hM hf dX4_looker_76
  refine lv_aload_n hx hb dX4_looker_53 rfl (lv_at hl 1 rfl) ?_
  refine lv_iload_n hx hb dX4_looker_54 rfl (lv_at hl 0 rfl) ?_
  refine wt_callVi (As := [.int t0]) (rest := []) hx hb hml hts hown hK hM wt_rc_X4 cw_X4_143 hd_X4_refuse rfl ⟨qz_b rfl, qz_b rfl⟩ ⟨rfl, rfl⟩ hl.1 rfl (qz_b rfl) dX4_looker_55 hf (fun _ _ h9 => c_X4_refuse h9) (fun r4 s5 H locs hf hM => ?_)
  exact wt_iret hx hb hr hlk hK hM hf dX4_looker_58
set_option maxHeartbeats 4000000 in
set_option maxRecDepth 100000 in
theorem w_X4_looker_47 (C : wt_C p s m args meth c RX4 cX4_looker 4 (some .int) D tI tII) {F : Nat} {x1 : Int32} {x2 : Int32} {x3 : Int32} {σ : Mem} {r : Int32} {σ' : Mem} {H : Heap} {locs : List Loc} {ls : Array Slot} (hf : j_X4_looker_47 F x1 x2 x3 σ = some (r, σ')) (hM : wt_St D tI tII B σ s H locs) (hl : lv_has ls 4 [(0, .ref (B + 101)), (1, .int x1), (2, .int x2), (3, .int x3)]) : W p l e rm_X4_looker s m args below meth c H locs 0 0 (MQ below (wt_Qi D tI tII B r σ') args s 0 0 (fun q => B ≤ q)) (F0 m 47 ls []) := by
  obtain ⟨hx, hb, hts, hown, hml, hr, hlk, hK⟩ := id C
  replace hf := Eq.trans j_X4_looker_47_e.symm hf
  refine lv_iload_n hx hb dX4_looker_47 rfl (lv_at hl 3 rfl) ?_
  exact w_X4_looker_48 C hf hM (lv_sub hl [0, 1, 2] rfl)
set_option maxHeartbeats 4000000 in
set_option maxRecDepth 100000 in
theorem w_X4_looker_29 (C : wt_C p s m args meth c RX4 cX4_looker 4 (some .int) D tI tII) {F : Nat} {x1 : Int32} {x2 : Int32} {t0 : Int32} {σ : Mem} {r : Int32} {σ' : Mem} {H : Heap} {locs : List Loc} {ls : Array Slot} (hf : j_X4_looker_29 F x1 x2 t0 σ = some (r, σ')) (hM : wt_St D tI tII B σ s H locs) (hl : lv_has ls 4 [(0, .ref (B + 101)), (1, .int x1), (2, .int x2)]) : W p l e rm_X4_looker s m args below meth c H locs 0 0 (MQ below (wt_Qi D tI tII B r σ') args s 0 0 (fun q => B ≤ q)) (F0 m 29 ls [.int t0]) := by
  obtain ⟨hx, hb, hts, hown, hml, hr, hlk, hK⟩ := id C
  replace hf := Eq.trans j_X4_looker_29_e.symm hf
  refine lv_istore_n (lv' := [(3, .int t0), (0, .ref (B + 101)), (1, .int x1), (2, .int x2)]) hx hb dX4_looker_29 rfl hl (by decide) rfl (fun ls hl => ?_)
  refine lv_iload_n hx hb dX4_looker_30 rfl (lv_at hl 0 rfl) ?_
  refine wq_if_ne (tgt := 47) hx hb dX4_looker_31 (by decide) hf (fun hf => ?_) (fun hf => ?_)
  · exact w_X4_looker_47 C hf hM (lv_sub hl [1, 2, 3, 0] rfl)
  refine lv_aload_n hx hb dX4_looker_34 rfl (lv_at hl 1 rfl) ?_
  refine gf_X4_lookers  hx hb hts hown hK hM tw_713 dX4_looker_35 ?_
  refine lv_iconst (v := 5) hx hb dX4_looker_38 (by decide) ?_
  refine wq_icmp_ne (tgt := 47) hx hb dX4_looker_39 (by decide) hf (fun hf => ?_) (fun hf => ?_)
  · exact w_X4_looker_47 C hf hM (lv_sub hl [1, 2, 3, 0] rfl)
  refine lv_bipush (v := -6) hx hb dX4_looker_42 (by decide) ?_
  refine lv_goto (tgt := 48) hx hb dX4_looker_44 (by decide) ?_
  exact w_X4_looker_48 C hf hM (lv_sub hl [1, 2, 3] rfl)
set_option maxHeartbeats 4000000 in
set_option maxRecDepth 100000 in
theorem w_X4_looker_0 (C : wt_C p s m args meth c RX4 cX4_looker 4 (some .int) D tI tII) {F : Nat} {x1 : Int32} {x2 : Int32} {σ : Mem} {r : Int32} {σ' : Mem} {H : Heap} {locs : List Loc} {ls : Array Slot} (hf : f_X4_looker F x1 x2 σ = some (r, σ')) (hM : wt_St D tI tII B σ s H locs) (hl : lv_has ls 4 [(0, .ref (B + 101)), (1, .int x1), (2, .int x2)]) : W p l e rm_X4_looker s m args below meth c H locs 0 0 (MQ below (wt_Qi D tI tII B r σ') args s 0 0 (fun q => B ≤ q)) (F0 m 0 ls []) := by
  obtain ⟨hx, hb, hts, hown, hml, hr, hlk, hK⟩ := id C
  replace hf := Eq.trans f_X4_looker_e.symm hf
  refine lv_aload_n hx hb dX4_looker_0 rfl (lv_at hl 0 rfl) ?_
  refine lv_iconst (v := 0) hx hb dX4_looker_1 (by decide) ?_
  refine pf_X4_thrown  hx hb hts hown hK hM tw_720 dX4_looker_2 hf (fun s6 H locs hf hM => ?_)
  refine lv_iload_n hx hb dX4_looker_5 rfl (lv_at hl 1 rfl) ?_
  refine lv_i2l (v := (Int32.toInt64 x1)) hx hb dX4_looker_6 rfl ?_
  refine lv_lconst (v := 0) hx hb dX4_looker_7 (by decide) ?_
  refine lv_ldc2 (v := 5) hx hb hown (hts _ tw_973) dX4_looker_8 ?_
  refine wt_callSi (As := [.long (Int32.toInt64 x1), .long (0 : Int64), .long (5 : Int64)]) (rest := []) hx hb hml hts hown hK hM cw_X4_77 hd_X4_in rfl ⟨qz_b rfl, qz_b rfl⟩ ⟨rfl, rfl⟩ hl.1 rfl (qz_b rfl) dX4_looker_11 hf (fun _ _ h9 => c_X4_in h9) (fun r7 s8 H locs hf hM => ?_)
  refine wq_if_eq (tgt := 27) hx hb dX4_looker_14 (by decide) hf (fun hf => ?_) (fun hf => ?_)
  · refine lv_bipush (v := -2) hx hb dX4_looker_27 (by decide) ?_
    exact w_X4_looker_29 C hf hM hl
  refine lv_iload_n hx hb dX4_looker_17 rfl (lv_at hl 2 rfl) ?_
  refine lv_iconst (v := 0) hx hb dX4_looker_18 (by decide) ?_
  refine lv_bipush (v := 9) hx hb dX4_looker_19 (by decide) ?_
  refine wt_callSi (As := [.int x2, .int (0 : Int32), .int (9 : Int32)]) (rest := []) hx hb hml hts hown hK hM cw_X4_231 hd_X4_wrongNumber rfl ⟨qz_b rfl, qz_b rfl⟩ ⟨rfl, rfl⟩ hl.1 rfl (qz_b rfl) dX4_looker_21 hf (fun _ _ h9 => c_X4_wrongNumber h9) (fun r9 s10 H locs hf hM => ?_)
  refine lv_goto (tgt := 29) hx hb dX4_looker_24 (by decide) ?_
  exact w_X4_looker_29 C hf hM hl
end
set_option maxHeartbeats 4000000 in
set_option maxRecDepth 100000 in
theorem c_X4_looker {l : Launch} {D : va_G} {tI tII : ClassId} {B F : Nat} {x1 : Int32} {x2 : Int32} {σ σ' : Mem} {r : Int32} (hf : f_X4_looker F x1 x2 σ = some (r, σ')) : wt_Mi l yX4_looker cX4_looker 4 (some .int) rm_X4_looker [.ref (B + 101), .int x1, .int x2] D tI tII B σ r σ' := by
  refine Met.ofW (cc := cX4_looker) (maxL := 4) (ret := (some .int)) (by decide) rfl ?_
  intro p e s m args below meth c s₁ B9 hml hv
  obtain ⟨rfl, hP, hK⟩ := hv
  have hl := lv_entry ([.ref (B + 101), .int x1, .int x2]) (n := 4) (qz_b rfl)
  rw [lg_entry_eq]
  generalize (lg_sl ([.ref (B + 101), .int x1, .int x2]) ++ List.replicate (4 - (lg_sl ([.ref (B + 101), .int x1, .int x2])).length) Slot.unset).toArray = ls at hl ⊢
  exact w_X4_looker_0 (wt_C_of B9 hml hK) hf ⟨hP, va_S.rf⟩ hl
section
variable {p : Program} {l : Launch} {e : Env} {s : State} {m : MethodId} {args : Array Value} {below : List Frame} {meth : Method} {c : Code} {D : va_G} {tI tII : ClassId} {B : Nat}
set_option maxHeartbeats 4000000 in
set_option maxRecDepth 100000 in
theorem w_X4_stands_58 (C : wt_C p s m args meth c RX4 cX4_stands 6 (some .int) D tI tII) {F : Nat} {x1 : Int32} {x2 : Int32} {x3 : Int32} {x4 : Int32} {t0 : Int32} {σ : Mem} {r : Int32} {σ' : Mem} {H : Heap} {locs : List Loc} {ls : Array Slot} (hf : j_X4_stands_58 F x1 x2 x3 x4 t0 σ = some (r, σ')) (hM : wt_St D tI tII B σ s H locs) (hl : lv_has ls 6 [(0, .ref (B + 101)), (1, .int x1), (2, .int x2), (3, .int x3), (4, .int x4)]) : W p l e rm_X4_stands s m args below meth c H locs 0 0 (MQ below (wt_Qi D tI tII B r σ') args s 0 0 (fun q => B ≤ q)) (F0 m 58 ls [.int t0]) := by
  obtain ⟨hx, hb, hts, hown, hml, hr, hlk, hK⟩ := id C
  replace hf := Eq.trans j_X4_stands_58_e.symm hf
  refine lv_istore (lv' := [(5, .int t0), (0, .ref (B + 101)), (1, .int x1), (2, .int x2), (3, .int x3), (4, .int x4)]) hx hb dX4_stands_58 hl (by decide) rfl (fun ls hl => ?_)
  refine lv_iload hx hb dX4_stands_60 (lv_at hl 0 rfl) ?_
  refine wq_if_ge (tgt := 72) hx hb dX4_stands_62 (by decide) hf (fun hf => ?_) (fun hf => ?_)
  · refine lv_aload_n hx hb dX4_stands_72 rfl (lv_at hl 1 rfl) ?_
    refine wt_callVv (As := []) (rest := []) hx hb hml hts hown hK hM wt_rc_X4 cw_X4_240 hd_X4_keepTurn rfl ⟨qz_b rfl, qz_b rfl⟩ ⟨rfl, rfl⟩ hl.1 rfl (qz_b rfl) dX4_stands_73 hf (fun _ _ h9 => c_X4_keepTurn h9) (fun r1 s2 H locs hf hM => ?_)
    refine lv_aload_n hx hb dX4_stands_76 rfl (lv_at hl 1 rfl) ?_
    refine lv_iload_n hx hb dX4_stands_77 rfl (lv_at hl 2 rfl) ?_
    refine lv_iload_n hx hb dX4_stands_78 rfl (lv_at hl 3 rfl) ?_
    refine lv_iload_n hx hb dX4_stands_79 rfl (lv_at hl 4 rfl) ?_
    refine lv_iload hx hb dX4_stands_80 (lv_at hl 5 rfl) ?_
    refine wt_callVv (As := [.int x1, .int x2, .int x3, .int x4]) (rest := []) hx hb hml hts hown hK hM wt_rc_X4 cw_X4_182 hd_X4_stand rfl ⟨qz_b rfl, qz_b rfl⟩ ⟨rfl, rfl⟩ hl.1 rfl (qz_b rfl) dX4_stands_82 hf (fun _ _ h9 => c_X4_stand h9) (fun r3 s4 H locs hf hM => ?_)
    refine lv_aload_n hx hb dX4_stands_85 rfl (lv_at hl 1 rfl) ?_
    refine lv_iload_n hx hb dX4_stands_86 rfl (lv_at hl 2 rfl) ?_
    refine wt_callVi (As := [.int x1]) (rest := []) hx hb hml hts hown hK hM wt_rc_X4 cw_X4_228 hd_X4_hoursOf rfl ⟨qz_b rfl, qz_b rfl⟩ ⟨rfl, rfl⟩ hl.1 rfl (qz_b rfl) dX4_stands_87 hf (fun _ _ h9 => c_X4_hoursOf h9) (fun r5 s6 H locs hf hM => ?_)
    exact wt_iret hx hb hr hlk hK hM hf dX4_stands_90
  refine lv_aload_n hx hb dX4_stands_65 rfl (lv_at hl 1 rfl) ?_
  refine lv_iload hx hb dX4_stands_66 (lv_at hl 0 rfl) ?_
  refine wt_callVi (As := [.int t0]) (rest := []) hx hb hml hts hown hK hM wt_rc_X4 cw_X4_143 hd_X4_refuse rfl ⟨qz_b rfl, qz_b rfl⟩ ⟨rfl, rfl⟩ hl.1 rfl (qz_b rfl) dX4_stands_68 hf (fun _ _ h9 => c_X4_refuse h9) (fun r7 s8 H locs hf hM => ?_)
  exact wt_iret hx hb hr hlk hK hM hf dX4_stands_71
set_option maxHeartbeats 4000000 in
set_option maxRecDepth 100000 in
theorem w_X4_stands_43 (C : wt_C p s m args meth c RX4 cX4_stands 6 (some .int) D tI tII) {F : Nat} {x1 : Int32} {x2 : Int32} {x3 : Int32} {x4 : Int32} {σ : Mem} {r : Int32} {σ' : Mem} {H : Heap} {locs : List Loc} {ls : Array Slot} (hf : j_X4_stands_43 F x1 x2 x3 x4 σ = some (r, σ')) (hM : wt_St D tI tII B σ s H locs) (hl : lv_has ls 6 [(0, .ref (B + 101)), (1, .int x1), (2, .int x2), (3, .int x3), (4, .int x4)]) : W p l e rm_X4_stands s m args below meth c H locs 0 0 (MQ below (wt_Qi D tI tII B r σ') args s 0 0 (fun q => B ≤ q)) (F0 m 43 ls []) := by
  obtain ⟨hx, hb, hts, hown, hml, hr, hlk, hK⟩ := id C
  replace hf := Eq.trans j_X4_stands_43_e.symm hf
  refine lv_iload_n hx hb dX4_stands_43 rfl (lv_at hl 2 rfl) ?_
  refine lv_iload_n hx hb dX4_stands_44 rfl (lv_at hl 3 rfl) ?_
  refine wq_icmp_le (tgt := 53) hx hb dX4_stands_45 (by decide) hf (fun hf => ?_) (fun hf => ?_)
  · refine lv_iconst (v := 0) hx hb dX4_stands_53 (by decide) ?_
    refine lv_goto (tgt := 58) hx hb dX4_stands_54 (by decide) ?_
    exact w_X4_stands_58 C hf hM hl
  refine lv_bipush (v := -3) hx hb dX4_stands_48 (by decide) ?_
  refine lv_goto (tgt := 58) hx hb dX4_stands_50 (by decide) ?_
  exact w_X4_stands_58 C hf hM hl
set_option maxHeartbeats 4000000 in
set_option maxRecDepth 100000 in
theorem w_X4_stands_57 (C : wt_C p s m args meth c RX4 cX4_stands 6 (some .int) D tI tII) {F : Nat} {x1 : Int32} {x2 : Int32} {x3 : Int32} {x4 : Int32} {σ : Mem} {r : Int32} {σ' : Mem} {H : Heap} {locs : List Loc} {ls : Array Slot} (hf : j_X4_stands_57 F x1 x2 x3 x4 σ = some (r, σ')) (hM : wt_St D tI tII B σ s H locs) (hl : lv_has ls 6 [(0, .ref (B + 101)), (1, .int x1), (2, .int x2), (3, .int x3), (4, .int x4)]) : W p l e rm_X4_stands s m args below meth c H locs 0 0 (MQ below (wt_Qi D tI tII B r σ') args s 0 0 (fun q => B ≤ q)) (F0 m 57 ls []) := by
  obtain ⟨hx, hb, hts, hown, hml, hr, hlk, hK⟩ := id C
  replace hf := Eq.trans j_X4_stands_57_e.symm hf
  refine lv_iconst (v := -1) hx hb dX4_stands_57 (by decide) ?_
  exact w_X4_stands_58 C hf hM hl
set_option maxHeartbeats 4000000 in
set_option maxRecDepth 100000 in
theorem w_X4_stands_0 (C : wt_C p s m args meth c RX4 cX4_stands 6 (some .int) D tI tII) {F : Nat} {x1 : Int32} {x2 : Int32} {x3 : Int32} {x4 : Int32} {σ : Mem} {r : Int32} {σ' : Mem} {H : Heap} {locs : List Loc} {ls : Array Slot} (hf : f_X4_stands F x1 x2 x3 x4 σ = some (r, σ')) (hM : wt_St D tI tII B σ s H locs) (hl : lv_has ls 6 [(0, .ref (B + 101)), (1, .int x1), (2, .int x2), (3, .int x3), (4, .int x4)]) : W p l e rm_X4_stands s m args below meth c H locs 0 0 (MQ below (wt_Qi D tI tII B r σ') args s 0 0 (fun q => B ≤ q)) (F0 m 0 ls []) := by
  obtain ⟨hx, hb, hts, hown, hml, hr, hlk, hK⟩ := id C
  replace hf := Eq.trans f_X4_stands_e.symm hf
  refine lv_aload_n hx hb dX4_stands_0 rfl (lv_at hl 0 rfl) ?_
  refine lv_iconst (v := 0) hx hb dX4_stands_1 (by decide) ?_
  refine pf_X4_thrown  hx hb hts hown hK hM tw_720 dX4_stands_2 hf (fun s9 H locs hf hM => ?_)
  refine lv_aload_n hx hb dX4_stands_5 rfl (lv_at hl 0 rfl) ?_
  refine lv_iload_n hx hb dX4_stands_6 rfl (lv_at hl 1 rfl) ?_
  refine wt_callVi (As := [.int x1]) (rest := []) hx hb hml hts hown hK hM wt_rc_X4 cw_X4_88 hd_X4_isLooker rfl ⟨qz_b rfl, qz_b rfl⟩ ⟨rfl, rfl⟩ hl.1 rfl (qz_b rfl) dX4_stands_7 hf (fun _ _ h9 => c_X4_isLooker h9) (fun r10 s11 H locs hf hM => ?_)
  refine wq_if_eq (tgt := 57) hx hb dX4_stands_10 (by decide) hf (fun hf => ?_) (fun hf => ?_)
  · exact w_X4_stands_57 C hf hM hl
  refine lv_iload_n hx hb dX4_stands_13 rfl (lv_at hl 2 rfl) ?_
  refine wt_callSi (As := [.int x2]) (rest := []) hx hb hml hts hown hK hM cw_X4_237 hd_X4_isHour rfl ⟨qz_b rfl, qz_b rfl⟩ ⟨rfl, rfl⟩ hl.1 rfl (qz_b rfl) dX4_stands_14 hf (fun _ _ h9 => c_X4_isHour h9) (fun r12 s13 H locs hf hM => ?_)
  refine wq_if_eq (tgt := 57) hx hb dX4_stands_17 (by decide) hf (fun hf => ?_) (fun hf => ?_)
  · exact w_X4_stands_57 C hf hM hl
  refine lv_iload_n hx hb dX4_stands_20 rfl (lv_at hl 3 rfl) ?_
  refine wt_callSi (As := [.int x3]) (rest := []) hx hb hml hts hown hK hM cw_X4_237 hd_X4_isHour rfl ⟨qz_b rfl, qz_b rfl⟩ ⟨rfl, rfl⟩ hl.1 rfl (qz_b rfl) dX4_stands_21 hf (fun _ _ h9 => c_X4_isHour h9) (fun r14 s15 H locs hf hM => ?_)
  refine wq_if_eq (tgt := 57) hx hb dX4_stands_24 (by decide) hf (fun hf => ?_) (fun hf => ?_)
  · exact w_X4_stands_57 C hf hM hl
  refine lv_iload hx hb dX4_stands_27 (lv_at hl 4 rfl) ?_
  refine lv_bipush (v := 9) hx hb dX4_stands_29 (by decide) ?_
  refine wq_icmp_eq (tgt := 43) hx hb dX4_stands_31 (by decide) hf (fun hf => ?_) (fun hf => ?_)
  · exact w_X4_stands_43 C hf hM hl
  refine lv_aload_n hx hb dX4_stands_34 rfl (lv_at hl 0 rfl) ?_
  refine lv_iload hx hb dX4_stands_35 (lv_at hl 4 rfl) ?_
  refine wt_callVi (As := [.int x4]) (rest := []) hx hb hml hts hown hK hM wt_rc_X4 cw_X4_179 hd_X4_isPane rfl ⟨qz_b rfl, qz_b rfl⟩ ⟨rfl, rfl⟩ hl.1 rfl (qz_b rfl) dX4_stands_37 hf (fun _ _ h9 => c_X4_isPane h9) (fun r16 s17 H locs hf hM => ?_)
  refine wq_if_eq (tgt := 57) hx hb dX4_stands_40 (by decide) hf (fun hf => ?_) (fun hf => ?_)
  · exact w_X4_stands_57 C hf hM hl
  exact w_X4_stands_43 C hf hM hl
end
set_option maxHeartbeats 4000000 in
set_option maxRecDepth 100000 in
theorem c_X4_stands {l : Launch} {D : va_G} {tI tII : ClassId} {B F : Nat} {x1 : Int32} {x2 : Int32} {x3 : Int32} {x4 : Int32} {σ σ' : Mem} {r : Int32} (hf : f_X4_stands F x1 x2 x3 x4 σ = some (r, σ')) : wt_Mi l yX4_stands cX4_stands 6 (some .int) rm_X4_stands [.ref (B + 101), .int x1, .int x2, .int x3, .int x4] D tI tII B σ r σ' := by
  refine Met.ofW (cc := cX4_stands) (maxL := 6) (ret := (some .int)) (by decide) rfl ?_
  intro p e s m args below meth c s₁ B9 hml hv
  obtain ⟨rfl, hP, hK⟩ := hv
  have hl := lv_entry ([.ref (B + 101), .int x1, .int x2, .int x3, .int x4]) (n := 6) (qz_b rfl)
  rw [lg_entry_eq]
  generalize (lg_sl ([.ref (B + 101), .int x1, .int x2, .int x3, .int x4]) ++ List.replicate (6 - (lg_sl ([.ref (B + 101), .int x1, .int x2, .int x3, .int x4])).length) Slot.unset).toArray = ls at hl ⊢
  exact w_X4_stands_0 (wt_C_of B9 hml hK) hf ⟨hP, va_S.rf⟩ hl
section
variable {p : Program} {l : Launch} {e : Env} {s : State} {m : MethodId} {args : Array Value} {below : List Frame} {meth : Method} {c : Code} {D : va_G} {tI tII : ClassId} {B : Nat}
set_option maxHeartbeats 4000000 in
set_option maxRecDepth 100000 in
theorem w_X4_roster_34 (C : wt_C p s m args meth c RX4 cX4_roster 3 (some .int) D tI tII) {F : Nat} {σ : Mem} {r : Int32} {σ' : Mem} {H : Heap} {locs : List Loc} {ls : Array Slot} (hf : j_X4_roster_34 F σ = some (r, σ')) (hM : wt_St D tI tII B σ s H locs) (hl : lv_has ls 3 [(0, .ref (B + 101))]) : W p l e rm_X4_roster s m args below meth c H locs 0 0 (MQ below (wt_Qi D tI tII B r σ') args s 0 0 (fun q => B ≤ q)) (F0 m 34 ls []) := by
  obtain ⟨hx, hb, hts, hown, hml, hr, hlk, hK⟩ := id C
  replace hf := Eq.trans j_X4_roster_34_e.symm hf
  refine lv_aload_n hx hb dX4_roster_34 rfl (lv_at hl 0 rfl) ?_
  refine lv_iconst (v := -1) hx hb dX4_roster_35 (by decide) ?_
  refine wt_callVi (As := [.int (-1 : Int32)]) (rest := []) hx hb hml hts hown hK hM wt_rc_X4 cw_X4_143 hd_X4_refuse rfl ⟨qz_b rfl, qz_b rfl⟩ ⟨rfl, rfl⟩ hl.1 rfl (qz_b rfl) dX4_roster_36 hf (fun _ _ h9 => c_X4_refuse h9) (fun r1 s2 H locs hf hM => ?_)
  exact wt_iret hx hb hr hlk hK hM hf dX4_roster_39
set_option maxHeartbeats 4000000 in
set_option maxRecDepth 100000 in
theorem w_X4_roster_0 (C : wt_C p s m args meth c RX4 cX4_roster 3 (some .int) D tI tII) {F : Nat} {x1 : Int32} {x2 : Int32} {σ : Mem} {r : Int32} {σ' : Mem} {H : Heap} {locs : List Loc} {ls : Array Slot} (hf : f_X4_roster F x1 x2 σ = some (r, σ')) (hM : wt_St D tI tII B σ s H locs) (hl : lv_has ls 3 [(0, .ref (B + 101)), (1, .int x1), (2, .int x2)]) : W p l e rm_X4_roster s m args below meth c H locs 0 0 (MQ below (wt_Qi D tI tII B r σ') args s 0 0 (fun q => B ≤ q)) (F0 m 0 ls []) := by
  obtain ⟨hx, hb, hts, hown, hml, hr, hlk, hK⟩ := id C
  replace hf := Eq.trans f_X4_roster_e.symm hf
  refine lv_aload_n hx hb dX4_roster_0 rfl (lv_at hl 0 rfl) ?_
  refine lv_iconst (v := 0) hx hb dX4_roster_1 (by decide) ?_
  refine pf_X4_thrown  hx hb hts hown hK hM tw_720 dX4_roster_2 hf (fun s3 H locs hf hM => ?_)
  refine lv_aload_n hx hb dX4_roster_5 rfl (lv_at hl 0 rfl) ?_
  refine lv_iload_n hx hb dX4_roster_6 rfl (lv_at hl 1 rfl) ?_
  refine wt_callVi (As := [.int x1]) (rest := []) hx hb hml hts hown hK hM wt_rc_X4 cw_X4_88 hd_X4_isLooker rfl ⟨qz_b rfl, qz_b rfl⟩ ⟨rfl, rfl⟩ hl.1 rfl (qz_b rfl) dX4_roster_7 hf (fun _ _ h9 => c_X4_isLooker h9) (fun r4 s5 H locs hf hM => ?_)
  refine wq_if_eq (tgt := 34) hx hb dX4_roster_10 (by decide) hf (fun hf => ?_) (fun hf => ?_)
  · exact w_X4_roster_34 C hf hM (lv_sub hl [0] rfl)
  refine lv_iload_n hx hb dX4_roster_13 rfl (lv_at hl 2 rfl) ?_
  refine wt_callSi (As := [.int x2]) (rest := []) hx hb hml hts hown hK hM cw_X4_237 hd_X4_isHour rfl ⟨qz_b rfl, qz_b rfl⟩ ⟨rfl, rfl⟩ hl.1 rfl (qz_b rfl) dX4_roster_14 hf (fun _ _ h9 => c_X4_isHour h9) (fun r6 s7 H locs hf hM => ?_)
  refine wq_if_eq (tgt := 34) hx hb dX4_roster_17 (by decide) hf (fun hf => ?_) (fun hf => ?_)
  · exact w_X4_roster_34 C hf hM (lv_sub hl [0] rfl)
  refine lv_aload_n hx hb dX4_roster_20 rfl (lv_at hl 0 rfl) ?_
  refine gf_X4_rosters  hx hb hts hown hK hM tw_716 dX4_roster_21 ?_
  refine lv_bipush (v := 24) hx hb dX4_roster_24 (by decide) ?_
  refine lv_iload_n hx hb dX4_roster_26 rfl (lv_at hl 1 rfl) ?_
  refine lv_imul hx hb dX4_roster_27 ?_
  refine lv_iload_n hx hb dX4_roster_28 rfl (lv_at hl 2 rfl) ?_
  refine lv_iadd hx hb dX4_roster_29 ?_
  obtain ⟨i8, hf⟩ := wt_chk_of hf
  refine wt_ild hx hb hK hM wt_a106 i8 dX4_roster_30 ?_
  refine lv_goto (tgt := 39) hx hb dX4_roster_31 (by decide) ?_
  exact wt_iret hx hb hr hlk hK hM hf dX4_roster_39
end
set_option maxHeartbeats 4000000 in
set_option maxRecDepth 100000 in
theorem c_X4_roster {l : Launch} {D : va_G} {tI tII : ClassId} {B F : Nat} {x1 : Int32} {x2 : Int32} {σ σ' : Mem} {r : Int32} (hf : f_X4_roster F x1 x2 σ = some (r, σ')) : wt_Mi l yX4_roster cX4_roster 3 (some .int) rm_X4_roster [.ref (B + 101), .int x1, .int x2] D tI tII B σ r σ' := by
  refine Met.ofW (cc := cX4_roster) (maxL := 3) (ret := (some .int)) (by decide) rfl ?_
  intro p e s m args below meth c s₁ B9 hml hv
  obtain ⟨rfl, hP, hK⟩ := hv
  have hl := lv_entry ([.ref (B + 101), .int x1, .int x2]) (n := 3) (qz_b rfl)
  rw [lg_entry_eq]
  generalize (lg_sl ([.ref (B + 101), .int x1, .int x2]) ++ List.replicate (3 - (lg_sl ([.ref (B + 101), .int x1, .int x2])).length) Slot.unset).toArray = ls at hl ⊢
  exact w_X4_roster_0 (wt_C_of B9 hml hK) hf ⟨hP, va_S.rf⟩ hl
section
variable {p : Program} {l : Launch} {e : Env} {s : State} {m : MethodId} {args : Array Value} {below : List Frame} {meth : Method} {c : Code} {D : va_G} {tI tII : ClassId} {B : Nat}
set_option maxHeartbeats 4000000 in
set_option maxRecDepth 100000 in
theorem w_X4_wall_20 (C : wt_C p s m args meth c RX4 cX4_wall 3 (some .int) D tI tII) {F : Nat} {σ : Mem} {r : Int32} {σ' : Mem} {H : Heap} {locs : List Loc} {ls : Array Slot} (hf : j_X4_wall_20 F σ = some (r, σ')) (hM : wt_St D tI tII B σ s H locs) (hl : lv_has ls 3 [(0, .ref (B + 101))]) : W p l e rm_X4_wall s m args below meth c H locs 0 0 (MQ below (wt_Qi D tI tII B r σ') args s 0 0 (fun q => B ≤ q)) (F0 m 20 ls []) := by
  obtain ⟨hx, hb, hts, hown, hml, hr, hlk, hK⟩ := id C
  replace hf := Eq.trans j_X4_wall_20_e.symm hf
  refine lv_aload_n hx hb dX4_wall_20 rfl (lv_at hl 0 rfl) ?_
  refine lv_iconst (v := -1) hx hb dX4_wall_21 (by decide) ?_
  refine wt_callVi (As := [.int (-1 : Int32)]) (rest := []) hx hb hml hts hown hK hM wt_rc_X4 cw_X4_143 hd_X4_refuse rfl ⟨qz_b rfl, qz_b rfl⟩ ⟨rfl, rfl⟩ hl.1 rfl (qz_b rfl) dX4_wall_22 hf (fun _ _ h9 => c_X4_refuse h9) (fun r1 s2 H locs hf hM => ?_)
  exact wt_iret hx hb hr hlk hK hM hf dX4_wall_25
set_option maxHeartbeats 4000000 in
set_option maxRecDepth 100000 in
theorem w_X4_wall_0 (C : wt_C p s m args meth c RX4 cX4_wall 3 (some .int) D tI tII) {F : Nat} {x1 : Int32} {x2 : Int32} {σ : Mem} {r : Int32} {σ' : Mem} {H : Heap} {locs : List Loc} {ls : Array Slot} (hf : f_X4_wall F x1 x2 σ = some (r, σ')) (hM : wt_St D tI tII B σ s H locs) (hl : lv_has ls 3 [(0, .ref (B + 101)), (1, .int x1), (2, .int x2)]) : W p l e rm_X4_wall s m args below meth c H locs 0 0 (MQ below (wt_Qi D tI tII B r σ') args s 0 0 (fun q => B ≤ q)) (F0 m 0 ls []) := by
  obtain ⟨hx, hb, hts, hown, hml, hr, hlk, hK⟩ := id C
  replace hf := Eq.trans f_X4_wall_e.symm hf
  refine lv_aload_n hx hb dX4_wall_0 rfl (lv_at hl 0 rfl) ?_
  refine lv_iconst (v := 0) hx hb dX4_wall_1 (by decide) ?_
  refine pf_X4_thrown  hx hb hts hown hK hM tw_720 dX4_wall_2 hf (fun s3 H locs hf hM => ?_)
  refine lv_aload_n hx hb dX4_wall_5 rfl (lv_at hl 0 rfl) ?_
  refine lv_iload_n hx hb dX4_wall_6 rfl (lv_at hl 1 rfl) ?_
  refine wt_callVi (As := [.int x1]) (rest := []) hx hb hml hts hown hK hM wt_rc_X4 cw_X4_179 hd_X4_isPane rfl ⟨qz_b rfl, qz_b rfl⟩ ⟨rfl, rfl⟩ hl.1 rfl (qz_b rfl) dX4_wall_7 hf (fun _ _ h9 => c_X4_isPane h9) (fun r4 s5 H locs hf hM => ?_)
  refine wq_if_eq (tgt := 20) hx hb dX4_wall_10 (by decide) hf (fun hf => ?_) (fun hf => ?_)
  · exact w_X4_wall_20 C hf hM (lv_sub hl [0] rfl)
  refine lv_iload_n hx hb dX4_wall_13 rfl (lv_at hl 2 rfl) ?_
  refine wt_callSi (As := [.int x2]) (rest := []) hx hb hml hts hown hK hM cw_X4_243 hd_X4_isView rfl ⟨qz_b rfl, qz_b rfl⟩ ⟨rfl, rfl⟩ hl.1 rfl (qz_b rfl) dX4_wall_14 hf (fun _ _ h9 => c_X4_isView h9) (fun r6 s7 H locs hf hM => ?_)
  refine wq_if_ne (tgt := 26) hx hb dX4_wall_17 (by decide) hf (fun hf => ?_) (fun hf => ?_)
  · refine lv_aload_n hx hb dX4_wall_26 rfl (lv_at hl 0 rfl) ?_
    refine wt_callVv (As := []) (rest := []) hx hb hml hts hown hK hM wt_rc_X4 cw_X4_240 hd_X4_keepTurn rfl ⟨qz_b rfl, qz_b rfl⟩ ⟨rfl, rfl⟩ hl.1 rfl (qz_b rfl) dX4_wall_27 hf (fun _ _ h9 => c_X4_keepTurn h9) (fun r8 s9 H locs hf hM => ?_)
    refine lv_aload_n hx hb dX4_wall_30 rfl (lv_at hl 0 rfl) ?_
    refine gf_X4_shows  hx hb hts hown hK hM tw_712 dX4_wall_31 ?_
    refine lv_iload_n hx hb dX4_wall_34 rfl (lv_at hl 1 rfl) ?_
    refine lv_dup2_11 hx hb dX4_wall_35 rfl rfl ?_
    obtain ⟨i10, hf⟩ := wt_chk_of hf
    refine wt_ild hx hb hK hM wt_a103 i10 dX4_wall_36 ?_
    refine lv_iconst (v := 1) hx hb dX4_wall_37 (by decide) ?_
    refine lv_iload_n hx hb dX4_wall_38 rfl (lv_at hl 2 rfl) ?_
    refine lv_ishl hx hb dX4_wall_39 ?_
    refine lv_ixor hx hb dX4_wall_40 ?_
    refine wt_ist hx hb hK hM wt_a103 i10 dX4_wall_41 hf (fun s11 H locs hf hM => ?_)
    refine lv_aload_n hx hb dX4_wall_42 rfl (lv_at hl 0 rfl) ?_
    refine gf_X4_shows  hx hb hts hown hK hM tw_712 dX4_wall_43 ?_
    refine lv_iload_n hx hb dX4_wall_46 rfl (lv_at hl 1 rfl) ?_
    refine wt_ild hx hb hK hM wt_a103 i10 dX4_wall_47 ?_
    refine lv_iload_n hx hb dX4_wall_48 rfl (lv_at hl 2 rfl) ?_
    refine lv_ishr hx hb dX4_wall_49 ?_
    refine lv_iconst (v := 1) hx hb dX4_wall_50 (by decide) ?_
    refine lv_iand hx hb dX4_wall_51 ?_
    exact wt_iret hx hb hr hlk hK hM hf dX4_wall_52
  exact w_X4_wall_20 C hf hM (lv_sub hl [0] rfl)
end
set_option maxHeartbeats 4000000 in
set_option maxRecDepth 100000 in
theorem c_X4_wall {l : Launch} {D : va_G} {tI tII : ClassId} {B F : Nat} {x1 : Int32} {x2 : Int32} {σ σ' : Mem} {r : Int32} (hf : f_X4_wall F x1 x2 σ = some (r, σ')) : wt_Mi l yX4_wall cX4_wall 3 (some .int) rm_X4_wall [.ref (B + 101), .int x1, .int x2] D tI tII B σ r σ' := by
  refine Met.ofW (cc := cX4_wall) (maxL := 3) (ret := (some .int)) (by decide) rfl ?_
  intro p e s m args below meth c s₁ B9 hml hv
  obtain ⟨rfl, hP, hK⟩ := hv
  have hl := lv_entry ([.ref (B + 101), .int x1, .int x2]) (n := 3) (qz_b rfl)
  rw [lg_entry_eq]
  generalize (lg_sl ([.ref (B + 101), .int x1, .int x2]) ++ List.replicate (3 - (lg_sl ([.ref (B + 101), .int x1, .int x2])).length) Slot.unset).toArray = ls at hl ⊢
  exact w_X4_wall_0 (wt_C_of B9 hml hK) hf ⟨hP, va_S.rf⟩ hl
section
variable {p : Program} {l : Launch} {e : Env} {s : State} {m : MethodId} {args : Array Value} {below : List Frame} {meth : Method} {c : Code} {D : va_G} {tI tII : ClassId} {B : Nat}
set_option maxHeartbeats 4000000 in
set_option maxRecDepth 100000 in
theorem w_X4_worth_23 (C : wt_C p s m args meth c RX4 cX4_worth 5 (some .int) D tI tII) {F : Nat} {x1 : Int32} {x2 : Int32} {t0 : Int32} {σ : Mem} {r : Int32} {σ' : Mem} {H : Heap} {locs : List Loc} {ls : Array Slot} (hf : j_X4_worth_23 F x1 x2 t0 σ = some (r, σ')) (hM : wt_St D tI tII B σ s H locs) (hl : lv_has ls 5 [(0, .ref (B + 101)), (1, .int x1), (2, .int x2)]) : W p l e rm_X4_worth s m args below meth c H locs 0 0 (MQ below (wt_Qi D tI tII B r σ') args s 0 0 (fun q => B ≤ q)) (F0 m 23 ls [.int t0]) := by
  obtain ⟨hx, hb, hts, hown, hml, hr, hlk, hK⟩ := id C
  replace hf := Eq.trans j_X4_worth_23_e.symm hf
  refine lv_istore_n (lv' := [(3, .int t0), (0, .ref (B + 101)), (1, .int x1), (2, .int x2)]) hx hb dX4_worth_23 rfl hl (by decide) rfl (fun ls hl => ?_)
  refine lv_iload_n hx hb dX4_worth_24 rfl (lv_at hl 0 rfl) ?_
  refine wq_if_ge (tgt := 34) hx hb dX4_worth_25 (by decide) hf (fun hf => ?_) (fun hf => ?_)
  · refine lv_aload_n hx hb dX4_worth_34 rfl (lv_at hl 1 rfl) ?_
    refine wt_callVv (As := []) (rest := []) hx hb hml hts hown hK hM wt_rc_X4 cw_X4_240 hd_X4_keepTurn rfl ⟨qz_b rfl, qz_b rfl⟩ ⟨rfl, rfl⟩ hl.1 rfl (qz_b rfl) dX4_worth_35 hf (fun _ _ h9 => c_X4_keepTurn h9) (fun r1 s2 H locs hf hM => ?_)
    refine lv_aload_n hx hb dX4_worth_38 rfl (lv_at hl 1 rfl) ?_
    refine gf_X4_worths  hx hb hts hown hK hM tw_710 dX4_worth_39 ?_
    refine lv_iload_n hx hb dX4_worth_42 rfl (lv_at hl 2 rfl) ?_
    obtain ⟨i3, hf⟩ := wt_chk_of hf
    refine wt_ild hx hb hK hM wt_a102 i3 dX4_worth_43 ?_
    refine wt_leti hf (fun z4 hf => ?_)
    refine lv_istore (lv' := [(4, .int z4), (3, .int t0), (0, .ref (B + 101)), (1, .int x1), (2, .int x2)]) hx hb dX4_worth_44 hl (by decide) rfl (fun ls hl => ?_)
    refine lv_aload_n hx hb dX4_worth_46 rfl (lv_at hl 2 rfl) ?_
    refine gf_X4_worths  hx hb hts hown hK hM tw_710 dX4_worth_47 ?_
    refine lv_iload_n hx hb dX4_worth_50 rfl (lv_at hl 3 rfl) ?_
    refine lv_iload_n hx hb dX4_worth_51 rfl (lv_at hl 4 rfl) ?_
    refine wt_ist hx hb hK hM wt_a102 i3 dX4_worth_52 hf (fun s5 H locs hf hM => ?_)
    refine lv_iload hx hb dX4_worth_53 (lv_at hl 0 rfl) ?_
    exact wt_iret hx hb hr hlk hK hM hf dX4_worth_55
  refine lv_aload_n hx hb dX4_worth_28 rfl (lv_at hl 1 rfl) ?_
  refine lv_iload_n hx hb dX4_worth_29 rfl (lv_at hl 0 rfl) ?_
  refine wt_callVi (As := [.int t0]) (rest := []) hx hb hml hts hown hK hM wt_rc_X4 cw_X4_143 hd_X4_refuse rfl ⟨qz_b rfl, qz_b rfl⟩ ⟨rfl, rfl⟩ hl.1 rfl (qz_b rfl) dX4_worth_30 hf (fun _ _ h9 => c_X4_refuse h9) (fun r6 s7 H locs hf hM => ?_)
  exact wt_iret hx hb hr hlk hK hM hf dX4_worth_33
set_option maxHeartbeats 4000000 in
set_option maxRecDepth 100000 in
theorem w_X4_worth_0 (C : wt_C p s m args meth c RX4 cX4_worth 5 (some .int) D tI tII) {F : Nat} {x1 : Int32} {x2 : Int32} {σ : Mem} {r : Int32} {σ' : Mem} {H : Heap} {locs : List Loc} {ls : Array Slot} (hf : f_X4_worth F x1 x2 σ = some (r, σ')) (hM : wt_St D tI tII B σ s H locs) (hl : lv_has ls 5 [(0, .ref (B + 101)), (1, .int x1), (2, .int x2)]) : W p l e rm_X4_worth s m args below meth c H locs 0 0 (MQ below (wt_Qi D tI tII B r σ') args s 0 0 (fun q => B ≤ q)) (F0 m 0 ls []) := by
  obtain ⟨hx, hb, hts, hown, hml, hr, hlk, hK⟩ := id C
  replace hf := Eq.trans f_X4_worth_e.symm hf
  refine lv_aload_n hx hb dX4_worth_0 rfl (lv_at hl 0 rfl) ?_
  refine lv_iconst (v := 0) hx hb dX4_worth_1 (by decide) ?_
  refine pf_X4_thrown  hx hb hts hown hK hM tw_720 dX4_worth_2 hf (fun s8 H locs hf hM => ?_)
  refine lv_iload_n hx hb dX4_worth_5 rfl (lv_at hl 1 rfl) ?_
  refine wt_callSi (As := [.int x1]) (rest := []) hx hb hml hts hown hK hM cw_X4_243 hd_X4_isView rfl ⟨qz_b rfl, qz_b rfl⟩ ⟨rfl, rfl⟩ hl.1 rfl (qz_b rfl) dX4_worth_6 hf (fun _ _ h9 => c_X4_isView h9) (fun r9 s10 H locs hf hM => ?_)
  refine wq_if_eq (tgt := 22) hx hb dX4_worth_9 (by decide) hf (fun hf => ?_) (fun hf => ?_)
  · refine lv_iconst (v := -1) hx hb dX4_worth_22 (by decide) ?_
    exact w_X4_worth_23 C hf hM hl
  refine lv_iload_n hx hb dX4_worth_12 rfl (lv_at hl 2 rfl) ?_
  refine lv_iconst (v := 0) hx hb dX4_worth_13 (by decide) ?_
  refine lv_bipush (v := 9) hx hb dX4_worth_14 (by decide) ?_
  refine wt_callSi (As := [.int x2, .int (0 : Int32), .int (9 : Int32)]) (rest := []) hx hb hml hts hown hK hM cw_X4_231 hd_X4_wrongNumber rfl ⟨qz_b rfl, qz_b rfl⟩ ⟨rfl, rfl⟩ hl.1 rfl (qz_b rfl) dX4_worth_16 hf (fun _ _ h9 => c_X4_wrongNumber h9) (fun r11 s12 H locs hf hM => ?_)
  refine lv_goto (tgt := 23) hx hb dX4_worth_19 (by decide) ?_
  exact w_X4_worth_23 C hf hM hl
end
set_option maxHeartbeats 4000000 in
set_option maxRecDepth 100000 in
theorem c_X4_worth {l : Launch} {D : va_G} {tI tII : ClassId} {B F : Nat} {x1 : Int32} {x2 : Int32} {σ σ' : Mem} {r : Int32} (hf : f_X4_worth F x1 x2 σ = some (r, σ')) : wt_Mi l yX4_worth cX4_worth 5 (some .int) rm_X4_worth [.ref (B + 101), .int x1, .int x2] D tI tII B σ r σ' := by
  refine Met.ofW (cc := cX4_worth) (maxL := 5) (ret := (some .int)) (by decide) rfl ?_
  intro p e s m args below meth c s₁ B9 hml hv
  obtain ⟨rfl, hP, hK⟩ := hv
  have hl := lv_entry ([.ref (B + 101), .int x1, .int x2]) (n := 5) (qz_b rfl)
  rw [lg_entry_eq]
  generalize (lg_sl ([.ref (B + 101), .int x1, .int x2]) ++ List.replicate (5 - (lg_sl ([.ref (B + 101), .int x1, .int x2])).length) Slot.unset).toArray = ls at hl ⊢
  exact w_X4_worth_0 (wt_C_of B9 hml hK) hf ⟨hP, va_S.rf⟩ hl
section
variable {p : Program} {l : Launch} {e : Env} {s : State} {m : MethodId} {args : Array Value} {below : List Frame} {meth : Method} {c : Code} {D : va_G} {tI tII : ClassId} {B : Nat}
set_option maxHeartbeats 4000000 in
set_option maxRecDepth 100000 in
theorem w_X4_law_0 (C : wt_C p s m args meth c RX4 cX4_law 3 (some .int) D tI tII) {F : Nat} {x1 : Int32} {σ : Mem} {r : Int32} {σ' : Mem} {H : Heap} {locs : List Loc} {ls : Array Slot} (hf : f_X4_law F x1 σ = some (r, σ')) (hM : wt_St D tI tII B σ s H locs) (hl : lv_has ls 3 [(0, .ref (B + 101)), (1, .int x1)]) : W p l e rm_X4_law s m args below meth c H locs 0 0 (MQ below (wt_Qi D tI tII B r σ') args s 0 0 (fun q => B ≤ q)) (F0 m 0 ls []) := by
  obtain ⟨hx, hb, hts, hown, hml, hr, hlk, hK⟩ := id C
  replace hf := Eq.trans f_X4_law_e.symm hf
  refine lv_aload_n hx hb dX4_law_0 rfl (lv_at hl 0 rfl) ?_
  refine lv_iconst (v := 0) hx hb dX4_law_1 (by decide) ?_
  refine pf_X4_thrown  hx hb hts hown hK hM tw_720 dX4_law_2 hf (fun s1 H locs hf hM => ?_)
  refine lv_iload_n hx hb dX4_law_5 rfl (lv_at hl 1 rfl) ?_
  refine lv_i2l (v := (Int32.toInt64 x1)) hx hb dX4_law_6 rfl ?_
  refine lv_lconst (v := 0) hx hb dX4_law_7 (by decide) ?_
  refine lv_ldc2 (v := 2) hx hb hown (hts _ tw_1006) dX4_law_8 ?_
  refine wt_callSi (As := [.long (Int32.toInt64 x1), .long (0 : Int64), .long (2 : Int64)]) (rest := []) hx hb hml hts hown hK hM cw_X4_77 hd_X4_in rfl ⟨qz_b rfl, qz_b rfl⟩ ⟨rfl, rfl⟩ hl.1 rfl (qz_b rfl) dX4_law_11 hf (fun _ _ h9 => c_X4_in h9) (fun r2 s3 H locs hf hM => ?_)
  refine wq_if_ne (tgt := 24) hx hb dX4_law_14 (by decide) hf (fun hf => ?_) (fun hf => ?_)
  · refine lv_aload_n hx hb dX4_law_24 rfl (lv_at hl 0 rfl) ?_
    refine wt_callVv (As := []) (rest := []) hx hb hml hts hown hK hM wt_rc_X4 cw_X4_240 hd_X4_keepTurn rfl ⟨qz_b rfl, qz_b rfl⟩ ⟨rfl, rfl⟩ hl.1 rfl (qz_b rfl) dX4_law_25 hf (fun _ _ h9 => c_X4_keepTurn h9) (fun r4 s5 H locs hf hM => ?_)
    refine lv_aload_n hx hb dX4_law_28 rfl (lv_at hl 0 rfl) ?_
    refine gf_X4_law0  hx hb hts hown hK hM tw_718 dX4_law_29 ?_
    refine lv_istore_n (lv' := [(2, .int (s5 101 8)), (0, .ref (B + 101)), (1, .int x1)]) hx hb dX4_law_32 rfl hl (by decide) rfl (fun ls hl => ?_)
    refine lv_aload_n hx hb dX4_law_33 rfl (lv_at hl 1 rfl) ?_
    refine lv_iload_n hx hb dX4_law_34 rfl (lv_at hl 2 rfl) ?_
    refine pf_X4_law0  hx hb hts hown hK hM tw_718 dX4_law_35 hf (fun s6 H locs hf hM => ?_)
    refine lv_iload_n hx hb dX4_law_38 rfl (lv_at hl 0 rfl) ?_
    exact wt_iret hx hb hr hlk hK hM hf dX4_law_39
  refine lv_aload_n hx hb dX4_law_17 rfl (lv_at hl 0 rfl) ?_
  refine lv_bipush (v := -2) hx hb dX4_law_18 (by decide) ?_
  refine wt_callVi (As := [.int (-2 : Int32)]) (rest := []) hx hb hml hts hown hK hM wt_rc_X4 cw_X4_143 hd_X4_refuse rfl ⟨qz_b rfl, qz_b rfl⟩ ⟨rfl, rfl⟩ hl.1 rfl (qz_b rfl) dX4_law_20 hf (fun _ _ h9 => c_X4_refuse h9) (fun r7 s8 H locs hf hM => ?_)
  exact wt_iret hx hb hr hlk hK hM hf dX4_law_23
end
set_option maxHeartbeats 4000000 in
set_option maxRecDepth 100000 in
theorem c_X4_law {l : Launch} {D : va_G} {tI tII : ClassId} {B F : Nat} {x1 : Int32} {σ σ' : Mem} {r : Int32} (hf : f_X4_law F x1 σ = some (r, σ')) : wt_Mi l yX4_law cX4_law 3 (some .int) rm_X4_law [.ref (B + 101), .int x1] D tI tII B σ r σ' := by
  refine Met.ofW (cc := cX4_law) (maxL := 3) (ret := (some .int)) (by decide) rfl ?_
  intro p e s m args below meth c s₁ B9 hml hv
  obtain ⟨rfl, hP, hK⟩ := hv
  have hl := lv_entry ([.ref (B + 101), .int x1]) (n := 3) (qz_b rfl)
  rw [lg_entry_eq]
  generalize (lg_sl ([.ref (B + 101), .int x1]) ++ List.replicate (3 - (lg_sl ([.ref (B + 101), .int x1])).length) Slot.unset).toArray = ls at hl ⊢
  exact w_X4_law_0 (wt_C_of B9 hml hK) hf ⟨hP, va_S.rf⟩ hl
section
variable {p : Program} {l : Launch} {e : Env} {s : State} {m : MethodId} {args : Array Value} {below : List Frame} {meth : Method} {c : Code} {D : va_G} {tI tII : ClassId} {B : Nat}
set_option maxHeartbeats 4000000 in
set_option maxRecDepth 100000 in
theorem w_X4_days_35 (C : wt_C p s m args meth c RX4 cX4_days 3 (some .int) D tI tII) {F : Nat} {x1 : Int32} {t0 : Int32} {σ : Mem} {r : Int32} {σ' : Mem} {H : Heap} {locs : List Loc} {ls : Array Slot} (hf : j_X4_days_35 F x1 t0 σ = some (r, σ')) (hM : wt_St D tI tII B σ s H locs) (hl : lv_has ls 3 [(0, .ref (B + 101)), (1, .int x1)]) : W p l e rm_X4_days s m args below meth c H locs 0 0 (MQ below (wt_Qi D tI tII B r σ') args s 0 0 (fun q => B ≤ q)) (F0 m 35 ls [.int t0]) := by
  obtain ⟨hx, hb, hts, hown, hml, hr, hlk, hK⟩ := id C
  replace hf := Eq.trans j_X4_days_35_e.symm hf
  refine lv_istore_n (lv' := [(2, .int t0), (0, .ref (B + 101)), (1, .int x1)]) hx hb dX4_days_35 rfl hl (by decide) rfl (fun ls hl => ?_)
  refine lv_iload_n hx hb dX4_days_36 rfl (lv_at hl 0 rfl) ?_
  refine wq_if_ge (tgt := 46) hx hb dX4_days_37 (by decide) hf (fun hf => ?_) (fun hf => ?_)
  · refine lv_aload_n hx hb dX4_days_46 rfl (lv_at hl 1 rfl) ?_
    refine lv_iload_n hx hb dX4_days_47 rfl (lv_at hl 2 rfl) ?_
    refine wt_callVv (As := [.int x1]) (rest := []) hx hb hml hts hown hK hM wt_rc_X4 cw_X4_188 hd_X4_goDays rfl ⟨qz_b rfl, qz_b rfl⟩ ⟨rfl, rfl⟩ hl.1 rfl (qz_b rfl) dX4_days_48 hf (fun _ _ h9 => c_X4_goDays h9) (fun r1 s2 H locs hf hM => ?_)
    refine lv_aload_n hx hb dX4_days_51 rfl (lv_at hl 1 rfl) ?_
    refine lv_iconst (v := 0) hx hb dX4_days_52 (by decide) ?_
    refine pf_X4_turned  hx hb hts hown hK hM tw_740 dX4_days_53 hf (fun s3 H locs hf hM => ?_)
    refine lv_aload_n hx hb dX4_days_56 rfl (lv_at hl 1 rfl) ?_
    refine wt_callVi (As := []) (rest := []) hx hb hml hts hown hK hM wt_rc_X4 cw_X4_248 hd_X4_owned rfl ⟨qz_b rfl, qz_b rfl⟩ ⟨rfl, rfl⟩ hl.1 rfl (qz_b rfl) dX4_days_57 hf (fun _ _ h9 => c_X4_owned h9) (fun r4 s5 H locs hf hM => ?_)
    exact wt_iret hx hb hr hlk hK hM hf dX4_days_60
  refine lv_aload_n hx hb dX4_days_40 rfl (lv_at hl 1 rfl) ?_
  refine lv_iload_n hx hb dX4_days_41 rfl (lv_at hl 0 rfl) ?_
  refine wt_callVi (As := [.int t0]) (rest := []) hx hb hml hts hown hK hM wt_rc_X4 cw_X4_143 hd_X4_refuse rfl ⟨qz_b rfl, qz_b rfl⟩ ⟨rfl, rfl⟩ hl.1 rfl (qz_b rfl) dX4_days_42 hf (fun _ _ h9 => c_X4_refuse h9) (fun r6 s7 H locs hf hM => ?_)
  exact wt_iret hx hb hr hlk hK hM hf dX4_days_45
set_option maxHeartbeats 4000000 in
set_option maxRecDepth 100000 in
theorem w_X4_days_34 (C : wt_C p s m args meth c RX4 cX4_days 3 (some .int) D tI tII) {F : Nat} {x1 : Int32} {x2 : Int32} {σ : Mem} {r : Int32} {σ' : Mem} {H : Heap} {locs : List Loc} {ls : Array Slot} (hf : j_X4_days_34 F x1 x2 σ = some (r, σ')) (hM : wt_St D tI tII B σ s H locs) (hl : lv_has ls 3 [(0, .ref (B + 101)), (1, .int x1), (2, .int x2)]) : W p l e rm_X4_days s m args below meth c H locs 0 0 (MQ below (wt_Qi D tI tII B r σ') args s 0 0 (fun q => B ≤ q)) (F0 m 34 ls []) := by
  obtain ⟨hx, hb, hts, hown, hml, hr, hlk, hK⟩ := id C
  replace hf := Eq.trans j_X4_days_34_e.symm hf
  refine lv_iload_n hx hb dX4_days_34 rfl (lv_at hl 2 rfl) ?_
  exact w_X4_days_35 C hf hM (lv_sub hl [0, 1] rfl)
set_option maxHeartbeats 4000000 in
set_option maxRecDepth 100000 in
theorem w_X4_days_0 (C : wt_C p s m args meth c RX4 cX4_days 3 (some .int) D tI tII) {F : Nat} {x1 : Int32} {σ : Mem} {r : Int32} {σ' : Mem} {H : Heap} {locs : List Loc} {ls : Array Slot} (hf : f_X4_days F x1 σ = some (r, σ')) (hM : wt_St D tI tII B σ s H locs) (hl : lv_has ls 3 [(0, .ref (B + 101)), (1, .int x1)]) : W p l e rm_X4_days s m args below meth c H locs 0 0 (MQ below (wt_Qi D tI tII B r σ') args s 0 0 (fun q => B ≤ q)) (F0 m 0 ls []) := by
  obtain ⟨hx, hb, hts, hown, hml, hr, hlk, hK⟩ := id C
  replace hf := Eq.trans f_X4_days_e.symm hf
  refine lv_aload_n hx hb dX4_days_0 rfl (lv_at hl 0 rfl) ?_
  refine lv_iconst (v := 0) hx hb dX4_days_1 (by decide) ?_
  refine pf_X4_thrown  hx hb hts hown hK hM tw_720 dX4_days_2 hf (fun s8 H locs hf hM => ?_)
  refine lv_iload_n hx hb dX4_days_5 rfl (lv_at hl 1 rfl) ?_
  refine lv_iconst (v := 1) hx hb dX4_days_6 (by decide) ?_
  refine lv_bipush (v := 99) hx hb dX4_days_7 (by decide) ?_
  refine wt_callSi (As := [.int x1, .int (1 : Int32), .int (99 : Int32)]) (rest := []) hx hb hml hts hown hK hM cw_X4_231 hd_X4_wrongNumber rfl ⟨qz_b rfl, qz_b rfl⟩ ⟨rfl, rfl⟩ hl.1 rfl (qz_b rfl) dX4_days_9 hf (fun _ _ h9 => c_X4_wrongNumber h9) (fun r9 s10 H locs hf hM => ?_)
  refine lv_istore_n (lv' := [(2, .int r9), (0, .ref (B + 101)), (1, .int x1)]) hx hb dX4_days_12 rfl hl (by decide) rfl (fun ls hl => ?_)
  refine lv_iload_n hx hb dX4_days_13 rfl (lv_at hl 0 rfl) ?_
  refine wq_if_ne (tgt := 34) hx hb dX4_days_14 (by decide) hf (fun hf => ?_) (fun hf => ?_)
  · exact w_X4_days_34 C hf hM (lv_sub hl [1, 2, 0] rfl)
  refine lv_aload_n hx hb dX4_days_17 rfl (lv_at hl 1 rfl) ?_
  refine gf_X4_today  hx hb hts hown hK hM tw_719 dX4_days_18 ?_
  refine lv_iload_n hx hb dX4_days_21 rfl (lv_at hl 2 rfl) ?_
  refine lv_iadd hx hb dX4_days_22 ?_
  refine lv_sipush (v := 9999) hx hb dX4_days_23 (by decide) ?_
  refine wq_icmp_le (tgt := 34) hx hb dX4_days_26 (by decide) hf (fun hf => ?_) (fun hf => ?_)
  · exact w_X4_days_34 C hf hM (lv_sub hl [1, 2, 0] rfl)
  refine lv_bipush (v := -6) hx hb dX4_days_29 (by decide) ?_
  refine lv_goto (tgt := 35) hx hb dX4_days_31 (by decide) ?_
  exact w_X4_days_35 C hf hM (lv_sub hl [1, 2] rfl)
end
set_option maxHeartbeats 4000000 in
set_option maxRecDepth 100000 in
theorem c_X4_days {l : Launch} {D : va_G} {tI tII : ClassId} {B F : Nat} {x1 : Int32} {σ σ' : Mem} {r : Int32} (hf : f_X4_days F x1 σ = some (r, σ')) : wt_Mi l yX4_days cX4_days 3 (some .int) rm_X4_days [.ref (B + 101), .int x1] D tI tII B σ r σ' := by
  refine Met.ofW (cc := cX4_days) (maxL := 3) (ret := (some .int)) (by decide) rfl ?_
  intro p e s m args below meth c s₁ B9 hml hv
  obtain ⟨rfl, hP, hK⟩ := hv
  have hl := lv_entry ([.ref (B + 101), .int x1]) (n := 3) (qz_b rfl)
  rw [lg_entry_eq]
  generalize (lg_sl ([.ref (B + 101), .int x1]) ++ List.replicate (3 - (lg_sl ([.ref (B + 101), .int x1])).length) Slot.unset).toArray = ls at hl ⊢
  exact w_X4_days_0 (wt_C_of B9 hml hK) hf ⟨hP, va_S.rf⟩ hl
section
variable {p : Program} {l : Launch} {e : Env} {s : State} {m : MethodId} {args : Array Value} {below : List Frame} {meth : Method} {c : Code} {D : va_G} {tI tII : ClassId} {B : Nat}
set_option maxHeartbeats 4000000 in
set_option maxRecDepth 100000 in
theorem w_X4_counts_30 (C : wt_C p s m args meth c RX4 cX4_counts 5 (some .int) D tI tII) {F : Nat} {x1 : Int32} {x2 : Int32} {x3 : Int32} {t0 : Int32} {σ : Mem} {r : Int32} {σ' : Mem} {H : Heap} {locs : List Loc} {ls : Array Slot} (hf : j_X4_counts_30 F x1 x2 x3 t0 σ = some (r, σ')) (hM : wt_St D tI tII B σ s H locs) (hl : lv_has ls 5 [(0, .ref (B + 101)), (1, .int x1), (2, .int x2), (3, .int x3)]) : W p l e rm_X4_counts s m args below meth c H locs 0 0 (MQ below (wt_Qi D tI tII B r σ') args s 0 0 (fun q => B ≤ q)) (F0 m 30 ls [.int t0]) := by
  obtain ⟨hx, hb, hts, hown, hml, hr, hlk, hK⟩ := id C
  replace hf := Eq.trans j_X4_counts_30_e.symm hf
  refine lv_istore (lv' := [(4, .int t0), (0, .ref (B + 101)), (1, .int x1), (2, .int x2), (3, .int x3)]) hx hb dX4_counts_30 hl (by decide) rfl (fun ls hl => ?_)
  refine lv_iload hx hb dX4_counts_32 (lv_at hl 0 rfl) ?_
  refine wq_if_ge (tgt := 44) hx hb dX4_counts_34 (by decide) hf (fun hf => ?_) (fun hf => ?_)
  · refine lv_iload_n hx hb dX4_counts_44 rfl (lv_at hl 4 rfl) ?_
    refine wq_if_ne (tgt := 62) hx hb dX4_counts_45 (by decide) hf (fun hf => ?_) (fun hf => ?_)
    · refine lv_aload_n hx hb dX4_counts_62 rfl (lv_at hl 1 rfl) ?_
      refine lv_iload_n hx hb dX4_counts_63 rfl (lv_at hl 2 rfl) ?_
      refine lv_iload_n hx hb dX4_counts_64 rfl (lv_at hl 3 rfl) ?_
      refine wt_callVi (As := [.int x1, .int x2]) (rest := []) hx hb hml hts hown hK hM wt_rc_X4 cw_X4_111 hd_X4_bringsOf rfl ⟨qz_b rfl, qz_b rfl⟩ ⟨rfl, rfl⟩ hl.1 rfl (qz_b rfl) dX4_counts_65 hf (fun _ _ h9 => c_X4_bringsOf h9) (fun r1 s2 H locs hf hM => ?_)
      exact wt_iret hx hb hr hlk hK hM hf dX4_counts_68
    refine lv_aload_n hx hb dX4_counts_48 rfl (lv_at hl 1 rfl) ?_
    refine gf_X4_counted  hx hb hts hown hK hM tw_717 dX4_counts_49 ?_
    refine lv_bipush (v := 8) hx hb dX4_counts_52 (by decide) ?_
    refine lv_iload_n hx hb dX4_counts_54 rfl (lv_at hl 2 rfl) ?_
    refine lv_imul hx hb dX4_counts_55 ?_
    refine lv_iload_n hx hb dX4_counts_56 rfl (lv_at hl 3 rfl) ?_
    refine lv_iadd hx hb dX4_counts_57 ?_
    obtain ⟨i3, hf⟩ := wt_chk_of hf
    refine wt_ild hx hb hK hM wt_a107 i3 dX4_counts_58 ?_
    refine lv_goto (tgt := 68) hx hb dX4_counts_59 (by decide) ?_
    exact wt_iret hx hb hr hlk hK hM hf dX4_counts_68
  refine lv_aload_n hx hb dX4_counts_37 rfl (lv_at hl 1 rfl) ?_
  refine lv_iload hx hb dX4_counts_38 (lv_at hl 0 rfl) ?_
  refine wt_callVi (As := [.int t0]) (rest := []) hx hb hml hts hown hK hM wt_rc_X4 cw_X4_143 hd_X4_refuse rfl ⟨qz_b rfl, qz_b rfl⟩ ⟨rfl, rfl⟩ hl.1 rfl (qz_b rfl) dX4_counts_40 hf (fun _ _ h9 => c_X4_refuse h9) (fun r4 s5 H locs hf hM => ?_)
  exact wt_iret hx hb hr hlk hK hM hf dX4_counts_43
set_option maxHeartbeats 4000000 in
set_option maxRecDepth 100000 in
theorem w_X4_counts_29 (C : wt_C p s m args meth c RX4 cX4_counts 5 (some .int) D tI tII) {F : Nat} {x1 : Int32} {x2 : Int32} {x3 : Int32} {σ : Mem} {r : Int32} {σ' : Mem} {H : Heap} {locs : List Loc} {ls : Array Slot} (hf : j_X4_counts_29 F x1 x2 x3 σ = some (r, σ')) (hM : wt_St D tI tII B σ s H locs) (hl : lv_has ls 5 [(0, .ref (B + 101)), (1, .int x1), (2, .int x2), (3, .int x3)]) : W p l e rm_X4_counts s m args below meth c H locs 0 0 (MQ below (wt_Qi D tI tII B r σ') args s 0 0 (fun q => B ≤ q)) (F0 m 29 ls []) := by
  obtain ⟨hx, hb, hts, hown, hml, hr, hlk, hK⟩ := id C
  replace hf := Eq.trans j_X4_counts_29_e.symm hf
  refine lv_iconst (v := -1) hx hb dX4_counts_29 (by decide) ?_
  exact w_X4_counts_30 C hf hM hl
set_option maxHeartbeats 4000000 in
set_option maxRecDepth 100000 in
theorem w_X4_counts_0 (C : wt_C p s m args meth c RX4 cX4_counts 5 (some .int) D tI tII) {F : Nat} {x1 : Int32} {x2 : Int32} {x3 : Int32} {σ : Mem} {r : Int32} {σ' : Mem} {H : Heap} {locs : List Loc} {ls : Array Slot} (hf : f_X4_counts F x1 x2 x3 σ = some (r, σ')) (hM : wt_St D tI tII B σ s H locs) (hl : lv_has ls 5 [(0, .ref (B + 101)), (1, .int x1), (2, .int x2), (3, .int x3)]) : W p l e rm_X4_counts s m args below meth c H locs 0 0 (MQ below (wt_Qi D tI tII B r σ') args s 0 0 (fun q => B ≤ q)) (F0 m 0 ls []) := by
  obtain ⟨hx, hb, hts, hown, hml, hr, hlk, hK⟩ := id C
  replace hf := Eq.trans f_X4_counts_e.symm hf
  refine lv_aload_n hx hb dX4_counts_0 rfl (lv_at hl 0 rfl) ?_
  refine lv_iconst (v := 0) hx hb dX4_counts_1 (by decide) ?_
  refine pf_X4_thrown  hx hb hts hown hK hM tw_720 dX4_counts_2 hf (fun s6 H locs hf hM => ?_)
  refine lv_aload_n hx hb dX4_counts_5 rfl (lv_at hl 0 rfl) ?_
  refine lv_iload_n hx hb dX4_counts_6 rfl (lv_at hl 1 rfl) ?_
  refine wt_callVi (As := [.int x1]) (rest := []) hx hb hml hts hown hK hM wt_rc_X4 cw_X4_88 hd_X4_isLooker rfl ⟨qz_b rfl, qz_b rfl⟩ ⟨rfl, rfl⟩ hl.1 rfl (qz_b rfl) dX4_counts_7 hf (fun _ _ h9 => c_X4_isLooker h9) (fun r7 s8 H locs hf hM => ?_)
  refine wq_if_eq (tgt := 29) hx hb dX4_counts_10 (by decide) hf (fun hf => ?_) (fun hf => ?_)
  · exact w_X4_counts_29 C hf hM hl
  refine lv_iload_n hx hb dX4_counts_13 rfl (lv_at hl 2 rfl) ?_
  refine wt_callSi (As := [.int x2]) (rest := []) hx hb hml hts hown hK hM cw_X4_243 hd_X4_isView rfl ⟨qz_b rfl, qz_b rfl⟩ ⟨rfl, rfl⟩ hl.1 rfl (qz_b rfl) dX4_counts_14 hf (fun _ _ h9 => c_X4_isView h9) (fun r9 s10 H locs hf hM => ?_)
  refine wq_if_eq (tgt := 29) hx hb dX4_counts_17 (by decide) hf (fun hf => ?_) (fun hf => ?_)
  · exact w_X4_counts_29 C hf hM hl
  refine lv_iconst (v := 0) hx hb dX4_counts_20 (by decide) ?_
  refine lv_iload_n hx hb dX4_counts_21 rfl (lv_at hl 3 rfl) ?_
  refine lv_iconst (v := 1) hx hb dX4_counts_22 (by decide) ?_
  refine wt_callSi (As := [.int (0 : Int32), .int x3, .int (1 : Int32)]) (rest := []) hx hb hml hts hown hK hM cw_X4_251 hd_X4_wrongBit rfl ⟨qz_b rfl, qz_b rfl⟩ ⟨rfl, rfl⟩ hl.1 rfl (qz_b rfl) dX4_counts_23 hf (fun _ _ h9 => c_X4_wrongBit h9) (fun r11 s12 H locs hf hM => ?_)
  refine lv_goto (tgt := 30) hx hb dX4_counts_26 (by decide) ?_
  exact w_X4_counts_30 C hf hM hl
end
set_option maxHeartbeats 4000000 in
set_option maxRecDepth 100000 in
theorem c_X4_counts {l : Launch} {D : va_G} {tI tII : ClassId} {B F : Nat} {x1 : Int32} {x2 : Int32} {x3 : Int32} {σ σ' : Mem} {r : Int32} (hf : f_X4_counts F x1 x2 x3 σ = some (r, σ')) : wt_Mi l yX4_counts cX4_counts 5 (some .int) rm_X4_counts [.ref (B + 101), .int x1, .int x2, .int x3] D tI tII B σ r σ' := by
  refine Met.ofW (cc := cX4_counts) (maxL := 5) (ret := (some .int)) (by decide) rfl ?_
  intro p e s m args below meth c s₁ B9 hml hv
  obtain ⟨rfl, hP, hK⟩ := hv
  have hl := lv_entry ([.ref (B + 101), .int x1, .int x2, .int x3]) (n := 5) (qz_b rfl)
  rw [lg_entry_eq]
  generalize (lg_sl ([.ref (B + 101), .int x1, .int x2, .int x3]) ++ List.replicate (5 - (lg_sl ([.ref (B + 101), .int x1, .int x2, .int x3])).length) Slot.unset).toArray = ls at hl ⊢
  exact w_X4_counts_0 (wt_C_of B9 hml hK) hf ⟨hP, va_S.rf⟩ hl
section
variable {p : Program} {l : Launch} {e : Env} {s : State} {m : MethodId} {args : Array Value} {below : List Frame} {meth : Method} {c : Code} {D : va_G} {tI tII : ClassId} {B : Nat}
set_option maxHeartbeats 4000000 in
set_option maxRecDepth 100000 in
theorem w_X4_owner_24 (C : wt_C p s m args meth c RX4 cX4_owner 4 (some .int) D tI tII) {F : Nat} {x1 : Int32} {x2 : Int32} {t0 : Int32} {σ : Mem} {r : Int32} {σ' : Mem} {H : Heap} {locs : List Loc} {ls : Array Slot} (hf : j_X4_owner_24 F x1 x2 t0 σ = some (r, σ')) (hM : wt_St D tI tII B σ s H locs) (hl : lv_has ls 4 [(0, .ref (B + 101)), (1, .int x1), (2, .int x2)]) : W p l e rm_X4_owner s m args below meth c H locs 0 0 (MQ below (wt_Qi D tI tII B r σ') args s 0 0 (fun q => B ≤ q)) (F0 m 24 ls [.int t0]) := by
  obtain ⟨hx, hb, hts, hown, hml, hr, hlk, hK⟩ := id C
  replace hf := Eq.trans j_X4_owner_24_e.symm hf
  refine lv_istore_n (lv' := [(3, .int t0), (0, .ref (B + 101)), (1, .int x1), (2, .int x2)]) hx hb dX4_owner_24 rfl hl (by decide) rfl (fun ls hl => ?_)
  refine lv_iload_n hx hb dX4_owner_25 rfl (lv_at hl 0 rfl) ?_
  refine wq_if_ge (tgt := 35) hx hb dX4_owner_26 (by decide) hf (fun hf => ?_) (fun hf => ?_)
  · refine lv_aload_n hx hb dX4_owner_35 rfl (lv_at hl 1 rfl) ?_
    refine wt_callVv (As := []) (rest := []) hx hb hml hts hown hK hM wt_rc_X4 cw_X4_134 hd_X4_layBrings rfl ⟨qz_b rfl, qz_b rfl⟩ ⟨rfl, rfl⟩ hl.1 rfl (qz_b rfl) dX4_owner_36 hf (fun _ _ h9 => c_X4_layBrings h9) (fun r1 s2 H locs hf hM => ?_)
    refine lv_aload_n hx hb dX4_owner_39 rfl (lv_at hl 1 rfl) ?_
    refine lv_iload_n hx hb dX4_owner_40 rfl (lv_at hl 2 rfl) ?_
    refine lv_iload_n hx hb dX4_owner_41 rfl (lv_at hl 3 rfl) ?_
    refine wt_callVi (As := [.int x1, .int x2]) (rest := []) hx hb hml hts hown hK hM wt_rc_X4 cw_X4_125 hd_X4_ownerIn rfl ⟨qz_b rfl, qz_b rfl⟩ ⟨rfl, rfl⟩ hl.1 rfl (qz_b rfl) dX4_owner_42 hf (fun _ _ h9 => c_X4_ownerIn h9) (fun r3 s4 H locs hf hM => ?_)
    exact wt_iret hx hb hr hlk hK hM hf dX4_owner_45
  refine lv_aload_n hx hb dX4_owner_29 rfl (lv_at hl 1 rfl) ?_
  refine lv_iload_n hx hb dX4_owner_30 rfl (lv_at hl 0 rfl) ?_
  refine wt_callVi (As := [.int t0]) (rest := []) hx hb hml hts hown hK hM wt_rc_X4 cw_X4_143 hd_X4_refuse rfl ⟨qz_b rfl, qz_b rfl⟩ ⟨rfl, rfl⟩ hl.1 rfl (qz_b rfl) dX4_owner_31 hf (fun _ _ h9 => c_X4_refuse h9) (fun r5 s6 H locs hf hM => ?_)
  exact wt_iret hx hb hr hlk hK hM hf dX4_owner_34
set_option maxHeartbeats 4000000 in
set_option maxRecDepth 100000 in
theorem w_X4_owner_0 (C : wt_C p s m args meth c RX4 cX4_owner 4 (some .int) D tI tII) {F : Nat} {x1 : Int32} {x2 : Int32} {σ : Mem} {r : Int32} {σ' : Mem} {H : Heap} {locs : List Loc} {ls : Array Slot} (hf : f_X4_owner F x1 x2 σ = some (r, σ')) (hM : wt_St D tI tII B σ s H locs) (hl : lv_has ls 4 [(0, .ref (B + 101)), (1, .int x1), (2, .int x2)]) : W p l e rm_X4_owner s m args below meth c H locs 0 0 (MQ below (wt_Qi D tI tII B r σ') args s 0 0 (fun q => B ≤ q)) (F0 m 0 ls []) := by
  obtain ⟨hx, hb, hts, hown, hml, hr, hlk, hK⟩ := id C
  replace hf := Eq.trans f_X4_owner_e.symm hf
  refine lv_aload_n hx hb dX4_owner_0 rfl (lv_at hl 0 rfl) ?_
  refine lv_iconst (v := 0) hx hb dX4_owner_1 (by decide) ?_
  refine pf_X4_thrown  hx hb hts hown hK hM tw_720 dX4_owner_2 hf (fun s7 H locs hf hM => ?_)
  refine lv_iload_n hx hb dX4_owner_5 rfl (lv_at hl 1 rfl) ?_
  refine wt_callSi (As := [.int x1]) (rest := []) hx hb hml hts hown hK hM cw_X4_243 hd_X4_isView rfl ⟨qz_b rfl, qz_b rfl⟩ ⟨rfl, rfl⟩ hl.1 rfl (qz_b rfl) dX4_owner_6 hf (fun _ _ h9 => c_X4_isView h9) (fun r8 s9 H locs hf hM => ?_)
  refine wq_if_eq (tgt := 23) hx hb dX4_owner_9 (by decide) hf (fun hf => ?_) (fun hf => ?_)
  · refine lv_iconst (v := -1) hx hb dX4_owner_23 (by decide) ?_
    exact w_X4_owner_24 C hf hM hl
  refine lv_iload_n hx hb dX4_owner_12 rfl (lv_at hl 2 rfl) ?_
  refine lv_iconst (v := 0) hx hb dX4_owner_13 (by decide) ?_
  refine lv_sipush (v := 999) hx hb dX4_owner_14 (by decide) ?_
  refine wt_callSi (As := [.int x2, .int (0 : Int32), .int (999 : Int32)]) (rest := []) hx hb hml hts hown hK hM cw_X4_231 hd_X4_wrongNumber rfl ⟨qz_b rfl, qz_b rfl⟩ ⟨rfl, rfl⟩ hl.1 rfl (qz_b rfl) dX4_owner_17 hf (fun _ _ h9 => c_X4_wrongNumber h9) (fun r10 s11 H locs hf hM => ?_)
  refine lv_goto (tgt := 24) hx hb dX4_owner_20 (by decide) ?_
  exact w_X4_owner_24 C hf hM hl
end
set_option maxHeartbeats 4000000 in
set_option maxRecDepth 100000 in
theorem c_X4_owner {l : Launch} {D : va_G} {tI tII : ClassId} {B F : Nat} {x1 : Int32} {x2 : Int32} {σ σ' : Mem} {r : Int32} (hf : f_X4_owner F x1 x2 σ = some (r, σ')) : wt_Mi l yX4_owner cX4_owner 4 (some .int) rm_X4_owner [.ref (B + 101), .int x1, .int x2] D tI tII B σ r σ' := by
  refine Met.ofW (cc := cX4_owner) (maxL := 4) (ret := (some .int)) (by decide) rfl ?_
  intro p e s m args below meth c s₁ B9 hml hv
  obtain ⟨rfl, hP, hK⟩ := hv
  have hl := lv_entry ([.ref (B + 101), .int x1, .int x2]) (n := 4) (qz_b rfl)
  rw [lg_entry_eq]
  generalize (lg_sl ([.ref (B + 101), .int x1, .int x2]) ++ List.replicate (4 - (lg_sl ([.ref (B + 101), .int x1, .int x2])).length) Slot.unset).toArray = ls at hl ⊢
  exact w_X4_owner_0 (wt_C_of B9 hml hK) hf ⟨hP, va_S.rf⟩ hl
section
variable {p : Program} {l : Launch} {e : Env} {s : State} {m : MethodId} {args : Array Value} {below : List Frame} {meth : Method} {c : Code} {D : va_G} {tI tII : ClassId} {B : Nat}
set_option maxHeartbeats 4000000 in
set_option maxRecDepth 100000 in
theorem w_X4_owns_25 (C : wt_C p s m args meth c RX4 cX4_owns 5 (some .int) D tI tII) {F : Nat} {x1 : Int32} {x2 : Int32} {x3 : Int32} {t0 : Int32} {σ : Mem} {r : Int32} {σ' : Mem} {H : Heap} {locs : List Loc} {ls : Array Slot} (hf : j_X4_owns_25 F x1 x2 x3 t0 σ = some (r, σ')) (hM : wt_St D tI tII B σ s H locs) (hl : lv_has ls 5 [(0, .ref (B + 101)), (1, .int x1), (2, .int x2), (3, .int x3)]) : W p l e rm_X4_owns s m args below meth c H locs 0 0 (MQ below (wt_Qi D tI tII B r σ') args s 0 0 (fun q => B ≤ q)) (F0 m 25 ls [.int t0]) := by
  obtain ⟨hx, hb, hts, hown, hml, hr, hlk, hK⟩ := id C
  replace hf := Eq.trans j_X4_owns_25_e.symm hf
  refine lv_iload_n hx hb dX4_owns_25 rfl (lv_at hl 3 rfl) ?_
  refine lv_iconst (v := 1) hx hb dX4_owns_26 (by decide) ?_
  refine wt_callSi (As := [.int t0, .int x3, .int (1 : Int32)]) (rest := []) hx hb hml hts hown hK hM cw_X4_251 hd_X4_wrongBit rfl ⟨qz_b rfl, qz_b rfl⟩ ⟨rfl, rfl⟩ hl.1 rfl (qz_b rfl) dX4_owns_27 hf (fun _ _ h9 => c_X4_wrongBit h9) (fun r1 s2 H locs hf hM => ?_)
  refine lv_istore (lv' := [(4, .int r1), (0, .ref (B + 101)), (1, .int x1), (2, .int x2), (3, .int x3)]) hx hb dX4_owns_30 hl (by decide) rfl (fun ls hl => ?_)
  refine lv_iload hx hb dX4_owns_32 (lv_at hl 0 rfl) ?_
  refine wq_if_ge (tgt := 44) hx hb dX4_owns_34 (by decide) hf (fun hf => ?_) (fun hf => ?_)
  · refine lv_aload_n hx hb dX4_owns_44 rfl (lv_at hl 1 rfl) ?_
    refine wt_callVv (As := []) (rest := []) hx hb hml hts hown hK hM wt_rc_X4 cw_X4_134 hd_X4_layBrings rfl ⟨qz_b rfl, qz_b rfl⟩ ⟨rfl, rfl⟩ hl.1 rfl (qz_b rfl) dX4_owns_45 hf (fun _ _ h9 => c_X4_layBrings h9) (fun r3 s4 H locs hf hM => ?_)
    refine lv_iload_n hx hb dX4_owns_48 rfl (lv_at hl 4 rfl) ?_
    refine wq_if_ne (tgt := 61) hx hb dX4_owns_49 (by decide) hf (fun hf => ?_) (fun hf => ?_)
    · refine lv_aload_n hx hb dX4_owns_61 rfl (lv_at hl 1 rfl) ?_
      refine lv_iload_n hx hb dX4_owns_62 rfl (lv_at hl 2 rfl) ?_
      refine lv_iload_n hx hb dX4_owns_63 rfl (lv_at hl 3 rfl) ?_
      refine wt_callVi (As := [.int x1, .int x2]) (rest := []) hx hb hml hts hown hK hM wt_rc_X4 cw_X4_137 hd_X4_worthIn rfl ⟨qz_b rfl, qz_b rfl⟩ ⟨rfl, rfl⟩ hl.1 rfl (qz_b rfl) dX4_owns_64 hf (fun _ _ h9 => c_X4_worthIn h9) (fun r5 s6 H locs hf hM => ?_)
      exact wt_iret hx hb hr hlk hK hM hf dX4_owns_67
    refine lv_aload_n hx hb dX4_owns_52 rfl (lv_at hl 1 rfl) ?_
    refine lv_iload_n hx hb dX4_owns_53 rfl (lv_at hl 2 rfl) ?_
    refine lv_iload_n hx hb dX4_owns_54 rfl (lv_at hl 3 rfl) ?_
    refine wt_callVi (As := [.int x1, .int x2]) (rest := []) hx hb hml hts hown hK hM wt_rc_X4 cw_X4_128 hd_X4_viewsIn rfl ⟨qz_b rfl, qz_b rfl⟩ ⟨rfl, rfl⟩ hl.1 rfl (qz_b rfl) dX4_owns_55 hf (fun _ _ h9 => c_X4_viewsIn h9) (fun r7 s8 H locs hf hM => ?_)
    refine lv_goto (tgt := 67) hx hb dX4_owns_58 (by decide) ?_
    exact wt_iret hx hb hr hlk hK hM hf dX4_owns_67
  refine lv_aload_n hx hb dX4_owns_37 rfl (lv_at hl 1 rfl) ?_
  refine lv_iload hx hb dX4_owns_38 (lv_at hl 0 rfl) ?_
  refine wt_callVi (As := [.int r1]) (rest := []) hx hb hml hts hown hK hM wt_rc_X4 cw_X4_143 hd_X4_refuse rfl ⟨qz_b rfl, qz_b rfl⟩ ⟨rfl, rfl⟩ hl.1 rfl (qz_b rfl) dX4_owns_40 hf (fun _ _ h9 => c_X4_refuse h9) (fun r9 s10 H locs hf hM => ?_)
  exact wt_iret hx hb hr hlk hK hM hf dX4_owns_43
set_option maxHeartbeats 4000000 in
set_option maxRecDepth 100000 in
theorem w_X4_owns_0 (C : wt_C p s m args meth c RX4 cX4_owns 5 (some .int) D tI tII) {F : Nat} {x1 : Int32} {x2 : Int32} {x3 : Int32} {σ : Mem} {r : Int32} {σ' : Mem} {H : Heap} {locs : List Loc} {ls : Array Slot} (hf : f_X4_owns F x1 x2 x3 σ = some (r, σ')) (hM : wt_St D tI tII B σ s H locs) (hl : lv_has ls 5 [(0, .ref (B + 101)), (1, .int x1), (2, .int x2), (3, .int x3)]) : W p l e rm_X4_owns s m args below meth c H locs 0 0 (MQ below (wt_Qi D tI tII B r σ') args s 0 0 (fun q => B ≤ q)) (F0 m 0 ls []) := by
  obtain ⟨hx, hb, hts, hown, hml, hr, hlk, hK⟩ := id C
  replace hf := Eq.trans f_X4_owns_e.symm hf
  refine lv_aload_n hx hb dX4_owns_0 rfl (lv_at hl 0 rfl) ?_
  refine lv_iconst (v := 0) hx hb dX4_owns_1 (by decide) ?_
  refine pf_X4_thrown  hx hb hts hown hK hM tw_720 dX4_owns_2 hf (fun s11 H locs hf hM => ?_)
  refine lv_aload_n hx hb dX4_owns_5 rfl (lv_at hl 0 rfl) ?_
  refine lv_iload_n hx hb dX4_owns_6 rfl (lv_at hl 1 rfl) ?_
  refine wt_callVi (As := [.int x1]) (rest := []) hx hb hml hts hown hK hM wt_rc_X4 cw_X4_88 hd_X4_isLooker rfl ⟨qz_b rfl, qz_b rfl⟩ ⟨rfl, rfl⟩ hl.1 rfl (qz_b rfl) dX4_owns_7 hf (fun _ _ h9 => c_X4_isLooker h9) (fun r12 s13 H locs hf hM => ?_)
  refine wq_if_eq (tgt := 24) hx hb dX4_owns_10 (by decide) hf (fun hf => ?_) (fun hf => ?_)
  · refine lv_iconst (v := -1) hx hb dX4_owns_24 (by decide) ?_
    exact w_X4_owns_25 C hf hM hl
  refine lv_iload_n hx hb dX4_owns_13 rfl (lv_at hl 2 rfl) ?_
  refine lv_iconst (v := 0) hx hb dX4_owns_14 (by decide) ?_
  refine lv_sipush (v := 999) hx hb dX4_owns_15 (by decide) ?_
  refine wt_callSi (As := [.int x2, .int (0 : Int32), .int (999 : Int32)]) (rest := []) hx hb hml hts hown hK hM cw_X4_231 hd_X4_wrongNumber rfl ⟨qz_b rfl, qz_b rfl⟩ ⟨rfl, rfl⟩ hl.1 rfl (qz_b rfl) dX4_owns_18 hf (fun _ _ h9 => c_X4_wrongNumber h9) (fun r14 s15 H locs hf hM => ?_)
  refine lv_goto (tgt := 25) hx hb dX4_owns_21 (by decide) ?_
  exact w_X4_owns_25 C hf hM hl
end
set_option maxHeartbeats 4000000 in
set_option maxRecDepth 100000 in
theorem c_X4_owns {l : Launch} {D : va_G} {tI tII : ClassId} {B F : Nat} {x1 : Int32} {x2 : Int32} {x3 : Int32} {σ σ' : Mem} {r : Int32} (hf : f_X4_owns F x1 x2 x3 σ = some (r, σ')) : wt_Mi l yX4_owns cX4_owns 5 (some .int) rm_X4_owns [.ref (B + 101), .int x1, .int x2, .int x3] D tI tII B σ r σ' := by
  refine Met.ofW (cc := cX4_owns) (maxL := 5) (ret := (some .int)) (by decide) rfl ?_
  intro p e s m args below meth c s₁ B9 hml hv
  obtain ⟨rfl, hP, hK⟩ := hv
  have hl := lv_entry ([.ref (B + 101), .int x1, .int x2, .int x3]) (n := 5) (qz_b rfl)
  rw [lg_entry_eq]
  generalize (lg_sl ([.ref (B + 101), .int x1, .int x2, .int x3]) ++ List.replicate (5 - (lg_sl ([.ref (B + 101), .int x1, .int x2, .int x3])).length) Slot.unset).toArray = ls at hl ⊢
  exact w_X4_owns_0 (wt_C_of B9 hml hK) hf ⟨hP, va_S.rf⟩ hl
section
variable {p : Program} {l : Launch} {e : Env} {s : State} {m : MethodId} {args : Array Value} {below : List Frame} {meth : Method} {c : Code} {D : va_G} {tI tII : ClassId} {B : Nat}
set_option maxHeartbeats 4000000 in
set_option maxRecDepth 100000 in
theorem w_X4_nobodys_0 (C : wt_C p s m args meth c RX4 cX4_nobodys 2 (some .int) D tI tII) {F : Nat} {x1 : Int32} {σ : Mem} {r : Int32} {σ' : Mem} {H : Heap} {locs : List Loc} {ls : Array Slot} (hf : f_X4_nobodys F x1 σ = some (r, σ')) (hM : wt_St D tI tII B σ s H locs) (hl : lv_has ls 2 [(0, .ref (B + 101)), (1, .int x1)]) : W p l e rm_X4_nobodys s m args below meth c H locs 0 0 (MQ below (wt_Qi D tI tII B r σ') args s 0 0 (fun q => B ≤ q)) (F0 m 0 ls []) := by
  obtain ⟨hx, hb, hts, hown, hml, hr, hlk, hK⟩ := id C
  replace hf := Eq.trans f_X4_nobodys_e.symm hf
  refine lv_aload_n hx hb dX4_nobodys_0 rfl (lv_at hl 0 rfl) ?_
  refine lv_iconst (v := 0) hx hb dX4_nobodys_1 (by decide) ?_
  refine pf_X4_thrown  hx hb hts hown hK hM tw_720 dX4_nobodys_2 hf (fun s1 H locs hf hM => ?_)
  refine lv_iload_n hx hb dX4_nobodys_5 rfl (lv_at hl 1 rfl) ?_
  refine lv_iconst (v := 0) hx hb dX4_nobodys_6 (by decide) ?_
  refine lv_sipush (v := 999) hx hb dX4_nobodys_7 (by decide) ?_
  refine wt_callSi (As := [.int x1, .int (0 : Int32), .int (999 : Int32)]) (rest := []) hx hb hml hts hown hK hM cw_X4_231 hd_X4_wrongNumber rfl ⟨qz_b rfl, qz_b rfl⟩ ⟨rfl, rfl⟩ hl.1 rfl (qz_b rfl) dX4_nobodys_10 hf (fun _ _ h9 => c_X4_wrongNumber h9) (fun r2 s3 H locs hf hM => ?_)
  refine wq_if_ge (tgt := 29) hx hb dX4_nobodys_13 (by decide) hf (fun hf => ?_) (fun hf => ?_)
  · refine lv_aload_n hx hb dX4_nobodys_29 rfl (lv_at hl 0 rfl) ?_
    refine wt_callVv (As := []) (rest := []) hx hb hml hts hown hK hM wt_rc_X4 cw_X4_134 hd_X4_layBrings rfl ⟨qz_b rfl, qz_b rfl⟩ ⟨rfl, rfl⟩ hl.1 rfl (qz_b rfl) dX4_nobodys_30 hf (fun _ _ h9 => c_X4_layBrings h9) (fun r4 s5 H locs hf hM => ?_)
    refine lv_aload_n hx hb dX4_nobodys_33 rfl (lv_at hl 0 rfl) ?_
    refine lv_bipush (v := -9) hx hb dX4_nobodys_34 (by decide) ?_
    refine lv_iload_n hx hb dX4_nobodys_36 rfl (lv_at hl 1 rfl) ?_
    refine wt_callVi (As := [.int (-9 : Int32), .int x1]) (rest := []) hx hb hml hts hown hK hM wt_rc_X4 cw_X4_128 hd_X4_viewsIn rfl ⟨qz_b rfl, qz_b rfl⟩ ⟨rfl, rfl⟩ hl.1 rfl (qz_b rfl) dX4_nobodys_37 hf (fun _ _ h9 => c_X4_viewsIn h9) (fun r6 s7 H locs hf hM => ?_)
    exact wt_iret hx hb hr hlk hK hM hf dX4_nobodys_40
  refine lv_aload_n hx hb dX4_nobodys_16 rfl (lv_at hl 0 rfl) ?_
  refine lv_iload_n hx hb dX4_nobodys_17 rfl (lv_at hl 1 rfl) ?_
  refine lv_iconst (v := 0) hx hb dX4_nobodys_18 (by decide) ?_
  refine lv_sipush (v := 999) hx hb dX4_nobodys_19 (by decide) ?_
  refine wt_callSi (As := [.int x1, .int (0 : Int32), .int (999 : Int32)]) (rest := [.ref (B + 101)]) hx hb hml hts hown hK hM cw_X4_231 hd_X4_wrongNumber rfl ⟨qz_b rfl, qz_b rfl⟩ ⟨rfl, rfl⟩ hl.1 rfl (qz_b rfl) dX4_nobodys_22 hf (fun _ _ h9 => c_X4_wrongNumber h9) (fun r8 s9 H locs hf hM => ?_)
  refine wt_callVi (As := [.int r8]) (rest := []) hx hb hml hts hown hK hM wt_rc_X4 cw_X4_143 hd_X4_refuse rfl ⟨qz_b rfl, qz_b rfl⟩ ⟨rfl, rfl⟩ hl.1 rfl (qz_b rfl) dX4_nobodys_25 hf (fun _ _ h9 => c_X4_refuse h9) (fun r10 s11 H locs hf hM => ?_)
  exact wt_iret hx hb hr hlk hK hM hf dX4_nobodys_28
end
set_option maxHeartbeats 4000000 in
set_option maxRecDepth 100000 in
theorem c_X4_nobodys {l : Launch} {D : va_G} {tI tII : ClassId} {B F : Nat} {x1 : Int32} {σ σ' : Mem} {r : Int32} (hf : f_X4_nobodys F x1 σ = some (r, σ')) : wt_Mi l yX4_nobodys cX4_nobodys 2 (some .int) rm_X4_nobodys [.ref (B + 101), .int x1] D tI tII B σ r σ' := by
  refine Met.ofW (cc := cX4_nobodys) (maxL := 2) (ret := (some .int)) (by decide) rfl ?_
  intro p e s m args below meth c s₁ B9 hml hv
  obtain ⟨rfl, hP, hK⟩ := hv
  have hl := lv_entry ([.ref (B + 101), .int x1]) (n := 2) (qz_b rfl)
  rw [lg_entry_eq]
  generalize (lg_sl ([.ref (B + 101), .int x1]) ++ List.replicate (2 - (lg_sl ([.ref (B + 101), .int x1])).length) Slot.unset).toArray = ls at hl ⊢
  exact w_X4_nobodys_0 (wt_C_of B9 hml hK) hf ⟨hP, va_S.rf⟩ hl
section
variable {p : Program} {l : Launch} {e : Env} {s : State} {m : MethodId} {args : Array Value} {below : List Frame} {meth : Method} {c : Code} {D : va_G} {tI tII : ClassId} {B : Nat}
set_option maxHeartbeats 4000000 in
set_option maxRecDepth 100000 in
theorem w_X4_from_20 (C : wt_C p s m args meth c RX4 cX4_from 4 (some .int) D tI tII) {F : Nat} {σ : Mem} {r : Int32} {σ' : Mem} {H : Heap} {locs : List Loc} {ls : Array Slot} (hf : j_X4_from_20 F σ = some (r, σ')) (hM : wt_St D tI tII B σ s H locs) (hl : lv_has ls 4 [(0, .ref (B + 101))]) : W p l e rm_X4_from s m args below meth c H locs 0 0 (MQ below (wt_Qi D tI tII B r σ') args s 0 0 (fun q => B ≤ q)) (F0 m 20 ls []) := by
  obtain ⟨hx, hb, hts, hown, hml, hr, hlk, hK⟩ := id C
  replace hf := Eq.trans j_X4_from_20_e.symm hf
  refine lv_aload_n hx hb dX4_from_20 rfl (lv_at hl 0 rfl) ?_
  refine lv_iconst (v := -1) hx hb dX4_from_21 (by decide) ?_
  refine wt_callVi (As := [.int (-1 : Int32)]) (rest := []) hx hb hml hts hown hK hM wt_rc_X4 cw_X4_143 hd_X4_refuse rfl ⟨qz_b rfl, qz_b rfl⟩ ⟨rfl, rfl⟩ hl.1 rfl (qz_b rfl) dX4_from_22 hf (fun _ _ h9 => c_X4_refuse h9) (fun r1 s2 H locs hf hM => ?_)
  exact wt_iret hx hb hr hlk hK hM hf dX4_from_25
set_option maxHeartbeats 4000000 in
set_option maxRecDepth 100000 in
theorem w_X4_from_32 (C : wt_C p s m args meth c RX4 cX4_from 4 (some .int) D tI tII) {F : Nat} {x1 : Int32} {x2 : Int32} {r : Int32} {σ' : Mem} : ∀ (N : Nat) (x3 : Int32) (σ : Mem) (H : Heap) (locs : List Loc) (ls : Array Slot), lp_X4_from_32 F x1 x2 N x3 σ = some (r, σ') → wt_St D tI tII B σ s H locs → lv_has ls 4 [(0, .ref (B + 101)), (1, .int x1), (2, .int x2), (3, .int x3)] → W p l e rm_X4_from s m args below meth c H locs 0 0 (MQ below (wt_Qi D tI tII B r σ') args s 0 0 (fun q => B ≤ q)) (F0 m 32 ls []) := by
  obtain ⟨hx, hb, hts, hown, hml, hr, hlk, hK⟩ := id C
  intro N
  induction N with
  | zero => intro x3 σ H locs ls hf; exact wt_none (show (none : Option (Int32 × Mem)) = some (r, σ') from hf)
  | succ N ih =>
    intro x3 σ H locs ls hf hM hl
    replace hf := Eq.trans lp_X4_from_32_s.symm hf
    refine lv_iload_n hx hb dX4_from_32 rfl (lv_at hl 3 rfl) ?_
    refine lv_sipush (v := 999) hx hb dX4_from_33 (by decide) ?_
    refine wq_icmp_gt (tgt := 57) hx hb dX4_from_36 (by decide) hf (fun hf => ?_) (fun hf => ?_)
    · refine lv_bipush (v := -9) hx hb dX4_from_57 (by decide) ?_
      exact wt_iret hx hb hr hlk hK hM hf dX4_from_59
    refine lv_aload_n hx hb dX4_from_39 rfl (lv_at hl 0 rfl) ?_
    refine lv_iload_n hx hb dX4_from_40 rfl (lv_at hl 2 rfl) ?_
    refine lv_iload_n hx hb dX4_from_41 rfl (lv_at hl 3 rfl) ?_
    refine wt_callVi (As := [.int x2, .int x3]) (rest := []) hx hb hml hts hown hK hM wt_rc_X4 cw_X4_125 hd_X4_ownerIn rfl ⟨qz_b rfl, qz_b rfl⟩ ⟨rfl, rfl⟩ hl.1 rfl (qz_b rfl) dX4_from_42 hf (fun _ _ h9 => c_X4_ownerIn h9) (fun r3 s4 H locs hf hM => ?_)
    refine lv_iload_n hx hb dX4_from_45 rfl (lv_at hl 1 rfl) ?_
    refine wq_icmp_ne (tgt := 51) hx hb dX4_from_46 (by decide) hf (fun hf => ?_) (fun hf => ?_)
    · refine lv_iinc (v := (x3 + (1 : Int32))) (lv' := [(3, .int (x3 + (1 : Int32))), (0, .ref (B + 101)), (1, .int x1), (2, .int x2)]) hx hb dX4_from_51 hl (k := 3) rfl rfl (by decide) rfl (fun ls hl => ?_)
      refine lv_goto (tgt := 32) hx hb dX4_from_54 (by decide) ?_
      exact ih _ _ _ _ _ hf hM (lv_sub hl [1, 2, 3, 0] rfl)
    refine lv_iload_n hx hb dX4_from_49 rfl (lv_at hl 3 rfl) ?_
    exact wt_iret hx hb hr hlk hK hM hf dX4_from_50
set_option maxHeartbeats 4000000 in
set_option maxRecDepth 100000 in
theorem w_X4_from_0 (C : wt_C p s m args meth c RX4 cX4_from 4 (some .int) D tI tII) {F : Nat} {x1 : Int32} {x2 : Int32} {σ : Mem} {r : Int32} {σ' : Mem} {H : Heap} {locs : List Loc} {ls : Array Slot} (hf : f_X4_from F x1 x2 σ = some (r, σ')) (hM : wt_St D tI tII B σ s H locs) (hl : lv_has ls 4 [(0, .ref (B + 101)), (1, .int x1), (2, .int x2)]) : W p l e rm_X4_from s m args below meth c H locs 0 0 (MQ below (wt_Qi D tI tII B r σ') args s 0 0 (fun q => B ≤ q)) (F0 m 0 ls []) := by
  obtain ⟨hx, hb, hts, hown, hml, hr, hlk, hK⟩ := id C
  replace hf := Eq.trans f_X4_from_e.symm hf
  refine lv_aload_n hx hb dX4_from_0 rfl (lv_at hl 0 rfl) ?_
  refine lv_iconst (v := 0) hx hb dX4_from_1 (by decide) ?_
  refine pf_X4_thrown  hx hb hts hown hK hM tw_720 dX4_from_2 hf (fun s5 H locs hf hM => ?_)
  refine lv_aload_n hx hb dX4_from_5 rfl (lv_at hl 0 rfl) ?_
  refine lv_iload_n hx hb dX4_from_6 rfl (lv_at hl 1 rfl) ?_
  refine wt_callVi (As := [.int x1]) (rest := []) hx hb hml hts hown hK hM wt_rc_X4 cw_X4_88 hd_X4_isLooker rfl ⟨qz_b rfl, qz_b rfl⟩ ⟨rfl, rfl⟩ hl.1 rfl (qz_b rfl) dX4_from_7 hf (fun _ _ h9 => c_X4_isLooker h9) (fun r6 s7 H locs hf hM => ?_)
  refine wq_if_eq (tgt := 20) hx hb dX4_from_10 (by decide) hf (fun hf => ?_) (fun hf => ?_)
  · exact w_X4_from_20 C hf hM (lv_sub hl [0] rfl)
  refine lv_iload_n hx hb dX4_from_13 rfl (lv_at hl 2 rfl) ?_
  refine wt_callSi (As := [.int x2]) (rest := []) hx hb hml hts hown hK hM cw_X4_243 hd_X4_isView rfl ⟨qz_b rfl, qz_b rfl⟩ ⟨rfl, rfl⟩ hl.1 rfl (qz_b rfl) dX4_from_14 hf (fun _ _ h9 => c_X4_isView h9) (fun r8 s9 H locs hf hM => ?_)
  refine wq_if_ne (tgt := 26) hx hb dX4_from_17 (by decide) hf (fun hf => ?_) (fun hf => ?_)
  · refine lv_aload_n hx hb dX4_from_26 rfl (lv_at hl 0 rfl) ?_
    refine wt_callVv (As := []) (rest := []) hx hb hml hts hown hK hM wt_rc_X4 cw_X4_134 hd_X4_layBrings rfl ⟨qz_b rfl, qz_b rfl⟩ ⟨rfl, rfl⟩ hl.1 rfl (qz_b rfl) dX4_from_27 hf (fun _ _ h9 => c_X4_layBrings h9) (fun r10 s11 H locs hf hM => ?_)
    refine lv_iconst (v := 0) hx hb dX4_from_30 (by decide) ?_
    refine lv_istore_n (lv' := [(3, .int (0 : Int32)), (0, .ref (B + 101)), (1, .int x1), (2, .int x2)]) hx hb dX4_from_31 rfl hl (by decide) rfl (fun ls hl => ?_)
    exact w_X4_from_32 C _ _ _ _ _ _ hf hM (lv_sub hl [1, 2, 3, 0] rfl)
  exact w_X4_from_20 C hf hM (lv_sub hl [0] rfl)
end
set_option maxHeartbeats 4000000 in
set_option maxRecDepth 100000 in
theorem c_X4_from {l : Launch} {D : va_G} {tI tII : ClassId} {B F : Nat} {x1 : Int32} {x2 : Int32} {σ σ' : Mem} {r : Int32} (hf : f_X4_from F x1 x2 σ = some (r, σ')) : wt_Mi l yX4_from cX4_from 4 (some .int) rm_X4_from [.ref (B + 101), .int x1, .int x2] D tI tII B σ r σ' := by
  refine Met.ofW (cc := cX4_from) (maxL := 4) (ret := (some .int)) (by decide) rfl ?_
  intro p e s m args below meth c s₁ B9 hml hv
  obtain ⟨rfl, hP, hK⟩ := hv
  have hl := lv_entry ([.ref (B + 101), .int x1, .int x2]) (n := 4) (qz_b rfl)
  rw [lg_entry_eq]
  generalize (lg_sl ([.ref (B + 101), .int x1, .int x2]) ++ List.replicate (4 - (lg_sl ([.ref (B + 101), .int x1, .int x2])).length) Slot.unset).toArray = ls at hl ⊢
  exact w_X4_from_0 (wt_C_of B9 hml hK) hf ⟨hP, va_S.rf⟩ hl
section
variable {p : Program} {l : Launch} {e : Env} {s : State} {m : MethodId} {args : Array Value} {below : List Frame} {meth : Method} {c : Code} {D : va_G} {tI tII : ClassId} {B : Nat}
set_option maxHeartbeats 4000000 in
set_option maxRecDepth 100000 in
theorem w_X4_lost_42 (C : wt_C p s m args meth c RX4 cX4_lost 4 (some .int) D tI tII) {F : Nat} {x1 : Int32} {x2 : Int32} {r : Int32} {σ' : Mem} : ∀ (N : Nat) (x3 : Int32) (σ : Mem) (H : Heap) (locs : List Loc) (ls : Array Slot), lp_X4_lost_42 F x1 x2 N x3 σ = some (r, σ') → wt_St D tI tII B σ s H locs → lv_has ls 4 [(0, .ref (B + 101)), (1, .int x1), (2, .int x2), (3, .int x3)] → W p l e rm_X4_lost s m args below meth c H locs 0 0 (MQ below (wt_Qi D tI tII B r σ') args s 0 0 (fun q => B ≤ q)) (F0 m 42 ls []) := by
  obtain ⟨hx, hb, hts, hown, hml, hr, hlk, hK⟩ := id C
  intro N
  induction N with
  | zero => intro x3 σ H locs ls hf; exact wt_none (show (none : Option (Int32 × Mem)) = some (r, σ') from hf)
  | succ N ih =>
    intro x3 σ H locs ls hf hM hl
    replace hf := Eq.trans lp_X4_lost_42_s.symm hf
    refine lv_iload_n hx hb dX4_lost_42 rfl (lv_at hl 3 rfl) ?_
    refine lv_sipush (v := 999) hx hb dX4_lost_43 (by decide) ?_
    refine wq_icmp_gt (tgt := 67) hx hb dX4_lost_46 (by decide) hf (fun hf => ?_) (fun hf => ?_)
    · refine lv_bipush (v := -9) hx hb dX4_lost_67 (by decide) ?_
      exact wt_iret hx hb hr hlk hK hM hf dX4_lost_69
    refine lv_aload_n hx hb dX4_lost_49 rfl (lv_at hl 0 rfl) ?_
    refine lv_iload_n hx hb dX4_lost_50 rfl (lv_at hl 1 rfl) ?_
    refine lv_iload_n hx hb dX4_lost_51 rfl (lv_at hl 3 rfl) ?_
    refine wt_callVi (As := [.int x1, .int x3]) (rest := []) hx hb hml hts hown hK hM wt_rc_X4 cw_X4_125 hd_X4_ownerIn rfl ⟨qz_b rfl, qz_b rfl⟩ ⟨rfl, rfl⟩ hl.1 rfl (qz_b rfl) dX4_lost_52 hf (fun _ _ h9 => c_X4_ownerIn h9) (fun r1 s2 H locs hf hM => ?_)
    refine lv_iload_n hx hb dX4_lost_55 rfl (lv_at hl 2 rfl) ?_
    refine wq_icmp_eq (tgt := 61) hx hb dX4_lost_56 (by decide) hf (fun hf => ?_) (fun hf => ?_)
    · refine lv_iinc (v := (x3 + (1 : Int32))) (lv' := [(3, .int (x3 + (1 : Int32))), (0, .ref (B + 101)), (1, .int x1), (2, .int x2)]) hx hb dX4_lost_61 hl (k := 3) rfl rfl (by decide) rfl (fun ls hl => ?_)
      refine lv_goto (tgt := 42) hx hb dX4_lost_64 (by decide) ?_
      exact ih _ _ _ _ _ hf hM (lv_sub hl [1, 2, 3, 0] rfl)
    refine lv_iload_n hx hb dX4_lost_59 rfl (lv_at hl 3 rfl) ?_
    exact wt_iret hx hb hr hlk hK hM hf dX4_lost_60
set_option maxHeartbeats 4000000 in
set_option maxRecDepth 100000 in
theorem w_X4_lost_0 (C : wt_C p s m args meth c RX4 cX4_lost 4 (some .int) D tI tII) {F : Nat} {x1 : Int32} {σ : Mem} {r : Int32} {σ' : Mem} {H : Heap} {locs : List Loc} {ls : Array Slot} (hf : f_X4_lost F x1 σ = some (r, σ')) (hM : wt_St D tI tII B σ s H locs) (hl : lv_has ls 4 [(0, .ref (B + 101)), (1, .int x1)]) : W p l e rm_X4_lost s m args below meth c H locs 0 0 (MQ below (wt_Qi D tI tII B r σ') args s 0 0 (fun q => B ≤ q)) (F0 m 0 ls []) := by
  obtain ⟨hx, hb, hts, hown, hml, hr, hlk, hK⟩ := id C
  replace hf := Eq.trans f_X4_lost_e.symm hf
  refine lv_aload_n hx hb dX4_lost_0 rfl (lv_at hl 0 rfl) ?_
  refine lv_iconst (v := 0) hx hb dX4_lost_1 (by decide) ?_
  refine pf_X4_thrown  hx hb hts hown hK hM tw_720 dX4_lost_2 hf (fun s3 H locs hf hM => ?_)
  refine lv_iload_n hx hb dX4_lost_5 rfl (lv_at hl 1 rfl) ?_
  refine wt_callSi (As := [.int x1]) (rest := []) hx hb hml hts hown hK hM cw_X4_243 hd_X4_isView rfl ⟨qz_b rfl, qz_b rfl⟩ ⟨rfl, rfl⟩ hl.1 rfl (qz_b rfl) dX4_lost_6 hf (fun _ _ h9 => c_X4_isView h9) (fun r4 s5 H locs hf hM => ?_)
  refine wq_if_ne (tgt := 18) hx hb dX4_lost_9 (by decide) hf (fun hf => ?_) (fun hf => ?_)
  · refine lv_aload_n hx hb dX4_lost_18 rfl (lv_at hl 0 rfl) ?_
    refine wt_callVv (As := []) (rest := []) hx hb hml hts hown hK hM wt_rc_X4 cw_X4_134 hd_X4_layBrings rfl ⟨qz_b rfl, qz_b rfl⟩ ⟨rfl, rfl⟩ hl.1 rfl (qz_b rfl) dX4_lost_19 hf (fun _ _ h9 => c_X4_layBrings h9) (fun r6 s7 H locs hf hM => ?_)
    refine lv_aload_n hx hb dX4_lost_22 rfl (lv_at hl 0 rfl) ?_
    refine lv_iload_n hx hb dX4_lost_23 rfl (lv_at hl 1 rfl) ?_
    refine lv_iconst (v := 0) hx hb dX4_lost_24 (by decide) ?_
    refine wt_callVi (As := [.int x1, .int (0 : Int32)]) (rest := []) hx hb hml hts hown hK hM wt_rc_X4 cw_X4_125 hd_X4_ownerIn rfl ⟨qz_b rfl, qz_b rfl⟩ ⟨rfl, rfl⟩ hl.1 rfl (qz_b rfl) dX4_lost_25 hf (fun _ _ h9 => c_X4_ownerIn h9) (fun r8 s9 H locs hf hM => ?_)
    refine lv_istore_n (lv' := [(2, .int r8), (0, .ref (B + 101)), (1, .int x1)]) hx hb dX4_lost_28 rfl hl (by decide) rfl (fun ls hl => ?_)
    refine lv_iload_n hx hb dX4_lost_29 rfl (lv_at hl 0 rfl) ?_
    refine wq_if_ge (tgt := 40) hx hb dX4_lost_30 (by decide) hf (fun hf => ?_) (fun hf => ?_)
    · refine lv_iconst (v := 1) hx hb dX4_lost_40 (by decide) ?_
      refine lv_istore_n (lv' := [(3, .int (1 : Int32)), (2, .int r8), (0, .ref (B + 101)), (1, .int x1)]) hx hb dX4_lost_41 rfl hl (by decide) rfl (fun ls hl => ?_)
      exact w_X4_lost_42 C _ _ _ _ _ _ hf hM (lv_sub hl [2, 3, 1, 0] rfl)
    refine lv_aload_n hx hb dX4_lost_33 rfl (lv_at hl 1 rfl) ?_
    refine lv_bipush (v := -3) hx hb dX4_lost_34 (by decide) ?_
    refine wt_callVi (As := [.int (-3 : Int32)]) (rest := []) hx hb hml hts hown hK hM wt_rc_X4 cw_X4_143 hd_X4_refuse rfl ⟨qz_b rfl, qz_b rfl⟩ ⟨rfl, rfl⟩ hl.1 rfl (qz_b rfl) dX4_lost_36 hf (fun _ _ h9 => c_X4_refuse h9) (fun r10 s11 H locs hf hM => ?_)
    exact wt_iret hx hb hr hlk hK hM hf dX4_lost_39
  refine lv_aload_n hx hb dX4_lost_12 rfl (lv_at hl 0 rfl) ?_
  refine lv_iconst (v := -1) hx hb dX4_lost_13 (by decide) ?_
  refine wt_callVi (As := [.int (-1 : Int32)]) (rest := []) hx hb hml hts hown hK hM wt_rc_X4 cw_X4_143 hd_X4_refuse rfl ⟨qz_b rfl, qz_b rfl⟩ ⟨rfl, rfl⟩ hl.1 rfl (qz_b rfl) dX4_lost_14 hf (fun _ _ h9 => c_X4_refuse h9) (fun r12 s13 H locs hf hM => ?_)
  exact wt_iret hx hb hr hlk hK hM hf dX4_lost_17
end
set_option maxHeartbeats 4000000 in
set_option maxRecDepth 100000 in
theorem c_X4_lost {l : Launch} {D : va_G} {tI tII : ClassId} {B F : Nat} {x1 : Int32} {σ σ' : Mem} {r : Int32} (hf : f_X4_lost F x1 σ = some (r, σ')) : wt_Mi l yX4_lost cX4_lost 4 (some .int) rm_X4_lost [.ref (B + 101), .int x1] D tI tII B σ r σ' := by
  refine Met.ofW (cc := cX4_lost) (maxL := 4) (ret := (some .int)) (by decide) rfl ?_
  intro p e s m args below meth c s₁ B9 hml hv
  obtain ⟨rfl, hP, hK⟩ := hv
  have hl := lv_entry ([.ref (B + 101), .int x1]) (n := 4) (qz_b rfl)
  rw [lg_entry_eq]
  generalize (lg_sl ([.ref (B + 101), .int x1]) ++ List.replicate (4 - (lg_sl ([.ref (B + 101), .int x1])).length) Slot.unset).toArray = ls at hl ⊢
  exact w_X4_lost_0 (wt_C_of B9 hml hK) hf ⟨hP, va_S.rf⟩ hl
section
variable {p : Program} {l : Launch} {e : Env} {s : State} {m : MethodId} {args : Array Value} {below : List Frame} {meth : Method} {c : Code} {D : va_G} {tI tII : ClassId} {B : Nat}
set_option maxHeartbeats 4000000 in
set_option maxRecDepth 100000 in
theorem w_X4_richestIn_37 (C : wt_C p s m args meth c RX4 cX4_richestIn 4 (some .int) D tI tII) {F : Nat} {k5 : Int32 → Int32 → Mem → Option (Int32 × Mem)} {x1 : Int32} {x3 : Int32} {t0 : Int32} {σ : Mem} {r : Int32} {σ' : Mem} {H : Heap} {locs : List Loc} {ls : Array Slot} (hk5 : ∀ (x2 : Int32) (x3 : Int32) (σ : Mem) (H : Heap) (locs : List Loc) (ls : Array Slot), k5 x2 x3 σ = some (r, σ') → wt_St D tI tII B σ s H locs → lv_has ls 4 [(0, .ref (B + 101)), (1, .int x1), (2, .int x2), (3, .int x3)] → W p l e rm_X4_richestIn s m args below meth c H locs 0 0 (MQ below (wt_Qi D tI tII B r σ') args s 0 0 (fun q => B ≤ q)) (F0 m 5 ls [])) (hf : j_X4_richestIn_37 F k5 x1 x3 t0 σ = some (r, σ')) (hM : wt_St D tI tII B σ s H locs) (hl : lv_has ls 4 [(0, .ref (B + 101)), (1, .int x1), (3, .int x3)]) : W p l e rm_X4_richestIn s m args below meth c H locs 0 0 (MQ below (wt_Qi D tI tII B r σ') args s 0 0 (fun q => B ≤ q)) (F0 m 37 ls [.int t0]) := by
  obtain ⟨hx, hb, hts, hown, hml, hr, hlk, hK⟩ := id C
  replace hf := Eq.trans j_X4_richestIn_37_e.symm hf
  refine lv_istore_n (lv' := [(2, .int t0), (0, .ref (B + 101)), (1, .int x1), (3, .int x3)]) hx hb dX4_richestIn_37 rfl hl (by decide) rfl (fun ls hl => ?_)
  refine lv_iinc (v := (x3 + (1 : Int32))) (lv' := [(3, .int (x3 + (1 : Int32))), (2, .int t0), (0, .ref (B + 101)), (1, .int x1)]) hx hb dX4_richestIn_38 hl (k := 3) rfl rfl (by decide) rfl (fun ls hl => ?_)
  refine lv_goto (tgt := 5) hx hb dX4_richestIn_41 (by decide) ?_
  exact hk5 _ _ _ _ _ _ hf hM (lv_sub hl [2, 3, 1, 0] rfl)
set_option maxHeartbeats 4000000 in
set_option maxRecDepth 100000 in
theorem w_X4_richestIn_32 (C : wt_C p s m args meth c RX4 cX4_richestIn 4 (some .int) D tI tII) {F : Nat} {k5 : Int32 → Int32 → Mem → Option (Int32 × Mem)} {x1 : Int32} {x3 : Int32} {σ : Mem} {r : Int32} {σ' : Mem} {H : Heap} {locs : List Loc} {ls : Array Slot} (hk5 : ∀ (x2 : Int32) (x3 : Int32) (σ : Mem) (H : Heap) (locs : List Loc) (ls : Array Slot), k5 x2 x3 σ = some (r, σ') → wt_St D tI tII B σ s H locs → lv_has ls 4 [(0, .ref (B + 101)), (1, .int x1), (2, .int x2), (3, .int x3)] → W p l e rm_X4_richestIn s m args below meth c H locs 0 0 (MQ below (wt_Qi D tI tII B r σ') args s 0 0 (fun q => B ≤ q)) (F0 m 5 ls [])) (hf : j_X4_richestIn_32 F k5 x1 x3 σ = some (r, σ')) (hM : wt_St D tI tII B σ s H locs) (hl : lv_has ls 4 [(0, .ref (B + 101)), (1, .int x1), (3, .int x3)]) : W p l e rm_X4_richestIn s m args below meth c H locs 0 0 (MQ below (wt_Qi D tI tII B r σ') args s 0 0 (fun q => B ≤ q)) (F0 m 32 ls []) := by
  obtain ⟨hx, hb, hts, hown, hml, hr, hlk, hK⟩ := id C
  replace hf := Eq.trans j_X4_richestIn_32_e.symm hf
  refine lv_iload_n hx hb dX4_richestIn_32 rfl (lv_at hl 2 rfl) ?_
  refine lv_goto (tgt := 37) hx hb dX4_richestIn_33 (by decide) ?_
  exact w_X4_richestIn_37 C hk5 hf hM hl
set_option maxHeartbeats 4000000 in
set_option maxRecDepth 100000 in
theorem w_X4_richestIn_5 (C : wt_C p s m args meth c RX4 cX4_richestIn 4 (some .int) D tI tII) {F : Nat} {x1 : Int32} {r : Int32} {σ' : Mem} : ∀ (N : Nat) (x2 : Int32) (x3 : Int32) (σ : Mem) (H : Heap) (locs : List Loc) (ls : Array Slot), lp_X4_richestIn_5 F x1 N x2 x3 σ = some (r, σ') → wt_St D tI tII B σ s H locs → lv_has ls 4 [(0, .ref (B + 101)), (1, .int x1), (2, .int x2), (3, .int x3)] → W p l e rm_X4_richestIn s m args below meth c H locs 0 0 (MQ below (wt_Qi D tI tII B r σ') args s 0 0 (fun q => B ≤ q)) (F0 m 5 ls []) := by
  obtain ⟨hx, hb, hts, hown, hml, hr, hlk, hK⟩ := id C
  intro N
  induction N with
  | zero => intro x2 x3 σ H locs ls hf; exact wt_none (show (none : Option (Int32 × Mem)) = some (r, σ') from hf)
  | succ N ih =>
    intro x2 x3 σ H locs ls hf hM hl
    replace hf := Eq.trans lp_X4_richestIn_5_s.symm hf
    refine lv_iload_n hx hb dX4_richestIn_5 rfl (lv_at hl 3 rfl) ?_
    refine lv_aload_n hx hb dX4_richestIn_6 rfl (lv_at hl 0 rfl) ?_
    refine gf_X4_lookers  hx hb hts hown hK hM tw_713 dX4_richestIn_7 ?_
    refine wq_icmp_ge (tgt := 44) hx hb dX4_richestIn_10 (by decide) hf (fun hf => ?_) (fun hf => ?_)
    · refine lv_iload_n hx hb dX4_richestIn_44 rfl (lv_at hl 2 rfl) ?_
      exact wt_iret hx hb hr hlk hK hM hf dX4_richestIn_45
    refine lv_iload_n hx hb dX4_richestIn_13 rfl (lv_at hl 2 rfl) ?_
    refine wq_if_lt (tgt := 32) hx hb dX4_richestIn_14 (by decide) hf (fun hf => ?_) (fun hf => ?_)
    · exact w_X4_richestIn_32 C ih hf hM (lv_sub hl [0, 1, 3] rfl)
    refine lv_aload_n hx hb dX4_richestIn_17 rfl (lv_at hl 0 rfl) ?_
    refine lv_iload_n hx hb dX4_richestIn_18 rfl (lv_at hl 3 rfl) ?_
    refine lv_iload_n hx hb dX4_richestIn_19 rfl (lv_at hl 1 rfl) ?_
    refine wt_callVi (As := [.int x3, .int x1]) (rest := []) hx hb hml hts hown hK hM wt_rc_X4 cw_X4_137 hd_X4_worthIn rfl ⟨qz_b rfl, qz_b rfl⟩ ⟨rfl, rfl⟩ hl.1 rfl (qz_b rfl) dX4_richestIn_20 hf (fun _ _ h9 => c_X4_worthIn h9) (fun r1 s2 H locs hf hM => ?_)
    refine lv_aload_n hx hb dX4_richestIn_23 rfl (lv_at hl 0 rfl) ?_
    refine lv_iload_n hx hb dX4_richestIn_24 rfl (lv_at hl 2 rfl) ?_
    refine lv_iload_n hx hb dX4_richestIn_25 rfl (lv_at hl 1 rfl) ?_
    refine wt_callVi (As := [.int x2, .int x1]) (rest := [.int r1]) hx hb hml hts hown hK hM wt_rc_X4 cw_X4_137 hd_X4_worthIn rfl ⟨qz_b rfl, qz_b rfl⟩ ⟨rfl, rfl⟩ hl.1 rfl (qz_b rfl) dX4_richestIn_26 hf (fun _ _ h9 => c_X4_worthIn h9) (fun r3 s4 H locs hf hM => ?_)
    refine wq_icmp_le (tgt := 36) hx hb dX4_richestIn_29 (by decide) hf (fun hf => ?_) (fun hf => ?_)
    · refine lv_iload_n hx hb dX4_richestIn_36 rfl (lv_at hl 2 rfl) ?_
      exact w_X4_richestIn_37 C ih hf hM (lv_sub hl [0, 1, 3] rfl)
    exact w_X4_richestIn_32 C ih hf hM (lv_sub hl [0, 1, 3] rfl)
set_option maxHeartbeats 4000000 in
set_option maxRecDepth 100000 in
theorem w_X4_richestIn_0 (C : wt_C p s m args meth c RX4 cX4_richestIn 4 (some .int) D tI tII) {F : Nat} {x1 : Int32} {σ : Mem} {r : Int32} {σ' : Mem} {H : Heap} {locs : List Loc} {ls : Array Slot} (hf : f_X4_richestIn F x1 σ = some (r, σ')) (hM : wt_St D tI tII B σ s H locs) (hl : lv_has ls 4 [(0, .ref (B + 101)), (1, .int x1)]) : W p l e rm_X4_richestIn s m args below meth c H locs 0 0 (MQ below (wt_Qi D tI tII B r σ') args s 0 0 (fun q => B ≤ q)) (F0 m 0 ls []) := by
  obtain ⟨hx, hb, hts, hown, hml, hr, hlk, hK⟩ := id C
  replace hf := Eq.trans f_X4_richestIn_e.symm hf
  refine lv_bipush (v := -9) hx hb dX4_richestIn_0 (by decide) ?_
  refine lv_istore_n (lv' := [(2, .int (-9 : Int32)), (0, .ref (B + 101)), (1, .int x1)]) hx hb dX4_richestIn_2 rfl hl (by decide) rfl (fun ls hl => ?_)
  refine lv_iconst (v := 0) hx hb dX4_richestIn_3 (by decide) ?_
  refine lv_istore_n (lv' := [(3, .int (0 : Int32)), (2, .int (-9 : Int32)), (0, .ref (B + 101)), (1, .int x1)]) hx hb dX4_richestIn_4 rfl hl (by decide) rfl (fun ls hl => ?_)
  exact w_X4_richestIn_5 C _ _ _ _ _ _ _ hf hM (lv_sub hl [2, 3, 1, 0] rfl)
end
set_option maxHeartbeats 4000000 in
set_option maxRecDepth 100000 in
theorem c_X4_richestIn {l : Launch} {D : va_G} {tI tII : ClassId} {B F : Nat} {x1 : Int32} {σ σ' : Mem} {r : Int32} (hf : f_X4_richestIn F x1 σ = some (r, σ')) : wt_Mi l yX4_richestIn cX4_richestIn 4 (some .int) rm_X4_richestIn [.ref (B + 101), .int x1] D tI tII B σ r σ' := by
  refine Met.ofW (cc := cX4_richestIn) (maxL := 4) (ret := (some .int)) (by decide) rfl ?_
  intro p e s m args below meth c s₁ B9 hml hv
  obtain ⟨rfl, hP, hK⟩ := hv
  have hl := lv_entry ([.ref (B + 101), .int x1]) (n := 4) (qz_b rfl)
  rw [lg_entry_eq]
  generalize (lg_sl ([.ref (B + 101), .int x1]) ++ List.replicate (4 - (lg_sl ([.ref (B + 101), .int x1])).length) Slot.unset).toArray = ls at hl ⊢
  exact w_X4_richestIn_0 (wt_C_of B9 hml hK) hf ⟨hP, va_S.rf⟩ hl
section
variable {p : Program} {l : Launch} {e : Env} {s : State} {m : MethodId} {args : Array Value} {below : List Frame} {meth : Method} {c : Code} {D : va_G} {tI tII : ClassId} {B : Nat}
set_option maxHeartbeats 4000000 in
set_option maxRecDepth 100000 in
theorem w_X4_richest_49 (C : wt_C p s m args meth c RX4 cX4_richest 5 (some .int) D tI tII) {F : Nat} {x4 : Int32} {σ : Mem} {r : Int32} {σ' : Mem} {H : Heap} {locs : List Loc} {ls : Array Slot} (hf : j_X4_richest_49 F x4 σ = some (r, σ')) (hM : wt_St D tI tII B σ s H locs) (hl : lv_has ls 5 [(4, .int x4)]) : W p l e rm_X4_richest s m args below meth c H locs 0 0 (MQ below (wt_Qi D tI tII B r σ') args s 0 0 (fun q => B ≤ q)) (F0 m 49 ls []) := by
  obtain ⟨hx, hb, hts, hown, hml, hr, hlk, hK⟩ := id C
  replace hf := Eq.trans j_X4_richest_49_e.symm hf
  refine lv_iload hx hb dX4_richest_49 (lv_at hl 0 rfl) ?_
  refine lv_goto (tgt := 61) hx hb dX4_richest_51 (by decide) ?_
  exact wt_iret hx hb hr hlk hK hM hf dX4_richest_61
set_option maxHeartbeats 4000000 in
set_option maxRecDepth 100000 in
theorem w_X4_richest_0 (C : wt_C p s m args meth c RX4 cX4_richest 5 (some .int) D tI tII) {F : Nat} {x1 : Int32} {x2 : Int32} {σ : Mem} {r : Int32} {σ' : Mem} {H : Heap} {locs : List Loc} {ls : Array Slot} (hf : f_X4_richest F x1 x2 σ = some (r, σ')) (hM : wt_St D tI tII B σ s H locs) (hl : lv_has ls 5 [(0, .ref (B + 101)), (1, .int x1), (2, .int x2)]) : W p l e rm_X4_richest s m args below meth c H locs 0 0 (MQ below (wt_Qi D tI tII B r σ') args s 0 0 (fun q => B ≤ q)) (F0 m 0 ls []) := by
  obtain ⟨hx, hb, hts, hown, hml, hr, hlk, hK⟩ := id C
  replace hf := Eq.trans f_X4_richest_e.symm hf
  refine lv_aload_n hx hb dX4_richest_0 rfl (lv_at hl 0 rfl) ?_
  refine lv_iconst (v := 0) hx hb dX4_richest_1 (by decide) ?_
  refine pf_X4_thrown  hx hb hts hown hK hM tw_720 dX4_richest_2 hf (fun s1 H locs hf hM => ?_)
  refine lv_iload_n hx hb dX4_richest_5 rfl (lv_at hl 1 rfl) ?_
  refine lv_iconst (v := 0) hx hb dX4_richest_6 (by decide) ?_
  refine lv_sipush (v := 999) hx hb dX4_richest_7 (by decide) ?_
  refine wt_callSi (As := [.int x1, .int (0 : Int32), .int (999 : Int32)]) (rest := []) hx hb hml hts hown hK hM cw_X4_231 hd_X4_wrongNumber rfl ⟨qz_b rfl, qz_b rfl⟩ ⟨rfl, rfl⟩ hl.1 rfl (qz_b rfl) dX4_richest_10 hf (fun _ _ h9 => c_X4_wrongNumber h9) (fun r2 s3 H locs hf hM => ?_)
  refine lv_iload_n hx hb dX4_richest_13 rfl (lv_at hl 2 rfl) ?_
  refine lv_iconst (v := 1) hx hb dX4_richest_14 (by decide) ?_
  refine wt_callSi (As := [.int r2, .int x2, .int (1 : Int32)]) (rest := []) hx hb hml hts hown hK hM cw_X4_251 hd_X4_wrongBit rfl ⟨qz_b rfl, qz_b rfl⟩ ⟨rfl, rfl⟩ hl.1 rfl (qz_b rfl) dX4_richest_15 hf (fun _ _ h9 => c_X4_wrongBit h9) (fun r4 s5 H locs hf hM => ?_)
  refine lv_istore_n (lv' := [(3, .int r4), (0, .ref (B + 101)), (1, .int x1), (2, .int x2)]) hx hb dX4_richest_18 rfl hl (by decide) rfl (fun ls hl => ?_)
  refine lv_iload_n hx hb dX4_richest_19 rfl (lv_at hl 0 rfl) ?_
  refine wq_if_ge (tgt := 29) hx hb dX4_richest_20 (by decide) hf (fun hf => ?_) (fun hf => ?_)
  · refine lv_aload_n hx hb dX4_richest_29 rfl (lv_at hl 1 rfl) ?_
    refine wt_callVv (As := []) (rest := []) hx hb hml hts hown hK hM wt_rc_X4 cw_X4_134 hd_X4_layBrings rfl ⟨qz_b rfl, qz_b rfl⟩ ⟨rfl, rfl⟩ hl.1 rfl (qz_b rfl) dX4_richest_30 hf (fun _ _ h9 => c_X4_layBrings h9) (fun r6 s7 H locs hf hM => ?_)
    refine lv_aload_n hx hb dX4_richest_33 rfl (lv_at hl 1 rfl) ?_
    refine lv_iload_n hx hb dX4_richest_34 rfl (lv_at hl 2 rfl) ?_
    refine wt_callVi (As := [.int x1]) (rest := []) hx hb hml hts hown hK hM wt_rc_X4 cw_X4_254 hd_X4_richestIn rfl ⟨qz_b rfl, qz_b rfl⟩ ⟨rfl, rfl⟩ hl.1 rfl (qz_b rfl) dX4_richest_35 hf (fun _ _ h9 => c_X4_richestIn h9) (fun r8 s9 H locs hf hM => ?_)
    refine lv_istore (lv' := [(4, .int r8), (3, .int r4), (0, .ref (B + 101)), (1, .int x1), (2, .int x2)]) hx hb dX4_richest_38 hl (by decide) rfl (fun ls hl => ?_)
    refine lv_iload_n hx hb dX4_richest_40 rfl (lv_at hl 4 rfl) ?_
    refine wq_if_eq (tgt := 49) hx hb dX4_richest_41 (by decide) hf (fun hf => ?_) (fun hf => ?_)
    · exact w_X4_richest_49 C hf hM (lv_sub hl [0] rfl)
    refine lv_iload hx hb dX4_richest_44 (lv_at hl 0 rfl) ?_
    refine wq_if_ge (tgt := 54) hx hb dX4_richest_46 (by decide) hf (fun hf => ?_) (fun hf => ?_)
    · refine lv_aload_n hx hb dX4_richest_54 rfl (lv_at hl 2 rfl) ?_
      refine lv_iload hx hb dX4_richest_55 (lv_at hl 0 rfl) ?_
      refine lv_iload_n hx hb dX4_richest_57 rfl (lv_at hl 3 rfl) ?_
      refine wt_callVi (As := [.int r8, .int x1]) (rest := []) hx hb hml hts hown hK hM wt_rc_X4 cw_X4_137 hd_X4_worthIn rfl ⟨qz_b rfl, qz_b rfl⟩ ⟨rfl, rfl⟩ hl.1 rfl (qz_b rfl) dX4_richest_58 hf (fun _ _ h9 => c_X4_worthIn h9) (fun r10 s11 H locs hf hM => ?_)
      exact wt_iret hx hb hr hlk hK hM hf dX4_richest_61
    exact w_X4_richest_49 C hf hM (lv_sub hl [0] rfl)
  refine lv_aload_n hx hb dX4_richest_23 rfl (lv_at hl 1 rfl) ?_
  refine lv_iload_n hx hb dX4_richest_24 rfl (lv_at hl 0 rfl) ?_
  refine wt_callVi (As := [.int r4]) (rest := []) hx hb hml hts hown hK hM wt_rc_X4 cw_X4_143 hd_X4_refuse rfl ⟨qz_b rfl, qz_b rfl⟩ ⟨rfl, rfl⟩ hl.1 rfl (qz_b rfl) dX4_richest_25 hf (fun _ _ h9 => c_X4_refuse h9) (fun r12 s13 H locs hf hM => ?_)
  exact wt_iret hx hb hr hlk hK hM hf dX4_richest_28
end
set_option maxHeartbeats 4000000 in
set_option maxRecDepth 100000 in
theorem c_X4_richest {l : Launch} {D : va_G} {tI tII : ClassId} {B F : Nat} {x1 : Int32} {x2 : Int32} {σ σ' : Mem} {r : Int32} (hf : f_X4_richest F x1 x2 σ = some (r, σ')) : wt_Mi l yX4_richest cX4_richest 5 (some .int) rm_X4_richest [.ref (B + 101), .int x1, .int x2] D tI tII B σ r σ' := by
  refine Met.ofW (cc := cX4_richest) (maxL := 5) (ret := (some .int)) (by decide) rfl ?_
  intro p e s m args below meth c s₁ B9 hml hv
  obtain ⟨rfl, hP, hK⟩ := hv
  have hl := lv_entry ([.ref (B + 101), .int x1, .int x2]) (n := 5) (qz_b rfl)
  rw [lg_entry_eq]
  generalize (lg_sl ([.ref (B + 101), .int x1, .int x2]) ++ List.replicate (5 - (lg_sl ([.ref (B + 101), .int x1, .int x2])).length) Slot.unset).toArray = ls at hl ⊢
  exact w_X4_richest_0 (wt_C_of B9 hml hK) hf ⟨hP, va_S.rf⟩ hl
section
variable {p : Program} {l : Launch} {e : Env} {s : State} {m : MethodId} {args : Array Value} {below : List Frame} {meth : Method} {c : Code} {D : va_G} {tI tII : ClassId} {B : Nat}
set_option maxHeartbeats 4000000 in
set_option maxRecDepth 100000 in
theorem w_X4_staredOut_26 (C : wt_C p s m args meth c RX4 cX4_staredOut 5 (some .int) D tI tII) {F : Nat} {x1 : Int32} {x2 : Int32} {x3 : Int32} {t0 : Int32} {σ : Mem} {r : Int32} {σ' : Mem} {H : Heap} {locs : List Loc} {ls : Array Slot} (hf : j_X4_staredOut_26 F x1 x2 x3 t0 σ = some (r, σ')) (hM : wt_St D tI tII B σ s H locs) (hl : lv_has ls 5 [(0, .ref (B + 101)), (1, .int x1), (2, .int x2), (3, .int x3)]) : W p l e rm_X4_staredOut s m args below meth c H locs 0 0 (MQ below (wt_Qi D tI tII B r σ') args s 0 0 (fun q => B ≤ q)) (F0 m 26 ls [.int t0]) := by
  obtain ⟨hx, hb, hts, hown, hml, hr, hlk, hK⟩ := id C
  replace hf := Eq.trans j_X4_staredOut_26_e.symm hf
  refine lv_istore (lv' := [(4, .int t0), (0, .ref (B + 101)), (1, .int x1), (2, .int x2), (3, .int x3)]) hx hb dX4_staredOut_26 hl (by decide) rfl (fun ls hl => ?_)
  refine lv_iload hx hb dX4_staredOut_28 (lv_at hl 0 rfl) ?_
  refine wq_if_ge (tgt := 40) hx hb dX4_staredOut_30 (by decide) hf (fun hf => ?_) (fun hf => ?_)
  · refine lv_aload_n hx hb dX4_staredOut_40 rfl (lv_at hl 1 rfl) ?_
    refine wt_callVv (As := []) (rest := []) hx hb hml hts hown hK hM wt_rc_X4 cw_X4_134 hd_X4_layBrings rfl ⟨qz_b rfl, qz_b rfl⟩ ⟨rfl, rfl⟩ hl.1 rfl (qz_b rfl) dX4_staredOut_41 hf (fun _ _ h9 => c_X4_layBrings h9) (fun r1 s2 H locs hf hM => ?_)
    refine lv_aload_n hx hb dX4_staredOut_44 rfl (lv_at hl 1 rfl) ?_
    refine lv_iload_n hx hb dX4_staredOut_45 rfl (lv_at hl 2 rfl) ?_
    refine lv_iconst (v := 0) hx hb dX4_staredOut_46 (by decide) ?_
    refine wt_callVi (As := [.int x1, .int (0 : Int32)]) (rest := []) hx hb hml hts hown hK hM wt_rc_X4 cw_X4_128 hd_X4_viewsIn rfl ⟨qz_b rfl, qz_b rfl⟩ ⟨rfl, rfl⟩ hl.1 rfl (qz_b rfl) dX4_staredOut_47 hf (fun _ _ h9 => c_X4_viewsIn h9) (fun r3 s4 H locs hf hM => ?_)
    refine lv_aload_n hx hb dX4_staredOut_50 rfl (lv_at hl 1 rfl) ?_
    refine lv_iload_n hx hb dX4_staredOut_51 rfl (lv_at hl 3 rfl) ?_
    refine lv_iload_n hx hb dX4_staredOut_52 rfl (lv_at hl 4 rfl) ?_
    refine wt_callVi (As := [.int x2, .int x3]) (rest := [.int r3]) hx hb hml hts hown hK hM wt_rc_X4 cw_X4_128 hd_X4_viewsIn rfl ⟨qz_b rfl, qz_b rfl⟩ ⟨rfl, rfl⟩ hl.1 rfl (qz_b rfl) dX4_staredOut_53 hf (fun _ _ h9 => c_X4_viewsIn h9) (fun r5 s6 H locs hf hM => ?_)
    refine lv_iand hx hb dX4_staredOut_56 ?_
    exact wt_iret hx hb hr hlk hK hM hf dX4_staredOut_57
  refine lv_aload_n hx hb dX4_staredOut_33 rfl (lv_at hl 1 rfl) ?_
  refine lv_iload hx hb dX4_staredOut_34 (lv_at hl 0 rfl) ?_
  refine wt_callVi (As := [.int t0]) (rest := []) hx hb hml hts hown hK hM wt_rc_X4 cw_X4_143 hd_X4_refuse rfl ⟨qz_b rfl, qz_b rfl⟩ ⟨rfl, rfl⟩ hl.1 rfl (qz_b rfl) dX4_staredOut_36 hf (fun _ _ h9 => c_X4_refuse h9) (fun r7 s8 H locs hf hM => ?_)
  exact wt_iret hx hb hr hlk hK hM hf dX4_staredOut_39
set_option maxHeartbeats 4000000 in
set_option maxRecDepth 100000 in
theorem w_X4_staredOut_0 (C : wt_C p s m args meth c RX4 cX4_staredOut 5 (some .int) D tI tII) {F : Nat} {x1 : Int32} {x2 : Int32} {x3 : Int32} {σ : Mem} {r : Int32} {σ' : Mem} {H : Heap} {locs : List Loc} {ls : Array Slot} (hf : f_X4_staredOut F x1 x2 x3 σ = some (r, σ')) (hM : wt_St D tI tII B σ s H locs) (hl : lv_has ls 5 [(0, .ref (B + 101)), (1, .int x1), (2, .int x2), (3, .int x3)]) : W p l e rm_X4_staredOut s m args below meth c H locs 0 0 (MQ below (wt_Qi D tI tII B r σ') args s 0 0 (fun q => B ≤ q)) (F0 m 0 ls []) := by
  obtain ⟨hx, hb, hts, hown, hml, hr, hlk, hK⟩ := id C
  replace hf := Eq.trans f_X4_staredOut_e.symm hf
  refine lv_aload_n hx hb dX4_staredOut_0 rfl (lv_at hl 0 rfl) ?_
  refine lv_iconst (v := 0) hx hb dX4_staredOut_1 (by decide) ?_
  refine pf_X4_thrown  hx hb hts hown hK hM tw_720 dX4_staredOut_2 hf (fun s9 H locs hf hM => ?_)
  refine lv_aload_n hx hb dX4_staredOut_5 rfl (lv_at hl 0 rfl) ?_
  refine lv_iload_n hx hb dX4_staredOut_6 rfl (lv_at hl 1 rfl) ?_
  refine lv_iload_n hx hb dX4_staredOut_7 rfl (lv_at hl 2 rfl) ?_
  refine wt_callVi (As := [.int x1, .int x2]) (rest := []) hx hb hml hts hown hK hM wt_rc_X4 cw_X4_257 hd_X4_areTwo rfl ⟨qz_b rfl, qz_b rfl⟩ ⟨rfl, rfl⟩ hl.1 rfl (qz_b rfl) dX4_staredOut_8 hf (fun _ _ h9 => c_X4_areTwo h9) (fun r10 s11 H locs hf hM => ?_)
  refine wq_if_eq (tgt := 25) hx hb dX4_staredOut_11 (by decide) hf (fun hf => ?_) (fun hf => ?_)
  · refine lv_iconst (v := -1) hx hb dX4_staredOut_25 (by decide) ?_
    exact w_X4_staredOut_26 C hf hM hl
  refine lv_iload_n hx hb dX4_staredOut_14 rfl (lv_at hl 3 rfl) ?_
  refine lv_iconst (v := 0) hx hb dX4_staredOut_15 (by decide) ?_
  refine lv_sipush (v := 999) hx hb dX4_staredOut_16 (by decide) ?_
  refine wt_callSi (As := [.int x3, .int (0 : Int32), .int (999 : Int32)]) (rest := []) hx hb hml hts hown hK hM cw_X4_231 hd_X4_wrongNumber rfl ⟨qz_b rfl, qz_b rfl⟩ ⟨rfl, rfl⟩ hl.1 rfl (qz_b rfl) dX4_staredOut_19 hf (fun _ _ h9 => c_X4_wrongNumber h9) (fun r12 s13 H locs hf hM => ?_)
  refine lv_goto (tgt := 26) hx hb dX4_staredOut_22 (by decide) ?_
  exact w_X4_staredOut_26 C hf hM hl
end
set_option maxHeartbeats 4000000 in
set_option maxRecDepth 100000 in
theorem c_X4_staredOut {l : Launch} {D : va_G} {tI tII : ClassId} {B F : Nat} {x1 : Int32} {x2 : Int32} {x3 : Int32} {σ σ' : Mem} {r : Int32} (hf : f_X4_staredOut F x1 x2 x3 σ = some (r, σ')) : wt_Mi l yX4_staredOut cX4_staredOut 5 (some .int) rm_X4_staredOut [.ref (B + 101), .int x1, .int x2, .int x3] D tI tII B σ r σ' := by
  refine Met.ofW (cc := cX4_staredOut) (maxL := 5) (ret := (some .int)) (by decide) rfl ?_
  intro p e s m args below meth c s₁ B9 hml hv
  obtain ⟨rfl, hP, hK⟩ := hv
  have hl := lv_entry ([.ref (B + 101), .int x1, .int x2, .int x3]) (n := 5) (qz_b rfl)
  rw [lg_entry_eq]
  generalize (lg_sl ([.ref (B + 101), .int x1, .int x2, .int x3]) ++ List.replicate (5 - (lg_sl ([.ref (B + 101), .int x1, .int x2, .int x3])).length) Slot.unset).toArray = ls at hl ⊢
  exact w_X4_staredOut_0 (wt_C_of B9 hml hK) hf ⟨hP, va_S.rf⟩ hl
section
variable {p : Program} {l : Launch} {e : Env} {s : State} {m : MethodId} {args : Array Value} {below : List Frame} {meth : Method} {c : Code} {D : va_G} {tI tII : ClassId} {B : Nat}
set_option maxHeartbeats 4000000 in
set_option maxRecDepth 100000 in
theorem w_X4_moreHours_83 (C : wt_C p s m args meth c RX4 cX4_moreHours 8 (some .int) D tI tII) {F : Nat} {σ : Mem} {r : Int32} {σ' : Mem} {H : Heap} {locs : List Loc} {ls : Array Slot} (hf : j_X4_moreHours_83 F σ = some (r, σ')) (hM : wt_St D tI tII B σ s H locs) (hl : lv_has ls 8 []) : W p l e rm_X4_moreHours s m args below meth c H locs 0 0 (MQ below (wt_Qi D tI tII B r σ') args s 0 0 (fun q => B ≤ q)) (F0 m 83 ls []) := by
  obtain ⟨hx, hb, hts, hown, hml, hr, hlk, hK⟩ := id C
  replace hf := Eq.trans j_X4_moreHours_83_e.symm hf
  refine lv_bipush (v := -9) hx hb dX4_moreHours_83 (by decide) ?_
  exact wt_iret hx hb hr hlk hK hM hf dX4_moreHours_85
set_option maxHeartbeats 4000000 in
set_option maxRecDepth 100000 in
theorem w_X4_moreHours_167 (C : wt_C p s m args meth c RX4 cX4_moreHours 8 (some .int) D tI tII) {F : Nat} {k93 : Int32 → Int32 → Mem → Option (Int32 × Mem)} {k101 : Int32 → Int32 → Mem → Option (Int32 × Mem)} {x1 : Int32} {x2 : Int32} {x3 : Int32} {x5 : Int32} {x6 : Int32} {x7 : Int32} {σ : Mem} {r : Int32} {σ' : Mem} {H : Heap} {locs : List Loc} {ls : Array Slot} (hk93 : ∀ (x5 : Int32) (x6 : Int32) (σ : Mem) (H : Heap) (locs : List Loc) (ls : Array Slot), k93 x5 x6 σ = some (r, σ') → wt_St D tI tII B σ s H locs → lv_has ls 8 [(0, .ref (B + 101)), (1, .int x1), (2, .int x2), (3, .int x3), (5, .int x5), (6, .int x6)] → W p l e rm_X4_moreHours s m args below meth c H locs 0 0 (MQ below (wt_Qi D tI tII B r σ') args s 0 0 (fun q => B ≤ q)) (F0 m 93 ls [])) (hk101 : ∀ (x5 : Int32) (x7 : Int32) (σ : Mem) (H : Heap) (locs : List Loc) (ls : Array Slot), k101 x5 x7 σ = some (r, σ') → wt_St D tI tII B σ s H locs → lv_has ls 8 [(0, .ref (B + 101)), (1, .int x1), (2, .int x2), (3, .int x3), (5, .int x5), (6, .int x6), (7, .int x7)] → W p l e rm_X4_moreHours s m args below meth c H locs 0 0 (MQ below (wt_Qi D tI tII B r σ') args s 0 0 (fun q => B ≤ q)) (F0 m 101 ls [])) (hf : j_X4_moreHours_167 F k93 k101 x1 x2 x3 x5 x6 x7 σ = some (r, σ')) (hM : wt_St D tI tII B σ s H locs) (hl : lv_has ls 8 [(0, .ref (B + 101)), (1, .int x1), (2, .int x2), (3, .int x3), (5, .int x5), (6, .int x6), (7, .int x7)]) : W p l e rm_X4_moreHours s m args below meth c H locs 0 0 (MQ below (wt_Qi D tI tII B r σ') args s 0 0 (fun q => B ≤ q)) (F0 m 167 ls []) := by
  obtain ⟨hx, hb, hts, hown, hml, hr, hlk, hK⟩ := id C
  replace hf := Eq.trans j_X4_moreHours_167_e.symm hf
  refine lv_iinc (v := (x7 + (1 : Int32))) (lv' := [(7, .int (x7 + (1 : Int32))), (0, .ref (B + 101)), (1, .int x1), (2, .int x2), (3, .int x3), (5, .int x5), (6, .int x6)]) hx hb dX4_moreHours_167 hl (k := 6) rfl rfl (by decide) rfl (fun ls hl => ?_)
  refine lv_goto (tgt := 101) hx hb dX4_moreHours_170 (by decide) ?_
  exact hk101 _ _ _ _ _ _ hf hM (lv_sub hl [1, 2, 3, 4, 5, 6, 0] rfl)
set_option maxHeartbeats 4000000 in
set_option maxRecDepth 100000 in
theorem w_X4_moreHours_101 (C : wt_C p s m args meth c RX4 cX4_moreHours 8 (some .int) D tI tII) {F : Nat} {k93 : Int32 → Int32 → Mem → Option (Int32 × Mem)} {x1 : Int32} {x2 : Int32} {x3 : Int32} {x6 : Int32} {r : Int32} {σ' : Mem} (hk93 : ∀ (x5 : Int32) (x6 : Int32) (σ : Mem) (H : Heap) (locs : List Loc) (ls : Array Slot), k93 x5 x6 σ = some (r, σ') → wt_St D tI tII B σ s H locs → lv_has ls 8 [(0, .ref (B + 101)), (1, .int x1), (2, .int x2), (3, .int x3), (5, .int x5), (6, .int x6)] → W p l e rm_X4_moreHours s m args below meth c H locs 0 0 (MQ below (wt_Qi D tI tII B r σ') args s 0 0 (fun q => B ≤ q)) (F0 m 93 ls [])) : ∀ (N : Nat) (x5 : Int32) (x7 : Int32) (σ : Mem) (H : Heap) (locs : List Loc) (ls : Array Slot), lp_X4_moreHours_101 F k93 x1 x2 x3 x6 N x5 x7 σ = some (r, σ') → wt_St D tI tII B σ s H locs → lv_has ls 8 [(0, .ref (B + 101)), (1, .int x1), (2, .int x2), (3, .int x3), (5, .int x5), (6, .int x6), (7, .int x7)] → W p l e rm_X4_moreHours s m args below meth c H locs 0 0 (MQ below (wt_Qi D tI tII B r σ') args s 0 0 (fun q => B ≤ q)) (F0 m 101 ls []) := by
  obtain ⟨hx, hb, hts, hown, hml, hr, hlk, hK⟩ := id C
  intro N
  induction N with
  | zero => intro x5 x7 σ H locs ls hf; exact wt_none (show (none : Option (Int32 × Mem)) = some (r, σ') from hf)
  | succ N ih =>
    intro x5 x7 σ H locs ls hf hM hl
    replace hf := Eq.trans lp_X4_moreHours_101_s.symm hf
    refine lv_iload hx hb dX4_moreHours_101 (lv_at hl 6 rfl) ?_
    refine lv_bipush (v := 24) hx hb dX4_moreHours_103 (by decide) ?_
    refine wq_icmp_ge (tgt := 173) hx hb dX4_moreHours_105 (by decide) hf (fun hf => ?_) (fun hf => ?_)
    · refine lv_iinc (v := (x6 + (-1 : Int32))) (lv' := [(6, .int (x6 + (-1 : Int32))), (0, .ref (B + 101)), (1, .int x1), (2, .int x2), (3, .int x3), (5, .int x5), (7, .int x7)]) hx hb dX4_moreHours_173 hl (k := 5) rfl rfl (by decide) rfl (fun ls hl => ?_)
      refine lv_goto (tgt := 93) hx hb dX4_moreHours_176 (by decide) ?_
      exact hk93 _ _ _ _ _ _ hf hM (lv_sub hl [1, 2, 3, 4, 5, 0] rfl)
    refine lv_aload_n hx hb dX4_moreHours_108 rfl (lv_at hl 0 rfl) ?_
    refine gf_X4_rosters  hx hb hts hown hK hM tw_716 dX4_moreHours_109 ?_
    refine lv_bipush (v := 24) hx hb dX4_moreHours_112 (by decide) ?_
    refine lv_iload_n hx hb dX4_moreHours_114 rfl (lv_at hl 1 rfl) ?_
    refine lv_imul hx hb dX4_moreHours_115 ?_
    refine lv_iload hx hb dX4_moreHours_116 (lv_at hl 6 rfl) ?_
    refine lv_iadd hx hb dX4_moreHours_118 ?_
    obtain ⟨i1, hf⟩ := wt_chk_of hf
    refine wt_ild hx hb hK hM wt_a106 i1 dX4_moreHours_119 ?_
    refine wq_if_ge (tgt := 167) hx hb dX4_moreHours_120 (by decide) hf (fun hf => ?_) (fun hf => ?_)
    · exact w_X4_moreHours_167 C hk93 ih hf hM hl
    refine lv_aload_n hx hb dX4_moreHours_123 rfl (lv_at hl 0 rfl) ?_
    refine lv_iload_n hx hb dX4_moreHours_124 rfl (lv_at hl 1 rfl) ?_
    refine lv_iload hx hb dX4_moreHours_125 (lv_at hl 6 rfl) ?_
    refine wt_callVi (As := [.int x1, .int x7]) (rest := []) hx hb hml hts hown hK hM wt_rc_X4 cw_X4_108 hd_X4_pullOf rfl ⟨qz_b rfl, qz_b rfl⟩ ⟨rfl, rfl⟩ hl.1 rfl (qz_b rfl) dX4_moreHours_127 hf (fun _ _ h9 => c_X4_pullOf h9) (fun r2 s3 H locs hf hM => ?_)
    refine lv_iload hx hb dX4_moreHours_130 (lv_at hl 5 rfl) ?_
    refine wq_icmp_ne (tgt := 167) hx hb dX4_moreHours_132 (by decide) hf (fun hf => ?_) (fun hf => ?_)
    · exact w_X4_moreHours_167 C hk93 ih hf hM hl
    refine lv_iinc (v := (x5 + (1 : Int32))) (lv' := [(5, .int (x5 + (1 : Int32))), (0, .ref (B + 101)), (1, .int x1), (2, .int x2), (3, .int x3), (6, .int x6), (7, .int x7)]) hx hb dX4_moreHours_135 hl (k := 4) rfl rfl (by decide) rfl (fun ls hl => ?_)
    refine lv_aload_n hx hb dX4_moreHours_138 rfl (lv_at hl 1 rfl) ?_
    refine gf_X4_brings  hx hb hts hown hK hM tw_722 dX4_moreHours_139 ?_
    refine lv_bipush (v := 8) hx hb dX4_moreHours_142 (by decide) ?_
    refine lv_iload_n hx hb dX4_moreHours_144 rfl (lv_at hl 2 rfl) ?_
    refine lv_imul hx hb dX4_moreHours_145 ?_
    refine lv_iload_n hx hb dX4_moreHours_146 rfl (lv_at hl 3 rfl) ?_
    refine lv_iadd hx hb dX4_moreHours_147 ?_
    refine lv_dup2_11 hx hb dX4_moreHours_148 rfl rfl ?_
    obtain ⟨i4, hf⟩ := wt_chk_of hf
    refine wt_ild hx hb hK hM wt_a109 i4 dX4_moreHours_149 ?_
    refine lv_iload hx hb dX4_moreHours_150 (lv_at hl 5 rfl) ?_
    refine lv_iadd hx hb dX4_moreHours_152 ?_
    refine wt_ist hx hb hK hM wt_a109 i4 dX4_moreHours_153 hf (fun s5 H locs hf hM => ?_)
    refine lv_aload_n hx hb dX4_moreHours_154 rfl (lv_at hl 1 rfl) ?_
    refine lv_iload_n hx hb dX4_moreHours_155 rfl (lv_at hl 3 rfl) ?_
    refine lv_iload_n hx hb dX4_moreHours_156 rfl (lv_at hl 4 rfl) ?_
    refine wt_callVi (As := [.int x2, .int x3]) (rest := []) hx hb hml hts hown hK hM wt_rc_X4 cw_X4_125 hd_X4_ownerIn rfl ⟨qz_b rfl, qz_b rfl⟩ ⟨rfl, rfl⟩ hl.1 rfl (qz_b rfl) dX4_moreHours_157 hf (fun _ _ h9 => c_X4_ownerIn h9) (fun r6 s7 H locs hf hM => ?_)
    refine lv_iload_n hx hb dX4_moreHours_160 rfl (lv_at hl 2 rfl) ?_
    refine wq_icmp_ne (tgt := 167) hx hb dX4_moreHours_161 (by decide) hf (fun hf => ?_) (fun hf => ?_)
    · exact w_X4_moreHours_167 C hk93 ih hf hM (lv_sub hl [1, 2, 3, 4, 0, 5, 6] rfl)
    refine lv_iload hx hb dX4_moreHours_164 (lv_at hl 0 rfl) ?_
    exact wt_iret hx hb hr hlk hK hM hf dX4_moreHours_166
set_option maxHeartbeats 4000000 in
set_option maxRecDepth 100000 in
theorem w_X4_moreHours_93 (C : wt_C p s m args meth c RX4 cX4_moreHours 8 (some .int) D tI tII) {F : Nat} {x1 : Int32} {x2 : Int32} {x3 : Int32} {r : Int32} {σ' : Mem} : ∀ (N : Nat) (x5 : Int32) (x6 : Int32) (σ : Mem) (H : Heap) (locs : List Loc) (ls : Array Slot), lp_X4_moreHours_93 F x1 x2 x3 N x5 x6 σ = some (r, σ') → wt_St D tI tII B σ s H locs → lv_has ls 8 [(0, .ref (B + 101)), (1, .int x1), (2, .int x2), (3, .int x3), (5, .int x5), (6, .int x6)] → W p l e rm_X4_moreHours s m args below meth c H locs 0 0 (MQ below (wt_Qi D tI tII B r σ') args s 0 0 (fun q => B ≤ q)) (F0 m 93 ls []) := by
  obtain ⟨hx, hb, hts, hown, hml, hr, hlk, hK⟩ := id C
  intro N
  induction N with
  | zero => intro x5 x6 σ H locs ls hf; exact wt_none (show (none : Option (Int32 × Mem)) = some (r, σ') from hf)
  | succ N ih =>
    intro x5 x6 σ H locs ls hf hM hl
    replace hf := Eq.trans lp_X4_moreHours_93_s.symm hf
    refine lv_iload hx hb dX4_moreHours_93 (lv_at hl 5 rfl) ?_
    refine wq_if_lt (tgt := 179) hx hb dX4_moreHours_95 (by decide) hf (fun hf => ?_) (fun hf => ?_)
    · refine lv_bipush (v := -9) hx hb dX4_moreHours_179 (by decide) ?_
      exact wt_iret hx hb hr hlk hK hM hf dX4_moreHours_181
    refine lv_iconst (v := 0) hx hb dX4_moreHours_98 (by decide) ?_
    refine lv_istore (lv' := [(7, .int (0 : Int32)), (0, .ref (B + 101)), (1, .int x1), (2, .int x2), (3, .int x3), (5, .int x5), (6, .int x6)]) hx hb dX4_moreHours_99 hl (by decide) rfl (fun ls hl => ?_)
    exact w_X4_moreHours_101 C ih _ _ _ _ _ _ _ hf hM (lv_sub hl [1, 2, 3, 4, 5, 6, 0] rfl)
set_option maxHeartbeats 4000000 in
set_option maxRecDepth 100000 in
theorem w_X4_moreHours_32 (C : wt_C p s m args meth c RX4 cX4_moreHours 8 (some .int) D tI tII) {F : Nat} {x1 : Int32} {x2 : Int32} {x3 : Int32} {t0 : Int32} {σ : Mem} {r : Int32} {σ' : Mem} {H : Heap} {locs : List Loc} {ls : Array Slot} (hf : j_X4_moreHours_32 F x1 x2 x3 t0 σ = some (r, σ')) (hM : wt_St D tI tII B σ s H locs) (hl : lv_has ls 8 [(0, .ref (B + 101)), (1, .int x1), (2, .int x2), (3, .int x3)]) : W p l e rm_X4_moreHours s m args below meth c H locs 0 0 (MQ below (wt_Qi D tI tII B r σ') args s 0 0 (fun q => B ≤ q)) (F0 m 32 ls [.int t0]) := by
  obtain ⟨hx, hb, hts, hown, hml, hr, hlk, hK⟩ := id C
  replace hf := Eq.trans j_X4_moreHours_32_e.symm hf
  refine lv_istore (lv' := [(4, .int t0), (0, .ref (B + 101)), (1, .int x1), (2, .int x2), (3, .int x3)]) hx hb dX4_moreHours_32 hl (by decide) rfl (fun ls hl => ?_)
  refine lv_iload hx hb dX4_moreHours_34 (lv_at hl 0 rfl) ?_
  refine wq_if_ge (tgt := 46) hx hb dX4_moreHours_36 (by decide) hf (fun hf => ?_) (fun hf => ?_)
  · refine lv_aload_n hx hb dX4_moreHours_46 rfl (lv_at hl 1 rfl) ?_
    refine wt_callVv (As := []) (rest := []) hx hb hml hts hown hK hM wt_rc_X4 cw_X4_134 hd_X4_layBrings rfl ⟨qz_b rfl, qz_b rfl⟩ ⟨rfl, rfl⟩ hl.1 rfl (qz_b rfl) dX4_moreHours_47 hf (fun _ _ h9 => c_X4_layBrings h9) (fun r8 s9 H locs hf hM => ?_)
    refine lv_aload_n hx hb dX4_moreHours_50 rfl (lv_at hl 1 rfl) ?_
    refine lv_iload_n hx hb dX4_moreHours_51 rfl (lv_at hl 3 rfl) ?_
    refine lv_iload_n hx hb dX4_moreHours_52 rfl (lv_at hl 4 rfl) ?_
    refine wt_callVi (As := [.int x2, .int x3]) (rest := []) hx hb hml hts hown hK hM wt_rc_X4 cw_X4_125 hd_X4_ownerIn rfl ⟨qz_b rfl, qz_b rfl⟩ ⟨rfl, rfl⟩ hl.1 rfl (qz_b rfl) dX4_moreHours_53 hf (fun _ _ h9 => c_X4_ownerIn h9) (fun r10 s11 H locs hf hM => ?_)
    refine lv_iload_n hx hb dX4_moreHours_56 rfl (lv_at hl 2 rfl) ?_
    refine wq_icmp_ne (tgt := 62) hx hb dX4_moreHours_57 (by decide) hf (fun hf => ?_) (fun hf => ?_)
    · refine lv_aload_n hx hb dX4_moreHours_62 rfl (lv_at hl 1 rfl) ?_
      refine gf_X4_kinds  hx hb hts hown hK hM tw_714 dX4_moreHours_63 ?_
      refine lv_iload_n hx hb dX4_moreHours_66 rfl (lv_at hl 2 rfl) ?_
      obtain ⟨i12, hf⟩ := wt_chk_of hf
      refine wt_ild hx hb hK hM wt_a104 i12 dX4_moreHours_67 ?_
      refine lv_iconst (v := 2) hx hb dX4_moreHours_68 (by decide) ?_
      refine wq_icmp_eq (tgt := 83) hx hb dX4_moreHours_69 (by decide) hf (fun hf => ?_) (fun hf => ?_)
      · exact w_X4_moreHours_83 C hf hM (lv_sub hl [] rfl)
      refine lv_aload_n hx hb dX4_moreHours_72 rfl (lv_at hl 1 rfl) ?_
      refine wt_callVi (As := []) (rest := []) hx hb hml hts hown hK hM wt_rc_X4 cw_X4_96 hd_X4_allShown rfl ⟨qz_b rfl, qz_b rfl⟩ ⟨rfl, rfl⟩ hl.1 rfl (qz_b rfl) dX4_moreHours_73 hf (fun _ _ h9 => c_X4_allShown h9) (fun r13 s14 H locs hf hM => ?_)
      refine lv_iload_n hx hb dX4_moreHours_76 rfl (lv_at hl 3 rfl) ?_
      refine wt_callSi (As := [.int r13, .int x2]) (rest := []) hx hb hml hts hown hK hM cw_X4_104 hd_X4_hasBit rfl ⟨qz_b rfl, qz_b rfl⟩ ⟨rfl, rfl⟩ hl.1 rfl (qz_b rfl) dX4_moreHours_77 hf (fun _ _ h9 => c_X4_hasBit h9) (fun r15 s16 H locs hf hM => ?_)
      refine wq_if_ne (tgt := 86) hx hb dX4_moreHours_80 (by decide) hf (fun hf => ?_) (fun hf => ?_)
      · refine lv_iconst (v := 0) hx hb dX4_moreHours_86 (by decide) ?_
        refine lv_istore (lv' := [(5, .int (0 : Int32)), (4, .int t0), (0, .ref (B + 101)), (1, .int x1), (2, .int x2), (3, .int x3)]) hx hb dX4_moreHours_87 hl (by decide) rfl (fun ls hl => ?_)
        refine lv_bipush (v := 10) hx hb dX4_moreHours_89 (by decide) ?_
        refine lv_istore (lv' := [(6, .int (10 : Int32)), (5, .int (0 : Int32)), (4, .int t0), (0, .ref (B + 101)), (1, .int x1), (2, .int x2), (3, .int x3)]) hx hb dX4_moreHours_91 hl (by decide) rfl (fun ls hl => ?_)
        exact w_X4_moreHours_93 C _ _ _ _ _ _ _ hf hM (lv_sub hl [3, 4, 5, 6, 1, 0] rfl)
      exact w_X4_moreHours_83 C hf hM (lv_sub hl [] rfl)
    refine lv_iconst (v := 0) hx hb dX4_moreHours_60 (by decide) ?_
    exact wt_iret hx hb hr hlk hK hM hf dX4_moreHours_61
  refine lv_aload_n hx hb dX4_moreHours_39 rfl (lv_at hl 1 rfl) ?_
  refine lv_iload hx hb dX4_moreHours_40 (lv_at hl 0 rfl) ?_
  refine wt_callVi (As := [.int t0]) (rest := []) hx hb hml hts hown hK hM wt_rc_X4 cw_X4_143 hd_X4_refuse rfl ⟨qz_b rfl, qz_b rfl⟩ ⟨rfl, rfl⟩ hl.1 rfl (qz_b rfl) dX4_moreHours_42 hf (fun _ _ h9 => c_X4_refuse h9) (fun r17 s18 H locs hf hM => ?_)
  exact wt_iret hx hb hr hlk hK hM hf dX4_moreHours_45
set_option maxHeartbeats 4000000 in
set_option maxRecDepth 100000 in
theorem w_X4_moreHours_31 (C : wt_C p s m args meth c RX4 cX4_moreHours 8 (some .int) D tI tII) {F : Nat} {x1 : Int32} {x2 : Int32} {x3 : Int32} {σ : Mem} {r : Int32} {σ' : Mem} {H : Heap} {locs : List Loc} {ls : Array Slot} (hf : j_X4_moreHours_31 F x1 x2 x3 σ = some (r, σ')) (hM : wt_St D tI tII B σ s H locs) (hl : lv_has ls 8 [(0, .ref (B + 101)), (1, .int x1), (2, .int x2), (3, .int x3)]) : W p l e rm_X4_moreHours s m args below meth c H locs 0 0 (MQ below (wt_Qi D tI tII B r σ') args s 0 0 (fun q => B ≤ q)) (F0 m 31 ls []) := by
  obtain ⟨hx, hb, hts, hown, hml, hr, hlk, hK⟩ := id C
  replace hf := Eq.trans j_X4_moreHours_31_e.symm hf
  refine lv_iconst (v := -1) hx hb dX4_moreHours_31 (by decide) ?_
  exact w_X4_moreHours_32 C hf hM hl
set_option maxHeartbeats 4000000 in
set_option maxRecDepth 100000 in
theorem w_X4_moreHours_0 (C : wt_C p s m args meth c RX4 cX4_moreHours 8 (some .int) D tI tII) {F : Nat} {x1 : Int32} {x2 : Int32} {x3 : Int32} {σ : Mem} {r : Int32} {σ' : Mem} {H : Heap} {locs : List Loc} {ls : Array Slot} (hf : f_X4_moreHours F x1 x2 x3 σ = some (r, σ')) (hM : wt_St D tI tII B σ s H locs) (hl : lv_has ls 8 [(0, .ref (B + 101)), (1, .int x1), (2, .int x2), (3, .int x3)]) : W p l e rm_X4_moreHours s m args below meth c H locs 0 0 (MQ below (wt_Qi D tI tII B r σ') args s 0 0 (fun q => B ≤ q)) (F0 m 0 ls []) := by
  obtain ⟨hx, hb, hts, hown, hml, hr, hlk, hK⟩ := id C
  replace hf := Eq.trans f_X4_moreHours_e.symm hf
  refine lv_aload_n hx hb dX4_moreHours_0 rfl (lv_at hl 0 rfl) ?_
  refine lv_iconst (v := 0) hx hb dX4_moreHours_1 (by decide) ?_
  refine pf_X4_thrown  hx hb hts hown hK hM tw_720 dX4_moreHours_2 hf (fun s19 H locs hf hM => ?_)
  refine lv_aload_n hx hb dX4_moreHours_5 rfl (lv_at hl 0 rfl) ?_
  refine lv_iload_n hx hb dX4_moreHours_6 rfl (lv_at hl 1 rfl) ?_
  refine wt_callVi (As := [.int x1]) (rest := []) hx hb hml hts hown hK hM wt_rc_X4 cw_X4_88 hd_X4_isLooker rfl ⟨qz_b rfl, qz_b rfl⟩ ⟨rfl, rfl⟩ hl.1 rfl (qz_b rfl) dX4_moreHours_7 hf (fun _ _ h9 => c_X4_isLooker h9) (fun r20 s21 H locs hf hM => ?_)
  refine wq_if_eq (tgt := 31) hx hb dX4_moreHours_10 (by decide) hf (fun hf => ?_) (fun hf => ?_)
  · exact w_X4_moreHours_31 C hf hM hl
  refine lv_iload_n hx hb dX4_moreHours_13 rfl (lv_at hl 2 rfl) ?_
  refine wt_callSi (As := [.int x2]) (rest := []) hx hb hml hts hown hK hM cw_X4_243 hd_X4_isView rfl ⟨qz_b rfl, qz_b rfl⟩ ⟨rfl, rfl⟩ hl.1 rfl (qz_b rfl) dX4_moreHours_14 hf (fun _ _ h9 => c_X4_isView h9) (fun r22 s23 H locs hf hM => ?_)
  refine wq_if_eq (tgt := 31) hx hb dX4_moreHours_17 (by decide) hf (fun hf => ?_) (fun hf => ?_)
  · exact w_X4_moreHours_31 C hf hM hl
  refine lv_iload_n hx hb dX4_moreHours_20 rfl (lv_at hl 3 rfl) ?_
  refine lv_iconst (v := 1) hx hb dX4_moreHours_21 (by decide) ?_
  refine lv_sipush (v := 999) hx hb dX4_moreHours_22 (by decide) ?_
  refine wt_callSi (As := [.int x3, .int (1 : Int32), .int (999 : Int32)]) (rest := []) hx hb hml hts hown hK hM cw_X4_231 hd_X4_wrongNumber rfl ⟨qz_b rfl, qz_b rfl⟩ ⟨rfl, rfl⟩ hl.1 rfl (qz_b rfl) dX4_moreHours_25 hf (fun _ _ h9 => c_X4_wrongNumber h9) (fun r24 s25 H locs hf hM => ?_)
  refine lv_goto (tgt := 32) hx hb dX4_moreHours_28 (by decide) ?_
  exact w_X4_moreHours_32 C hf hM hl
end
set_option maxHeartbeats 4000000 in
set_option maxRecDepth 100000 in
theorem c_X4_moreHours {l : Launch} {D : va_G} {tI tII : ClassId} {B F : Nat} {x1 : Int32} {x2 : Int32} {x3 : Int32} {σ σ' : Mem} {r : Int32} (hf : f_X4_moreHours F x1 x2 x3 σ = some (r, σ')) : wt_Mi l yX4_moreHours cX4_moreHours 8 (some .int) rm_X4_moreHours [.ref (B + 101), .int x1, .int x2, .int x3] D tI tII B σ r σ' := by
  refine Met.ofW (cc := cX4_moreHours) (maxL := 8) (ret := (some .int)) (by decide) rfl ?_
  intro p e s m args below meth c s₁ B9 hml hv
  obtain ⟨rfl, hP, hK⟩ := hv
  have hl := lv_entry ([.ref (B + 101), .int x1, .int x2, .int x3]) (n := 8) (qz_b rfl)
  rw [lg_entry_eq]
  generalize (lg_sl ([.ref (B + 101), .int x1, .int x2, .int x3]) ++ List.replicate (8 - (lg_sl ([.ref (B + 101), .int x1, .int x2, .int x3])).length) Slot.unset).toArray = ls at hl ⊢
  exact w_X4_moreHours_0 (wt_C_of B9 hml hK) hf ⟨hP, va_S.rf⟩ hl
