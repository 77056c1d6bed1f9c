theorem dX0_takeFrom_0 : decode cX0_takeFrom 0 = .ok (.aload_n 0, 1) := qd_p qo_42 (by decide +kernel)
theorem dX0_takeFrom_1 : decode cX0_takeFrom 1 = .ok (.aload_n 1, 1) := qd_p qo_43 (by decide +kernel)
theorem dX0_takeFrom_2 : decode cX0_takeFrom 2 = .ok (.getfield 9, 3) := qz_2 .getfield 0 9 qo_180 (by decide +kernel) rfl
theorem dX0_takeFrom_5 : decode cX0_takeFrom 5 = .ok (.putfield 9, 3) := qz_2 .putfield 0 9 qo_181 (by decide +kernel) rfl
theorem dX0_takeFrom_8 : decode cX0_takeFrom 8 = .ok (.aload_n 0, 1) := qd_p qo_42 (by decide +kernel)
theorem dX0_takeFrom_9 : decode cX0_takeFrom 9 = .ok (.aload_n 1, 1) := qd_p qo_43 (by decide +kernel)
theorem dX0_takeFrom_10 : decode cX0_takeFrom 10 = .ok (.getfield 19, 3) := qz_2 .getfield 0 19 qo_180 (by decide +kernel) rfl
theorem dX0_takeFrom_13 : decode cX0_takeFrom 13 = .ok (.putfield 19, 3) := qz_2 .putfield 0 19 qo_181 (by decide +kernel) rfl
theorem dX0_takeFrom_16 : decode cX0_takeFrom 16 = .ok (.aload_n 0, 1) := qd_p qo_42 (by decide +kernel)
theorem dX0_takeFrom_17 : decode cX0_takeFrom 17 = .ok (.aload_n 1, 1) := qd_p qo_43 (by decide +kernel)
theorem dX0_takeFrom_18 : decode cX0_takeFrom 18 = .ok (.getfield 39, 3) := qz_2 .getfield 0 39 qo_180 (by decide +kernel) rfl
theorem dX0_takeFrom_21 : decode cX0_takeFrom 21 = .ok (.putfield 39, 3) := qz_2 .putfield 0 39 qo_181 (by decide +kernel) rfl
theorem dX0_takeFrom_24 : decode cX0_takeFrom 24 = .ok (.aload_n 0, 1) := qd_p qo_42 (by decide +kernel)
theorem dX0_takeFrom_25 : decode cX0_takeFrom 25 = .ok (.aload_n 1, 1) := qd_p qo_43 (by decide +kernel)
theorem dX0_takeFrom_26 : decode cX0_takeFrom 26 = .ok (.getfield 42, 3) := qz_2 .getfield 0 42 qo_180 (by decide +kernel) rfl
theorem dX0_takeFrom_29 : decode cX0_takeFrom 29 = .ok (.putfield 42, 3) := qz_2 .putfield 0 42 qo_181 (by decide +kernel) rfl
theorem dX0_takeFrom_32 : decode cX0_takeFrom 32 = .ok (.aload_n 1, 1) := qd_p qo_43 (by decide +kernel)
theorem dX0_takeFrom_33 : decode cX0_takeFrom 33 = .ok (.getfield 15, 3) := qz_2 .getfield 0 15 qo_180 (by decide +kernel) rfl
theorem dX0_takeFrom_36 : decode cX0_takeFrom 36 = .ok (.iconst 0, 1) := qd_p qo_3 (by decide +kernel)
theorem dX0_takeFrom_37 : decode cX0_takeFrom 37 = .ok (.aload_n 0, 1) := qd_p qo_42 (by decide +kernel)
theorem dX0_takeFrom_38 : decode cX0_takeFrom 38 = .ok (.getfield 15, 3) := qz_2 .getfield 0 15 qo_180 (by decide +kernel) rfl
theorem dX0_takeFrom_41 : decode cX0_takeFrom 41 = .ok (.iconst 0, 1) := qd_p qo_3 (by decide +kernel)
theorem dX0_takeFrom_42 : decode cX0_takeFrom 42 = .ok (.bipush 6, 2) := qz_s1 .bipush 6 qo_16 (by decide +kernel) rfl
theorem dX0_takeFrom_44 : decode cX0_takeFrom 44 = .ok (.invokestatic 48, 3) := qz_2 .invokestatic 0 48 qo_184 (by decide +kernel) rfl
theorem dX0_takeFrom_47 : decode cX0_takeFrom 47 = .ok (.aload_n 1, 1) := qd_p qo_43 (by decide +kernel)
theorem dX0_takeFrom_48 : decode cX0_takeFrom 48 = .ok (.getfield 22, 3) := qz_2 .getfield 0 22 qo_180 (by decide +kernel) rfl
theorem dX0_takeFrom_51 : decode cX0_takeFrom 51 = .ok (.iconst 0, 1) := qd_p qo_3 (by decide +kernel)
theorem dX0_takeFrom_52 : decode cX0_takeFrom 52 = .ok (.aload_n 0, 1) := qd_p qo_42 (by decide +kernel)
theorem dX0_takeFrom_53 : decode cX0_takeFrom 53 = .ok (.getfield 22, 3) := qz_2 .getfield 0 22 qo_180 (by decide +kernel) rfl
theorem dX0_takeFrom_56 : decode cX0_takeFrom 56 = .ok (.iconst 0, 1) := qd_p qo_3 (by decide +kernel)
theorem dX0_takeFrom_57 : decode cX0_takeFrom 57 = .ok (.iconst 5, 1) := qd_p qo_8 (by decide +kernel)
theorem dX0_takeFrom_58 : decode cX0_takeFrom 58 = .ok (.invokestatic 48, 3) := qz_2 .invokestatic 0 48 qo_184 (by decide +kernel) rfl
theorem dX0_takeFrom_61 : decode cX0_takeFrom 61 = .ok (.aload_n 1, 1) := qd_p qo_43 (by decide +kernel)
theorem dX0_takeFrom_62 : decode cX0_takeFrom 62 = .ok (.getfield 25, 3) := qz_2 .getfield 0 25 qo_180 (by decide +kernel) rfl
theorem dX0_takeFrom_65 : decode cX0_takeFrom 65 = .ok (.iconst 0, 1) := qd_p qo_3 (by decide +kernel)
theorem dX0_takeFrom_66 : decode cX0_takeFrom 66 = .ok (.aload_n 0, 1) := qd_p qo_42 (by decide +kernel)
theorem dX0_takeFrom_67 : decode cX0_takeFrom 67 = .ok (.getfield 25, 3) := qz_2 .getfield 0 25 qo_180 (by decide +kernel) rfl
theorem dX0_takeFrom_70 : decode cX0_takeFrom 70 = .ok (.iconst 0, 1) := qd_p qo_3 (by decide +kernel)
theorem dX0_takeFrom_71 : decode cX0_takeFrom 71 = .ok (.iconst 5, 1) := qd_p qo_8 (by decide +kernel)
theorem dX0_takeFrom_72 : decode cX0_takeFrom 72 = .ok (.invokestatic 48, 3) := qz_2 .invokestatic 0 48 qo_184 (by decide +kernel) rfl
theorem dX0_takeFrom_75 : decode cX0_takeFrom 75 = .ok (.aload_n 1, 1) := qd_p qo_43 (by decide +kernel)
theorem dX0_takeFrom_76 : decode cX0_takeFrom 76 = .ok (.getfield 36, 3) := qz_2 .getfield 0 36 qo_180 (by decide +kernel) rfl
theorem dX0_takeFrom_79 : decode cX0_takeFrom 79 = .ok (.iconst 0, 1) := qd_p qo_3 (by decide +kernel)
theorem dX0_takeFrom_80 : decode cX0_takeFrom 80 = .ok (.aload_n 0, 1) := qd_p qo_42 (by decide +kernel)
theorem dX0_takeFrom_81 : decode cX0_takeFrom 81 = .ok (.getfield 36, 3) := qz_2 .getfield 0 36 qo_180 (by decide +kernel) rfl
theorem dX0_takeFrom_84 : decode cX0_takeFrom 84 = .ok (.iconst 0, 1) := qd_p qo_3 (by decide +kernel)
theorem dX0_takeFrom_85 : decode cX0_takeFrom 85 = .ok (.bipush 8, 2) := qz_s1 .bipush 8 qo_16 (by decide +kernel) rfl
theorem dX0_takeFrom_87 : decode cX0_takeFrom 87 = .ok (.invokestatic 48, 3) := qz_2 .invokestatic 0 48 qo_184 (by decide +kernel) rfl
theorem dX0_takeFrom_90 : decode cX0_takeFrom 90 = .ok (.iconst 0, 1) := qd_p qo_3 (by decide +kernel)
theorem dX0_takeFrom_91 : decode cX0_takeFrom 91 = .ok (.istore_n 2, 1) := qd_p qo_61 (by decide +kernel)
theorem dX0_takeFrom_92 : decode cX0_takeFrom 92 = .ok (.iload_n 2, 1) := qd_p qo_28 (by decide +kernel)
theorem dX0_takeFrom_93 : decode cX0_takeFrom 93 = .ok (.iconst 5, 1) := qd_p qo_8 (by decide +kernel)
theorem dX0_takeFrom_94 : decode cX0_takeFrom 94 = .ok (.if_icmp .ge 47, 3) := qz_s2 (.if_icmp .ge) 0 47 qo_162 (by decide +kernel) rfl
theorem dX0_takeFrom_97 : decode cX0_takeFrom 97 = .ok (.aload_n 1, 1) := qd_p qo_43 (by decide +kernel)
theorem dX0_takeFrom_98 : decode cX0_takeFrom 98 = .ok (.getfield 30, 3) := qz_2 .getfield 0 30 qo_180 (by decide +kernel) rfl
theorem dX0_takeFrom_101 : decode cX0_takeFrom 101 = .ok (.iload_n 2, 1) := qd_p qo_28 (by decide +kernel)
theorem dX0_takeFrom_102 : decode cX0_takeFrom 102 = .ok (.aaload, 1) := qd_p qo_50 (by decide +kernel)
theorem dX0_takeFrom_103 : decode cX0_takeFrom 103 = .ok (.iconst 0, 1) := qd_p qo_3 (by decide +kernel)
theorem dX0_takeFrom_104 : decode cX0_takeFrom 104 = .ok (.aload_n 0, 1) := qd_p qo_42 (by decide +kernel)
theorem dX0_takeFrom_105 : decode cX0_takeFrom 105 = .ok (.getfield 30, 3) := qz_2 .getfield 0 30 qo_180 (by decide +kernel) rfl
theorem dX0_takeFrom_108 : decode cX0_takeFrom 108 = .ok (.iload_n 2, 1) := qd_p qo_28 (by decide +kernel)
theorem dX0_takeFrom_109 : decode cX0_takeFrom 109 = .ok (.aaload, 1) := qd_p qo_50 (by decide +kernel)
theorem dX0_takeFrom_110 : decode cX0_takeFrom 110 = .ok (.iconst 0, 1) := qd_p qo_3 (by decide +kernel)
theorem dX0_takeFrom_111 : decode cX0_takeFrom 111 = .ok (.bipush 24, 2) := qz_s1 .bipush 24 qo_16 (by decide +kernel) rfl
theorem dX0_takeFrom_113 : decode cX0_takeFrom 113 = .ok (.invokestatic 48, 3) := qz_2 .invokestatic 0 48 qo_184 (by decide +kernel) rfl
theorem dX0_takeFrom_116 : decode cX0_takeFrom 116 = .ok (.aload_n 1, 1) := qd_p qo_43 (by decide +kernel)
theorem dX0_takeFrom_117 : decode cX0_takeFrom 117 = .ok (.getfield 33, 3) := qz_2 .getfield 0 33 qo_180 (by decide +kernel) rfl
theorem dX0_takeFrom_120 : decode cX0_takeFrom 120 = .ok (.iload_n 2, 1) := qd_p qo_28 (by decide +kernel)
theorem dX0_takeFrom_121 : decode cX0_takeFrom 121 = .ok (.aaload, 1) := qd_p qo_50 (by decide +kernel)
theorem dX0_takeFrom_122 : decode cX0_takeFrom 122 = .ok (.iconst 0, 1) := qd_p qo_3 (by decide +kernel)
theorem dX0_takeFrom_123 : decode cX0_takeFrom 123 = .ok (.aload_n 0, 1) := qd_p qo_42 (by decide +kernel)
theorem dX0_takeFrom_124 : decode cX0_takeFrom 124 = .ok (.getfield 33, 3) := qz_2 .getfield 0 33 qo_180 (by decide +kernel) rfl
theorem dX0_takeFrom_127 : decode cX0_takeFrom 127 = .ok (.iload_n 2, 1) := qd_p qo_28 (by decide +kernel)
theorem dX0_takeFrom_128 : decode cX0_takeFrom 128 = .ok (.aaload, 1) := qd_p qo_50 (by decide +kernel)
theorem dX0_takeFrom_129 : decode cX0_takeFrom 129 = .ok (.iconst 0, 1) := qd_p qo_3 (by decide +kernel)
theorem dX0_takeFrom_130 : decode cX0_takeFrom 130 = .ok (.bipush 8, 2) := qz_s1 .bipush 8 qo_16 (by decide +kernel) rfl
theorem dX0_takeFrom_132 : decode cX0_takeFrom 132 = .ok (.invokestatic 48, 3) := qz_2 .invokestatic 0 48 qo_184 (by decide +kernel) rfl
theorem dX0_takeFrom_135 : decode cX0_takeFrom 135 = .ok (.iinc 2 1, 3) := qd_i (x := 2) (y := 1) qo_132 (by decide +kernel) rfl
theorem dX0_takeFrom_138 : decode cX0_takeFrom 138 = .ok (.goto (-46), 3) := qz_s2 .goto 255 210 qo_167 (by decide +kernel) rfl
theorem dX0_takeFrom_141 : decode cX0_takeFrom 141 = .ok (.return_, 1) := qd_p qo_177 (by decide +kernel)
theorem dX0_isView_0 : decode cX0_isView 0 = .ok (.iload_n 0, 1) := qd_p qo_26 (by decide +kernel)
theorem dX0_isView_1 : decode cX0_isView 1 = .ok (.ifCond .lt 13, 3) := qz_s2 (.ifCond .lt) 0 13 qo_155 (by decide +kernel) rfl
theorem dX0_isView_4 : decode cX0_isView 4 = .ok (.iload_n 0, 1) := qd_p qo_26 (by decide +kernel)
theorem dX0_isView_5 : decode cX0_isView 5 = .ok (.bipush 8, 2) := qz_s1 .bipush 8 qo_16 (by decide +kernel) rfl
theorem dX0_isView_7 : decode cX0_isView 7 = .ok (.if_icmp .ge 7, 3) := qz_s2 (.if_icmp .ge) 0 7 qo_162 (by decide +kernel) rfl
theorem dX0_isView_10 : decode cX0_isView 10 = .ok (.iconst 1, 1) := qd_p qo_4 (by decide +kernel)
theorem dX0_isView_11 : decode cX0_isView 11 = .ok (.goto 4, 3) := qz_s2 .goto 0 4 qo_167 (by decide +kernel) rfl
theorem dX0_isView_14 : decode cX0_isView 14 = .ok (.iconst 0, 1) := qd_p qo_3 (by decide +kernel)
theorem dX0_isView_15 : decode cX0_isView 15 = .ok (.ireturn, 1) := qd_p qo_172 (by decide +kernel)
theorem dX0_isHour_0 : decode cX0_isHour 0 = .ok (.iload_n 0, 1) := qd_p qo_26 (by decide +kernel)
theorem dX0_isHour_1 : decode cX0_isHour 1 = .ok (.ifCond .lt 13, 3) := qz_s2 (.ifCond .lt) 0 13 qo_155 (by decide +kernel) rfl
theorem dX0_isHour_4 : decode cX0_isHour 4 = .ok (.iload_n 0, 1) := qd_p qo_26 (by decide +kernel)
theorem dX0_isHour_5 : decode cX0_isHour 5 = .ok (.bipush 24, 2) := qz_s1 .bipush 24 qo_16 (by decide +kernel) rfl
theorem dX0_isHour_7 : decode cX0_isHour 7 = .ok (.if_icmp .ge 7, 3) := qz_s2 (.if_icmp .ge) 0 7 qo_162 (by decide +kernel) rfl
theorem dX0_isHour_10 : decode cX0_isHour 10 = .ok (.iconst 1, 1) := qd_p qo_4 (by decide +kernel)
theorem dX0_isHour_11 : decode cX0_isHour 11 = .ok (.goto 4, 3) := qz_s2 .goto 0 4 qo_167 (by decide +kernel) rfl
theorem dX0_isHour_14 : decode cX0_isHour 14 = .ok (.iconst 0, 1) := qd_p qo_3 (by decide +kernel)
theorem dX0_isHour_15 : decode cX0_isHour 15 = .ok (.ireturn, 1) := qd_p qo_172 (by decide +kernel)
theorem dX0_isPane_0 : decode cX0_isPane 0 = .ok (.iload_n 1, 1) := qd_p qo_27 (by decide +kernel)
theorem dX0_isPane_1 : decode cX0_isPane 1 = .ok (.ifCond .lt 21, 3) := qz_s2 (.ifCond .lt) 0 21 qo_155 (by decide +kernel) rfl
theorem dX0_isPane_4 : decode cX0_isPane 4 = .ok (.iload_n 1, 1) := qd_p qo_27 (by decide +kernel)
theorem dX0_isPane_5 : decode cX0_isPane 5 = .ok (.aload_n 0, 1) := qd_p qo_42 (by decide +kernel)
theorem dX0_isPane_6 : decode cX0_isPane 6 = .ok (.getfield 9, 3) := qz_2 .getfield 0 9 qo_180 (by decide +kernel) rfl
theorem dX0_isPane_9 : decode cX0_isPane 9 = .ok (.if_icmp .ge 13, 3) := qz_s2 (.if_icmp .ge) 0 13 qo_162 (by decide +kernel) rfl
theorem dX0_isPane_12 : decode cX0_isPane 12 = .ok (.iload_n 1, 1) := qd_p qo_27 (by decide +kernel)
theorem dX0_isPane_13 : decode cX0_isPane 13 = .ok (.bipush 6, 2) := qz_s1 .bipush 6 qo_16 (by decide +kernel) rfl
theorem dX0_isPane_15 : decode cX0_isPane 15 = .ok (.if_icmp .ge 7, 3) := qz_s2 (.if_icmp .ge) 0 7 qo_162 (by decide +kernel) rfl
theorem dX0_isPane_18 : decode cX0_isPane 18 = .ok (.iconst 1, 1) := qd_p qo_4 (by decide +kernel)
theorem dX0_isPane_19 : decode cX0_isPane 19 = .ok (.goto 4, 3) := qz_s2 .goto 0 4 qo_167 (by decide +kernel) rfl
theorem dX0_isPane_22 : decode cX0_isPane 22 = .ok (.iconst 0, 1) := qd_p qo_3 (by decide +kernel)
theorem dX0_isPane_23 : decode cX0_isPane 23 = .ok (.ireturn, 1) := qd_p qo_172 (by decide +kernel)
theorem dX0_isLooker_0 : decode cX0_isLooker 0 = .ok (.iload_n 1, 1) := qd_p qo_27 (by decide +kernel)
theorem dX0_isLooker_1 : decode cX0_isLooker 1 = .ok (.ifCond .lt 20, 3) := qz_s2 (.ifCond .lt) 0 20 qo_155 (by decide +kernel) rfl
theorem dX0_isLooker_4 : decode cX0_isLooker 4 = .ok (.iload_n 1, 1) := qd_p qo_27 (by decide +kernel)
theorem dX0_isLooker_5 : decode cX0_isLooker 5 = .ok (.aload_n 0, 1) := qd_p qo_42 (by decide +kernel)
theorem dX0_isLooker_6 : decode cX0_isLooker 6 = .ok (.getfield 19, 3) := qz_2 .getfield 0 19 qo_180 (by decide +kernel) rfl
theorem dX0_isLooker_9 : decode cX0_isLooker 9 = .ok (.if_icmp .ge 12, 3) := qz_s2 (.if_icmp .ge) 0 12 qo_162 (by decide +kernel) rfl
theorem dX0_isLooker_12 : decode cX0_isLooker 12 = .ok (.iload_n 1, 1) := qd_p qo_27 (by decide +kernel)
theorem dX0_isLooker_13 : decode cX0_isLooker 13 = .ok (.iconst 5, 1) := qd_p qo_8 (by decide +kernel)
theorem dX0_isLooker_14 : decode cX0_isLooker 14 = .ok (.if_icmp .ge 7, 3) := qz_s2 (.if_icmp .ge) 0 7 qo_162 (by decide +kernel) rfl
theorem dX0_isLooker_17 : decode cX0_isLooker 17 = .ok (.iconst 1, 1) := qd_p qo_4 (by decide +kernel)
theorem dX0_isLooker_18 : decode cX0_isLooker 18 = .ok (.goto 4, 3) := qz_s2 .goto 0 4 qo_167 (by decide +kernel) rfl
theorem dX0_isLooker_21 : decode cX0_isLooker 21 = .ok (.iconst 0, 1) := qd_p qo_3 (by decide +kernel)
theorem dX0_isLooker_22 : decode cX0_isLooker 22 = .ok (.ireturn, 1) := qd_p qo_172 (by decide +kernel)
theorem dX0_addPane_0 : decode cX0_addPane 0 = .ok (.iload_n 1, 1) := qd_p qo_27 (by decide +kernel)
theorem dX0_addPane_1 : decode cX0_addPane 1 = .ok (.ifCond .lt 26, 3) := qz_s2 (.ifCond .lt) 0 26 qo_155 (by decide +kernel) rfl
theorem dX0_addPane_4 : decode cX0_addPane 4 = .ok (.iload_n 1, 1) := qd_p qo_27 (by decide +kernel)
theorem dX0_addPane_5 : decode cX0_addPane 5 = .ok (.sipush 255, 3) := qz_s2 .sipush 0 255 qo_17 (by decide +kernel) rfl
theorem dX0_addPane_8 : decode cX0_addPane 8 = .ok (.if_icmp .gt 19, 3) := qz_s2 (.if_icmp .gt) 0 19 qo_163 (by decide +kernel) rfl
theorem dX0_addPane_11 : decode cX0_addPane 11 = .ok (.aload_n 0, 1) := qd_p qo_42 (by decide +kernel)
theorem dX0_addPane_12 : decode cX0_addPane 12 = .ok (.getfield 9, 3) := qz_2 .getfield 0 9 qo_180 (by decide +kernel) rfl
theorem dX0_addPane_15 : decode cX0_addPane 15 = .ok (.ifCond .lt 12, 3) := qz_s2 (.ifCond .lt) 0 12 qo_155 (by decide +kernel) rfl
theorem dX0_addPane_18 : decode cX0_addPane 18 = .ok (.aload_n 0, 1) := qd_p qo_42 (by decide +kernel)
theorem dX0_addPane_19 : decode cX0_addPane 19 = .ok (.getfield 9, 3) := qz_2 .getfield 0 9 qo_180 (by decide +kernel) rfl
theorem dX0_addPane_22 : decode cX0_addPane 22 = .ok (.bipush 6, 2) := qz_s1 .bipush 6 qo_16 (by decide +kernel) rfl
theorem dX0_addPane_24 : decode cX0_addPane 24 = .ok (.if_icmp .lt 5, 3) := qz_s2 (.if_icmp .lt) 0 5 qo_161 (by decide +kernel) rfl
theorem dX0_addPane_27 : decode cX0_addPane 27 = .ok (.iconst 0, 1) := qd_p qo_3 (by decide +kernel)
theorem dX0_addPane_28 : decode cX0_addPane 28 = .ok (.ireturn, 1) := qd_p qo_172 (by decide +kernel)
theorem dX0_addPane_29 : decode cX0_addPane 29 = .ok (.aload_n 0, 1) := qd_p qo_42 (by decide +kernel)
theorem dX0_addPane_30 : decode cX0_addPane 30 = .ok (.getfield 15, 3) := qz_2 .getfield 0 15 qo_180 (by decide +kernel) rfl
theorem dX0_addPane_33 : decode cX0_addPane 33 = .ok (.aload_n 0, 1) := qd_p qo_42 (by decide +kernel)
theorem dX0_addPane_34 : decode cX0_addPane 34 = .ok (.getfield 9, 3) := qz_2 .getfield 0 9 qo_180 (by decide +kernel) rfl
theorem dX0_addPane_37 : decode cX0_addPane 37 = .ok (.iload_n 1, 1) := qd_p qo_27 (by decide +kernel)
theorem dX0_addPane_38 : decode cX0_addPane 38 = .ok (.iastore, 1) := qd_p qo_79 (by decide +kernel)
theorem dX0_addPane_39 : decode cX0_addPane 39 = .ok (.aload_n 0, 1) := qd_p qo_42 (by decide +kernel)
theorem dX0_addPane_40 : decode cX0_addPane 40 = .ok (.dup, 1) := qd_p qo_89 (by decide +kernel)
theorem dX0_addPane_41 : decode cX0_addPane 41 = .ok (.getfield 9, 3) := qz_2 .getfield 0 9 qo_180 (by decide +kernel) rfl
theorem dX0_addPane_44 : decode cX0_addPane 44 = .ok (.iconst 1, 1) := qd_p qo_4 (by decide +kernel)
theorem dX0_addPane_45 : decode cX0_addPane 45 = .ok (.iadd, 1) := qd_p qo_96 (by decide +kernel)
theorem dX0_addPane_46 : decode cX0_addPane 46 = .ok (.putfield 9, 3) := qz_2 .putfield 0 9 qo_181 (by decide +kernel) rfl
theorem dX0_addPane_49 : decode cX0_addPane 49 = .ok (.iconst 1, 1) := qd_p qo_4 (by decide +kernel)
theorem dX0_addPane_50 : decode cX0_addPane 50 = .ok (.ireturn, 1) := qd_p qo_172 (by decide +kernel)
theorem dX0_addLooker_0 : decode cX0_addLooker 0 = .ok (.iload_n 1, 1) := qd_p qo_27 (by decide +kernel)
theorem dX0_addLooker_1 : decode cX0_addLooker 1 = .ok (.ifCond .lt 34, 3) := qz_s2 (.ifCond .lt) 0 34 qo_155 (by decide +kernel) rfl
theorem dX0_addLooker_4 : decode cX0_addLooker 4 = .ok (.iload_n 1, 1) := qd_p qo_27 (by decide +kernel)
theorem dX0_addLooker_5 : decode cX0_addLooker 5 = .ok (.bipush 6, 2) := qz_s1 .bipush 6 qo_16 (by decide +kernel) rfl
theorem dX0_addLooker_7 : decode cX0_addLooker 7 = .ok (.if_icmp .ge 28, 3) := qz_s2 (.if_icmp .ge) 0 28 qo_162 (by decide +kernel) rfl
theorem dX0_addLooker_10 : decode cX0_addLooker 10 = .ok (.iload_n 2, 1) := qd_p qo_28 (by decide +kernel)
theorem dX0_addLooker_11 : decode cX0_addLooker 11 = .ok (.ifCond .lt 24, 3) := qz_s2 (.ifCond .lt) 0 24 qo_155 (by decide +kernel) rfl
theorem dX0_addLooker_14 : decode cX0_addLooker 14 = .ok (.iload_n 2, 1) := qd_p qo_28 (by decide +kernel)
theorem dX0_addLooker_15 : decode cX0_addLooker 15 = .ok (.bipush 9, 2) := qz_s1 .bipush 9 qo_16 (by decide +kernel) rfl
theorem dX0_addLooker_17 : decode cX0_addLooker 17 = .ok (.if_icmp .gt 18, 3) := qz_s2 (.if_icmp .gt) 0 18 qo_163 (by decide +kernel) rfl
theorem dX0_addLooker_20 : decode cX0_addLooker 20 = .ok (.aload_n 0, 1) := qd_p qo_42 (by decide +kernel)
theorem dX0_addLooker_21 : decode cX0_addLooker 21 = .ok (.getfield 19, 3) := qz_2 .getfield 0 19 qo_180 (by decide +kernel) rfl
theorem dX0_addLooker_24 : decode cX0_addLooker 24 = .ok (.ifCond .lt 11, 3) := qz_s2 (.ifCond .lt) 0 11 qo_155 (by decide +kernel) rfl
theorem dX0_addLooker_27 : decode cX0_addLooker 27 = .ok (.aload_n 0, 1) := qd_p qo_42 (by decide +kernel)
theorem dX0_addLooker_28 : decode cX0_addLooker 28 = .ok (.getfield 19, 3) := qz_2 .getfield 0 19 qo_180 (by decide +kernel) rfl
theorem dX0_addLooker_31 : decode cX0_addLooker 31 = .ok (.iconst 5, 1) := qd_p qo_8 (by decide +kernel)
theorem dX0_addLooker_32 : decode cX0_addLooker 32 = .ok (.if_icmp .lt 5, 3) := qz_s2 (.if_icmp .lt) 0 5 qo_161 (by decide +kernel) rfl
theorem dX0_addLooker_35 : decode cX0_addLooker 35 = .ok (.iconst 0, 1) := qd_p qo_3 (by decide +kernel)
theorem dX0_addLooker_36 : decode cX0_addLooker 36 = .ok (.ireturn, 1) := qd_p qo_172 (by decide +kernel)
theorem dX0_addLooker_37 : decode cX0_addLooker 37 = .ok (.aload_n 0, 1) := qd_p qo_42 (by decide +kernel)
theorem dX0_addLooker_38 : decode cX0_addLooker 38 = .ok (.getfield 22, 3) := qz_2 .getfield 0 22 qo_180 (by decide +kernel) rfl
theorem dX0_addLooker_41 : decode cX0_addLooker 41 = .ok (.aload_n 0, 1) := qd_p qo_42 (by decide +kernel)
theorem dX0_addLooker_42 : decode cX0_addLooker 42 = .ok (.getfield 19, 3) := qz_2 .getfield 0 19 qo_180 (by decide +kernel) rfl
theorem dX0_addLooker_45 : decode cX0_addLooker 45 = .ok (.iload_n 1, 1) := qd_p qo_27 (by decide +kernel)
theorem dX0_addLooker_46 : decode cX0_addLooker 46 = .ok (.iastore, 1) := qd_p qo_79 (by decide +kernel)
theorem dX0_addLooker_47 : decode cX0_addLooker 47 = .ok (.aload_n 0, 1) := qd_p qo_42 (by decide +kernel)
theorem dX0_addLooker_48 : decode cX0_addLooker 48 = .ok (.getfield 25, 3) := qz_2 .getfield 0 25 qo_180 (by decide +kernel) rfl
theorem dX0_addLooker_51 : decode cX0_addLooker 51 = .ok (.aload_n 0, 1) := qd_p qo_42 (by decide +kernel)
theorem dX0_addLooker_52 : decode cX0_addLooker 52 = .ok (.getfield 19, 3) := qz_2 .getfield 0 19 qo_180 (by decide +kernel) rfl
theorem dX0_addLooker_55 : decode cX0_addLooker 55 = .ok (.iload_n 2, 1) := qd_p qo_28 (by decide +kernel)
theorem dX0_addLooker_56 : decode cX0_addLooker 56 = .ok (.iastore, 1) := qd_p qo_79 (by decide +kernel)
theorem dX0_addLooker_57 : decode cX0_addLooker 57 = .ok (.iconst 0, 1) := qd_p qo_3 (by decide +kernel)
theorem dX0_addLooker_58 : decode cX0_addLooker 58 = .ok (.istore_n 3, 1) := qd_p qo_62 (by decide +kernel)
theorem dX0_addLooker_59 : decode cX0_addLooker 59 = .ok (.iload_n 3, 1) := qd_p qo_29 (by decide +kernel)
theorem dX0_addLooker_60 : decode cX0_addLooker 60 = .ok (.bipush 24, 2) := qz_s1 .bipush 24 qo_16 (by decide +kernel) rfl
theorem dX0_addLooker_62 : decode cX0_addLooker 62 = .ok (.if_icmp .ge 22, 3) := qz_s2 (.if_icmp .ge) 0 22 qo_162 (by decide +kernel) rfl
theorem dX0_addLooker_65 : decode cX0_addLooker 65 = .ok (.aload_n 0, 1) := qd_p qo_42 (by decide +kernel)
theorem dX0_addLooker_66 : decode cX0_addLooker 66 = .ok (.getfield 30, 3) := qz_2 .getfield 0 30 qo_180 (by decide +kernel) rfl
theorem dX0_addLooker_69 : decode cX0_addLooker 69 = .ok (.aload_n 0, 1) := qd_p qo_42 (by decide +kernel)
theorem dX0_addLooker_70 : decode cX0_addLooker 70 = .ok (.getfield 19, 3) := qz_2 .getfield 0 19 qo_180 (by decide +kernel) rfl
theorem dX0_addLooker_73 : decode cX0_addLooker 73 = .ok (.aaload, 1) := qd_p qo_50 (by decide +kernel)
theorem dX0_addLooker_74 : decode cX0_addLooker 74 = .ok (.iload_n 3, 1) := qd_p qo_29 (by decide +kernel)
theorem dX0_addLooker_75 : decode cX0_addLooker 75 = .ok (.bipush 9, 2) := qz_s1 .bipush 9 qo_16 (by decide +kernel) rfl
theorem dX0_addLooker_77 : decode cX0_addLooker 77 = .ok (.iastore, 1) := qd_p qo_79 (by decide +kernel)
theorem dX0_addLooker_78 : decode cX0_addLooker 78 = .ok (.iinc 3 1, 3) := qd_i (x := 3) (y := 1) qo_132 (by decide +kernel) rfl
theorem dX0_addLooker_81 : decode cX0_addLooker 81 = .ok (.goto (-22), 3) := qz_s2 .goto 255 234 qo_167 (by decide +kernel) rfl
theorem dX0_addLooker_84 : decode cX0_addLooker 84 = .ok (.iconst 0, 1) := qd_p qo_3 (by decide +kernel)
theorem dX0_addLooker_85 : decode cX0_addLooker 85 = .ok (.istore_n 3, 1) := qd_p qo_62 (by decide +kernel)
theorem dX0_addLooker_86 : decode cX0_addLooker 86 = .ok (.iload_n 3, 1) := qd_p qo_29 (by decide +kernel)
theorem dX0_addLooker_87 : decode cX0_addLooker 87 = .ok (.bipush 8, 2) := qz_s1 .bipush 8 qo_16 (by decide +kernel) rfl
theorem dX0_addLooker_89 : decode cX0_addLooker 89 = .ok (.if_icmp .ge 21, 3) := qz_s2 (.if_icmp .ge) 0 21 qo_162 (by decide +kernel) rfl
theorem dX0_addLooker_92 : decode cX0_addLooker 92 = .ok (.aload_n 0, 1) := qd_p qo_42 (by decide +kernel)
theorem dX0_addLooker_93 : decode cX0_addLooker 93 = .ok (.getfield 33, 3) := qz_2 .getfield 0 33 qo_180 (by decide +kernel) rfl
theorem dX0_addLooker_96 : decode cX0_addLooker 96 = .ok (.aload_n 0, 1) := qd_p qo_42 (by decide +kernel)
theorem dX0_addLooker_97 : decode cX0_addLooker 97 = .ok (.getfield 19, 3) := qz_2 .getfield 0 19 qo_180 (by decide +kernel) rfl
theorem dX0_addLooker_100 : decode cX0_addLooker 100 = .ok (.aaload, 1) := qd_p qo_50 (by decide +kernel)
theorem dX0_addLooker_101 : decode cX0_addLooker 101 = .ok (.iload_n 3, 1) := qd_p qo_29 (by decide +kernel)
theorem dX0_addLooker_102 : decode cX0_addLooker 102 = .ok (.iconst 0, 1) := qd_p qo_3 (by decide +kernel)
theorem dX0_addLooker_103 : decode cX0_addLooker 103 = .ok (.iastore, 1) := qd_p qo_79 (by decide +kernel)
theorem dX0_addLooker_104 : decode cX0_addLooker 104 = .ok (.iinc 3 1, 3) := qd_i (x := 3) (y := 1) qo_132 (by decide +kernel) rfl
theorem dX0_addLooker_107 : decode cX0_addLooker 107 = .ok (.goto (-21), 3) := qz_s2 .goto 255 235 qo_167 (by decide +kernel) rfl
theorem dX0_addLooker_110 : decode cX0_addLooker 110 = .ok (.aload_n 0, 1) := qd_p qo_42 (by decide +kernel)
theorem dX0_addLooker_111 : decode cX0_addLooker 111 = .ok (.dup, 1) := qd_p qo_89 (by decide +kernel)
theorem dX0_addLooker_112 : decode cX0_addLooker 112 = .ok (.getfield 19, 3) := qz_2 .getfield 0 19 qo_180 (by decide +kernel) rfl
theorem dX0_addLooker_115 : decode cX0_addLooker 115 = .ok (.iconst 1, 1) := qd_p qo_4 (by decide +kernel)
theorem dX0_addLooker_116 : decode cX0_addLooker 116 = .ok (.iadd, 1) := qd_p qo_96 (by decide +kernel)
theorem dX0_addLooker_117 : decode cX0_addLooker 117 = .ok (.putfield 19, 3) := qz_2 .putfield 0 19 qo_181 (by decide +kernel) rfl
theorem dX0_addLooker_120 : decode cX0_addLooker 120 = .ok (.iconst 1, 1) := qd_p qo_4 (by decide +kernel)
theorem dX0_addLooker_121 : decode cX0_addLooker 121 = .ok (.ireturn, 1) := qd_p qo_172 (by decide +kernel)
theorem dX0_post_0 : decode cX0_post 0 = .ok (.aload_n 0, 1) := qd_p qo_42 (by decide +kernel)
theorem dX0_post_1 : decode cX0_post 1 = .ok (.iload_n 1, 1) := qd_p qo_27 (by decide +kernel)
theorem dX0_post_2 : decode cX0_post 2 = .ok (.invokevirtual 54, 3) := qz_2 .invokevirtual 0 54 qo_182 (by decide +kernel) rfl
theorem dX0_post_5 : decode cX0_post 5 = .ok (.ifCond .eq 38, 3) := qz_s2 (.ifCond .eq) 0 38 qo_153 (by decide +kernel) rfl
theorem dX0_post_8 : decode cX0_post 8 = .ok (.iload_n 2, 1) := qd_p qo_28 (by decide +kernel)
theorem dX0_post_9 : decode cX0_post 9 = .ok (.invokestatic 58, 3) := qz_2 .invokestatic 0 58 qo_184 (by decide +kernel) rfl
theorem dX0_post_12 : decode cX0_post 12 = .ok (.ifCond .eq 31, 3) := qz_s2 (.ifCond .eq) 0 31 qo_153 (by decide +kernel) rfl
theorem dX0_post_15 : decode cX0_post 15 = .ok (.iload_n 3, 1) := qd_p qo_29 (by decide +kernel)
theorem dX0_post_16 : decode cX0_post 16 = .ok (.invokestatic 58, 3) := qz_2 .invokestatic 0 58 qo_184 (by decide +kernel) rfl
theorem dX0_post_19 : decode cX0_post 19 = .ok (.ifCond .eq 24, 3) := qz_s2 (.ifCond .eq) 0 24 qo_153 (by decide +kernel) rfl
theorem dX0_post_22 : decode cX0_post 22 = .ok (.iload_n 2, 1) := qd_p qo_28 (by decide +kernel)
theorem dX0_post_23 : decode cX0_post 23 = .ok (.iload_n 3, 1) := qd_p qo_29 (by decide +kernel)
theorem dX0_post_24 : decode cX0_post 24 = .ok (.if_icmp .gt 19, 3) := qz_s2 (.if_icmp .gt) 0 19 qo_163 (by decide +kernel) rfl
theorem dX0_post_27 : decode cX0_post 27 = .ok (.iload 4, 2) := qz_1 .iload 4 qo_21 (by decide +kernel)
theorem dX0_post_29 : decode cX0_post 29 = .ok (.bipush 9, 2) := qz_s1 .bipush 9 qo_16 (by decide +kernel) rfl
theorem dX0_post_31 : decode cX0_post 31 = .ok (.if_icmp .eq 14, 3) := qz_s2 (.if_icmp .eq) 0 14 qo_159 (by decide +kernel) rfl
theorem dX0_post_34 : decode cX0_post 34 = .ok (.aload_n 0, 1) := qd_p qo_42 (by decide +kernel)
theorem dX0_post_35 : decode cX0_post 35 = .ok (.iload 4, 2) := qz_1 .iload 4 qo_21 (by decide +kernel)
theorem dX0_post_37 : decode cX0_post 37 = .ok (.invokevirtual 61, 3) := qz_2 .invokevirtual 0 61 qo_182 (by decide +kernel) rfl
theorem dX0_post_40 : decode cX0_post 40 = .ok (.ifCond .ne 5, 3) := qz_s2 (.ifCond .ne) 0 5 qo_154 (by decide +kernel) rfl
theorem dX0_post_43 : decode cX0_post 43 = .ok (.iconst 0, 1) := qd_p qo_3 (by decide +kernel)
theorem dX0_post_44 : decode cX0_post 44 = .ok (.ireturn, 1) := qd_p qo_172 (by decide +kernel)
theorem dX0_post_45 : decode cX0_post 45 = .ok (.iload_n 2, 1) := qd_p qo_28 (by decide +kernel)
theorem dX0_post_46 : decode cX0_post 46 = .ok (.istore 5, 2) := qz_1 .istore 5 qo_54 (by decide +kernel)
theorem dX0_post_48 : decode cX0_post 48 = .ok (.iload 5, 2) := qz_1 .iload 5 qo_21 (by decide +kernel)
theorem dX0_post_50 : decode cX0_post 50 = .ok (.iload_n 3, 1) := qd_p qo_29 (by decide +kernel)
theorem dX0_post_51 : decode cX0_post 51 = .ok (.if_icmp .gt 20, 3) := qz_s2 (.if_icmp .gt) 0 20 qo_163 (by decide +kernel) rfl
theorem dX0_post_54 : decode cX0_post 54 = .ok (.aload_n 0, 1) := qd_p qo_42 (by decide +kernel)
theorem dX0_post_55 : decode cX0_post 55 = .ok (.getfield 30, 3) := qz_2 .getfield 0 30 qo_180 (by decide +kernel) rfl
theorem dX0_post_58 : decode cX0_post 58 = .ok (.iload_n 1, 1) := qd_p qo_27 (by decide +kernel)
theorem dX0_post_59 : decode cX0_post 59 = .ok (.aaload, 1) := qd_p qo_50 (by decide +kernel)
theorem dX0_post_60 : decode cX0_post 60 = .ok (.iload 5, 2) := qz_1 .iload 5 qo_21 (by decide +kernel)
theorem dX0_post_62 : decode cX0_post 62 = .ok (.iload 4, 2) := qz_1 .iload 4 qo_21 (by decide +kernel)
theorem dX0_post_64 : decode cX0_post 64 = .ok (.iastore, 1) := qd_p qo_79 (by decide +kernel)
theorem dX0_post_65 : decode cX0_post 65 = .ok (.iinc 5 1, 3) := qd_i (x := 5) (y := 1) qo_132 (by decide +kernel) rfl
theorem dX0_post_68 : decode cX0_post 68 = .ok (.goto (-20), 3) := qz_s2 .goto 255 236 qo_167 (by decide +kernel) rfl
theorem dX0_post_71 : decode cX0_post 71 = .ok (.iconst 1, 1) := qd_p qo_4 (by decide +kernel)
theorem dX0_post_72 : decode cX0_post 72 = .ok (.ireturn, 1) := qd_p qo_172 (by decide +kernel)
theorem dX0_flip_0 : decode cX0_flip 0 = .ok (.aload_n 0, 1) := qd_p qo_42 (by decide +kernel)
theorem dX0_flip_1 : decode cX0_flip 1 = .ok (.iload_n 1, 1) := qd_p qo_27 (by decide +kernel)
theorem dX0_flip_2 : decode cX0_flip 2 = .ok (.invokevirtual 61, 3) := qz_2 .invokevirtual 0 61 qo_182 (by decide +kernel) rfl
theorem dX0_flip_5 : decode cX0_flip 5 = .ok (.ifCond .eq 10, 3) := qz_s2 (.ifCond .eq) 0 10 qo_153 (by decide +kernel) rfl
theorem dX0_flip_8 : decode cX0_flip 8 = .ok (.iload_n 2, 1) := qd_p qo_28 (by decide +kernel)
theorem dX0_flip_9 : decode cX0_flip 9 = .ok (.invokestatic 64, 3) := qz_2 .invokestatic 0 64 qo_184 (by decide +kernel) rfl
theorem dX0_flip_12 : decode cX0_flip 12 = .ok (.ifCond .ne 5, 3) := qz_s2 (.ifCond .ne) 0 5 qo_154 (by decide +kernel) rfl
theorem dX0_flip_15 : decode cX0_flip 15 = .ok (.iconst 0, 1) := qd_p qo_3 (by decide +kernel)
theorem dX0_flip_16 : decode cX0_flip 16 = .ok (.ireturn, 1) := qd_p qo_172 (by decide +kernel)
theorem dX0_flip_17 : decode cX0_flip 17 = .ok (.aload_n 0, 1) := qd_p qo_42 (by decide +kernel)
theorem dX0_flip_18 : decode cX0_flip 18 = .ok (.getfield 15, 3) := qz_2 .getfield 0 15 qo_180 (by decide +kernel) rfl
theorem dX0_flip_21 : decode cX0_flip 21 = .ok (.iload_n 1, 1) := qd_p qo_27 (by decide +kernel)
theorem dX0_flip_22 : decode cX0_flip 22 = .ok (.dup2, 1) := qd_p qo_92 (by decide +kernel)
theorem dX0_flip_23 : decode cX0_flip 23 = .ok (.iaload, 1) := qd_p qo_46 (by decide +kernel)
theorem dX0_flip_24 : decode cX0_flip 24 = .ok (.iconst 1, 1) := qd_p qo_4 (by decide +kernel)
theorem dX0_flip_25 : decode cX0_flip 25 = .ok (.iload_n 2, 1) := qd_p qo_28 (by decide +kernel)
theorem dX0_flip_26 : decode cX0_flip 26 = .ok (.ishl, 1) := qd_p qo_120 (by decide +kernel)
theorem dX0_flip_27 : decode cX0_flip 27 = .ok (.ixor, 1) := qd_p qo_130 (by decide +kernel)
theorem dX0_flip_28 : decode cX0_flip 28 = .ok (.iastore, 1) := qd_p qo_79 (by decide +kernel)
theorem dX0_flip_29 : decode cX0_flip 29 = .ok (.iconst 1, 1) := qd_p qo_4 (by decide +kernel)
theorem dX0_flip_30 : decode cX0_flip 30 = .ok (.ireturn, 1) := qd_p qo_172 (by decide +kernel)
theorem dX0_price_0 : decode cX0_price 0 = .ok (.iload_n 1, 1) := qd_p qo_27 (by decide +kernel)
theorem dX0_price_1 : decode cX0_price 1 = .ok (.invokestatic 64, 3) := qz_2 .invokestatic 0 64 qo_184 (by decide +kernel) rfl
theorem dX0_price_4 : decode cX0_price 4 = .ok (.ifCond .eq 13, 3) := qz_s2 (.ifCond .eq) 0 13 qo_153 (by decide +kernel) rfl
theorem dX0_price_7 : decode cX0_price 7 = .ok (.iload_n 2, 1) := qd_p qo_28 (by decide +kernel)
theorem dX0_price_8 : decode cX0_price 8 = .ok (.ifCond .lt 9, 3) := qz_s2 (.ifCond .lt) 0 9 qo_155 (by decide +kernel) rfl
theorem dX0_price_11 : decode cX0_price 11 = .ok (.iload_n 2, 1) := qd_p qo_28 (by decide +kernel)
theorem dX0_price_12 : decode cX0_price 12 = .ok (.bipush 9, 2) := qz_s1 .bipush 9 qo_16 (by decide +kernel) rfl
theorem dX0_price_14 : decode cX0_price 14 = .ok (.if_icmp .le 5, 3) := qz_s2 (.if_icmp .le) 0 5 qo_164 (by decide +kernel) rfl
theorem dX0_price_17 : decode cX0_price 17 = .ok (.iconst 0, 1) := qd_p qo_3 (by decide +kernel)
theorem dX0_price_18 : decode cX0_price 18 = .ok (.ireturn, 1) := qd_p qo_172 (by decide +kernel)
theorem dX0_price_19 : decode cX0_price 19 = .ok (.aload_n 0, 1) := qd_p qo_42 (by decide +kernel)
theorem dX0_price_20 : decode cX0_price 20 = .ok (.getfield 36, 3) := qz_2 .getfield 0 36 qo_180 (by decide +kernel) rfl
theorem dX0_price_23 : decode cX0_price 23 = .ok (.iload_n 1, 1) := qd_p qo_27 (by decide +kernel)
theorem dX0_price_24 : decode cX0_price 24 = .ok (.iload_n 2, 1) := qd_p qo_28 (by decide +kernel)
theorem dX0_price_25 : decode cX0_price 25 = .ok (.iastore, 1) := qd_p qo_79 (by decide +kernel)
theorem dX0_price_26 : decode cX0_price 26 = .ok (.iconst 1, 1) := qd_p qo_4 (by decide +kernel)
theorem dX0_price_27 : decode cX0_price 27 = .ok (.ireturn, 1) := qd_p qo_172 (by decide +kernel)
theorem dX0_rule_0 : decode cX0_rule 0 = .ok (.iload_n 1, 1) := qd_p qo_27 (by decide +kernel)
theorem dX0_rule_1 : decode cX0_rule 1 = .ok (.ifCond .lt 8, 3) := qz_s2 (.ifCond .lt) 0 8 qo_155 (by decide +kernel) rfl
theorem dX0_rule_4 : decode cX0_rule 4 = .ok (.iload_n 1, 1) := qd_p qo_27 (by decide +kernel)
theorem dX0_rule_5 : decode cX0_rule 5 = .ok (.iconst 3, 1) := qd_p qo_6 (by decide +kernel)
theorem dX0_rule_6 : decode cX0_rule 6 = .ok (.if_icmp .lt 5, 3) := qz_s2 (.if_icmp .lt) 0 5 qo_161 (by decide +kernel) rfl
theorem dX0_rule_9 : decode cX0_rule 9 = .ok (.iconst 0, 1) := qd_p qo_3 (by decide +kernel)
theorem dX0_rule_10 : decode cX0_rule 10 = .ok (.ireturn, 1) := qd_p qo_172 (by decide +kernel)
theorem dX0_rule_11 : decode cX0_rule 11 = .ok (.aload_n 0, 1) := qd_p qo_42 (by decide +kernel)
theorem dX0_rule_12 : decode cX0_rule 12 = .ok (.iload_n 1, 1) := qd_p qo_27 (by decide +kernel)
theorem dX0_rule_13 : decode cX0_rule 13 = .ok (.putfield 39, 3) := qz_2 .putfield 0 39 qo_181 (by decide +kernel) rfl
theorem dX0_rule_16 : decode cX0_rule 16 = .ok (.iconst 1, 1) := qd_p qo_4 (by decide +kernel)
theorem dX0_rule_17 : decode cX0_rule 17 = .ok (.ireturn, 1) := qd_p qo_172 (by decide +kernel)
theorem dX0_shownBy_0 : decode cX0_shownBy 0 = .ok (.iconst 0, 1) := qd_p qo_3 (by decide +kernel)
theorem dX0_shownBy_1 : decode cX0_shownBy 1 = .ok (.istore_n 2, 1) := qd_p qo_61 (by decide +kernel)
theorem dX0_shownBy_2 : decode cX0_shownBy 2 = .ok (.iconst 0, 1) := qd_p qo_3 (by decide +kernel)
theorem dX0_shownBy_3 : decode cX0_shownBy 3 = .ok (.istore_n 3, 1) := qd_p qo_62 (by decide +kernel)
theorem dX0_shownBy_4 : decode cX0_shownBy 4 = .ok (.iload_n 3, 1) := qd_p qo_29 (by decide +kernel)
theorem dX0_shownBy_5 : decode cX0_shownBy 5 = .ok (.aload_n 0, 1) := qd_p qo_42 (by decide +kernel)
theorem dX0_shownBy_6 : decode cX0_shownBy 6 = .ok (.getfield 9, 3) := qz_2 .getfield 0 9 qo_180 (by decide +kernel) rfl
theorem dX0_shownBy_9 : decode cX0_shownBy 9 = .ok (.if_icmp .ge 27, 3) := qz_s2 (.if_icmp .ge) 0 27 qo_162 (by decide +kernel) rfl
theorem dX0_shownBy_12 : decode cX0_shownBy 12 = .ok (.iload_n 1, 1) := qd_p qo_27 (by decide +kernel)
theorem dX0_shownBy_13 : decode cX0_shownBy 13 = .ok (.iload_n 3, 1) := qd_p qo_29 (by decide +kernel)
theorem dX0_shownBy_14 : decode cX0_shownBy 14 = .ok (.ishr, 1) := qd_p qo_122 (by decide +kernel)
theorem dX0_shownBy_15 : decode cX0_shownBy 15 = .ok (.iconst 1, 1) := qd_p qo_4 (by decide +kernel)
theorem dX0_shownBy_16 : decode cX0_shownBy 16 = .ok (.iand, 1) := qd_p qo_126 (by decide +kernel)
theorem dX0_shownBy_17 : decode cX0_shownBy 17 = .ok (.iconst 1, 1) := qd_p qo_4 (by decide +kernel)
theorem dX0_shownBy_18 : decode cX0_shownBy 18 = .ok (.if_icmp .ne 12, 3) := qz_s2 (.if_icmp .ne) 0 12 qo_160 (by decide +kernel) rfl
theorem dX0_shownBy_21 : decode cX0_shownBy 21 = .ok (.iload_n 2, 1) := qd_p qo_28 (by decide +kernel)
theorem dX0_shownBy_22 : decode cX0_shownBy 22 = .ok (.aload_n 0, 1) := qd_p qo_42 (by decide +kernel)
theorem dX0_shownBy_23 : decode cX0_shownBy 23 = .ok (.getfield 15, 3) := qz_2 .getfield 0 15 qo_180 (by decide +kernel) rfl
theorem dX0_shownBy_26 : decode cX0_shownBy 26 = .ok (.iload_n 3, 1) := qd_p qo_29 (by decide +kernel)
theorem dX0_shownBy_27 : decode cX0_shownBy 27 = .ok (.iaload, 1) := qd_p qo_46 (by decide +kernel)
theorem dX0_shownBy_28 : decode cX0_shownBy 28 = .ok (.ior, 1) := qd_p qo_128 (by decide +kernel)
theorem dX0_shownBy_29 : decode cX0_shownBy 29 = .ok (.istore_n 2, 1) := qd_p qo_61 (by decide +kernel)
theorem dX0_shownBy_30 : decode cX0_shownBy 30 = .ok (.iinc 3 1, 3) := qd_i (x := 3) (y := 1) qo_132 (by decide +kernel) rfl
theorem dX0_shownBy_33 : decode cX0_shownBy 33 = .ok (.goto (-29), 3) := qz_s2 .goto 255 227 qo_167 (by decide +kernel) rfl
theorem dX0_shownBy_36 : decode cX0_shownBy 36 = .ok (.iload_n 2, 1) := qd_p qo_28 (by decide +kernel)
theorem dX0_shownBy_37 : decode cX0_shownBy 37 = .ok (.ireturn, 1) := qd_p qo_172 (by decide +kernel)
theorem dX0_allShown_0 : decode cX0_allShown 0 = .ok (.aload_n 0, 1) := qd_p qo_42 (by decide +kernel)
theorem dX0_allShown_1 : decode cX0_allShown 1 = .ok (.iconst 1, 1) := qd_p qo_4 (by decide +kernel)
theorem dX0_allShown_2 : decode cX0_allShown 2 = .ok (.aload_n 0, 1) := qd_p qo_42 (by decide +kernel)
theorem dX0_allShown_3 : decode cX0_allShown 3 = .ok (.getfield 9, 3) := qz_2 .getfield 0 9 qo_180 (by decide +kernel) rfl
theorem dX0_allShown_6 : decode cX0_allShown 6 = .ok (.ishl, 1) := qd_p qo_120 (by decide +kernel)
theorem dX0_allShown_7 : decode cX0_allShown 7 = .ok (.iconst 1, 1) := qd_p qo_4 (by decide +kernel)
theorem dX0_allShown_8 : decode cX0_allShown 8 = .ok (.isub, 1) := qd_p qo_100 (by decide +kernel)
theorem dX0_allShown_9 : decode cX0_allShown 9 = .ok (.invokevirtual 74, 3) := qz_2 .invokevirtual 0 74 qo_182 (by decide +kernel) rfl
theorem dX0_allShown_12 : decode cX0_allShown 12 = .ok (.ireturn, 1) := qd_p qo_172 (by decide +kernel)
theorem dX0_invalidsPull_0 : decode cX0_invalidsPull 0 = .ok (.iload_n 0, 1) := qd_p qo_26 (by decide +kernel)
theorem dX0_invalidsPull_1 : decode cX0_invalidsPull 1 = .ok (.bipush 6, 2) := qz_s1 .bipush 6 qo_16 (by decide +kernel) rfl
theorem dX0_invalidsPull_3 : decode cX0_invalidsPull 3 = .ok (.if_icmp .lt 13, 3) := qz_s2 (.if_icmp .lt) 0 13 qo_161 (by decide +kernel) rfl
theorem dX0_invalidsPull_6 : decode cX0_invalidsPull 6 = .ok (.iload_n 0, 1) := qd_p qo_26 (by decide +kernel)
theorem dX0_invalidsPull_7 : decode cX0_invalidsPull 7 = .ok (.bipush 17, 2) := qz_s1 .bipush 17 qo_16 (by decide +kernel) rfl
theorem dX0_invalidsPull_9 : decode cX0_invalidsPull 9 = .ok (.if_icmp .gt 7, 3) := qz_s2 (.if_icmp .gt) 0 7 qo_163 (by decide +kernel) rfl
theorem dX0_invalidsPull_12 : decode cX0_invalidsPull 12 = .ok (.iconst 2, 1) := qd_p qo_5 (by decide +kernel)
theorem dX0_invalidsPull_13 : decode cX0_invalidsPull 13 = .ok (.goto 4, 3) := qz_s2 .goto 0 4 qo_167 (by decide +kernel) rfl
theorem dX0_invalidsPull_16 : decode cX0_invalidsPull 16 = .ok (.iconst 1, 1) := qd_p qo_4 (by decide +kernel)
theorem dX0_invalidsPull_17 : decode cX0_invalidsPull 17 = .ok (.ireturn, 1) := qd_p qo_172 (by decide +kernel)
theorem dX0_pull_0 : decode cX0_pull 0 = .ok (.aload_n 0, 1) := qd_p qo_42 (by decide +kernel)
theorem dX0_pull_1 : decode cX0_pull 1 = .ok (.getfield 25, 3) := qz_2 .getfield 0 25 qo_180 (by decide +kernel) rfl
theorem dX0_pull_4 : decode cX0_pull 4 = .ok (.iload_n 1, 1) := qd_p qo_27 (by decide +kernel)
theorem dX0_pull_5 : decode cX0_pull 5 = .ok (.iaload, 1) := qd_p qo_46 (by decide +kernel)
theorem dX0_pull_6 : decode cX0_pull 6 = .ok (.istore_n 3, 1) := qd_p qo_62 (by decide +kernel)
theorem dX0_pull_7 : decode cX0_pull 7 = .ok (.aload_n 0, 1) := qd_p qo_42 (by decide +kernel)
theorem dX0_pull_8 : decode cX0_pull 8 = .ok (.getfield 22, 3) := qz_2 .getfield 0 22 qo_180 (by decide +kernel) rfl
theorem dX0_pull_11 : decode cX0_pull 11 = .ok (.iload_n 1, 1) := qd_p qo_27 (by decide +kernel)
theorem dX0_pull_12 : decode cX0_pull 12 = .ok (.iaload, 1) := qd_p qo_46 (by decide +kernel)
theorem dX0_pull_13 : decode cX0_pull 13 = .ok (.tableswitch 102 0 5 #[39, 41, 46, 60, 72, 81], 39) := by decide +kernel
theorem dX0_pull_52 : decode cX0_pull 52 = .ok (.iconst 1, 1) := qd_p qo_4 (by decide +kernel)
theorem dX0_pull_53 : decode cX0_pull 53 = .ok (.ireturn, 1) := qd_p qo_172 (by decide +kernel)
theorem dX0_pull_54 : decode cX0_pull 54 = .ok (.iload_n 2, 1) := qd_p qo_28 (by decide +kernel)
theorem dX0_pull_55 : decode cX0_pull 55 = .ok (.invokestatic 85, 3) := qz_2 .invokestatic 0 85 qo_184 (by decide +kernel) rfl
theorem dX0_pull_58 : decode cX0_pull 58 = .ok (.ireturn, 1) := qd_p qo_172 (by decide +kernel)
theorem dX0_pull_59 : decode cX0_pull 59 = .ok (.iload_n 2, 1) := qd_p qo_28 (by decide +kernel)
theorem dX0_pull_60 : decode cX0_pull 60 = .ok (.iload_n 3, 1) := qd_p qo_29 (by decide +kernel)
theorem dX0_pull_61 : decode cX0_pull 61 = .ok (.bipush 8, 2) := qz_s1 .bipush 8 qo_16 (by decide +kernel) rfl
theorem dX0_pull_63 : decode cX0_pull 63 = .ok (.iadd, 1) := qd_p qo_96 (by decide +kernel)
theorem dX0_pull_64 : decode cX0_pull 64 = .ok (.if_icmp .ne 7, 3) := qz_s2 (.if_icmp .ne) 0 7 qo_160 (by decide +kernel) rfl
theorem dX0_pull_67 : decode cX0_pull 67 = .ok (.iconst 5, 1) := qd_p qo_8 (by decide +kernel)
theorem dX0_pull_68 : decode cX0_pull 68 = .ok (.goto 4, 3) := qz_s2 .goto 0 4 qo_167 (by decide +kernel) rfl
theorem dX0_pull_71 : decode cX0_pull 71 = .ok (.iconst 0, 1) := qd_p qo_3 (by decide +kernel)
theorem dX0_pull_72 : decode cX0_pull 72 = .ok (.ireturn, 1) := qd_p qo_172 (by decide +kernel)
theorem dX0_pull_73 : decode cX0_pull 73 = .ok (.iload_n 2, 1) := qd_p qo_28 (by decide +kernel)
theorem dX0_pull_74 : decode cX0_pull 74 = .ok (.iconst 2, 1) := qd_p qo_5 (by decide +kernel)
theorem dX0_pull_75 : decode cX0_pull 75 = .ok (.irem, 1) := qd_p qo_112 (by decide +kernel)
theorem dX0_pull_76 : decode cX0_pull 76 = .ok (.ifCond .ne 7, 3) := qz_s2 (.ifCond .ne) 0 7 qo_154 (by decide +kernel) rfl
theorem dX0_pull_79 : decode cX0_pull 79 = .ok (.iconst 1, 1) := qd_p qo_4 (by decide +kernel)
theorem dX0_pull_80 : decode cX0_pull 80 = .ok (.goto 4, 3) := qz_s2 .goto 0 4 qo_167 (by decide +kernel) rfl
theorem dX0_pull_83 : decode cX0_pull 83 = .ok (.iconst 0, 1) := qd_p qo_3 (by decide +kernel)
theorem dX0_pull_84 : decode cX0_pull 84 = .ok (.ireturn, 1) := qd_p qo_172 (by decide +kernel)
theorem dX0_pull_85 : decode cX0_pull 85 = .ok (.iload_n 3, 1) := qd_p qo_29 (by decide +kernel)
theorem dX0_pull_86 : decode cX0_pull 86 = .ok (.iconst 3, 1) := qd_p qo_6 (by decide +kernel)
theorem dX0_pull_87 : decode cX0_pull 87 = .ok (.idiv, 1) := qd_p qo_108 (by decide +kernel)
theorem dX0_pull_88 : decode cX0_pull 88 = .ok (.iload_n 2, 1) := qd_p qo_28 (by decide +kernel)
theorem dX0_pull_89 : decode cX0_pull 89 = .ok (.invokestatic 85, 3) := qz_2 .invokestatic 0 85 qo_184 (by decide +kernel) rfl
theorem dX0_pull_92 : decode cX0_pull 92 = .ok (.iadd, 1) := qd_p qo_96 (by decide +kernel)
theorem dX0_pull_93 : decode cX0_pull 93 = .ok (.ireturn, 1) := qd_p qo_172 (by decide +kernel)
theorem dX0_pull_94 : decode cX0_pull 94 = .ok (.iload_n 3, 1) := qd_p qo_29 (by decide +kernel)
theorem dX0_pull_95 : decode cX0_pull 95 = .ok (.iconst 3, 1) := qd_p qo_6 (by decide +kernel)
theorem dX0_pull_96 : decode cX0_pull 96 = .ok (.idiv, 1) := qd_p qo_108 (by decide +kernel)
theorem dX0_pull_97 : decode cX0_pull 97 = .ok (.iload_n 2, 1) := qd_p qo_28 (by decide +kernel)
theorem dX0_pull_98 : decode cX0_pull 98 = .ok (.invokestatic 85, 3) := qz_2 .invokestatic 0 85 qo_184 (by decide +kernel) rfl
theorem dX0_pull_101 : decode cX0_pull 101 = .ok (.iadd, 1) := qd_p qo_96 (by decide +kernel)
theorem dX0_pull_102 : decode cX0_pull 102 = .ok (.iload_n 2, 1) := qd_p qo_28 (by decide +kernel)
theorem dX0_pull_103 : decode cX0_pull 103 = .ok (.bipush 20, 2) := qz_s1 .bipush 20 qo_16 (by decide +kernel) rfl
theorem dX0_pull_105 : decode cX0_pull 105 = .ok (.if_icmp .lt 7, 3) := qz_s2 (.if_icmp .lt) 0 7 qo_161 (by decide +kernel) rfl
theorem dX0_pull_108 : decode cX0_pull 108 = .ok (.iconst 2, 1) := qd_p qo_5 (by decide +kernel)
theorem dX0_pull_109 : decode cX0_pull 109 = .ok (.goto 4, 3) := qz_s2 .goto 0 4 qo_167 (by decide +kernel) rfl
theorem dX0_pull_112 : decode cX0_pull 112 = .ok (.iconst 1, 1) := qd_p qo_4 (by decide +kernel)
theorem dX0_pull_113 : decode cX0_pull 113 = .ok (.imul, 1) := qd_p qo_104 (by decide +kernel)
theorem dX0_pull_114 : decode cX0_pull 114 = .ok (.ireturn, 1) := qd_p qo_172 (by decide +kernel)
theorem dX0_pull_115 : decode cX0_pull 115 = .ok (.iconst 0, 1) := qd_p qo_3 (by decide +kernel)
theorem dX0_pull_116 : decode cX0_pull 116 = .ok (.ireturn, 1) := qd_p qo_172 (by decide +kernel)
theorem dX0_sight_0 : decode cX0_sight 0 = .ok (.aload_n 0, 1) := qd_p qo_42 (by decide +kernel)
theorem dX0_sight_1 : decode cX0_sight 1 = .ok (.getfield 22, 3) := qz_2 .getfield 0 22 qo_180 (by decide +kernel) rfl
theorem dX0_sight_4 : decode cX0_sight 4 = .ok (.iload_n 1, 1) := qd_p qo_27 (by decide +kernel)
theorem dX0_sight_5 : decode cX0_sight 5 = .ok (.iaload, 1) := qd_p qo_46 (by decide +kernel)
theorem dX0_sight_6 : decode cX0_sight 6 = .ok (.iconst 2, 1) := qd_p qo_5 (by decide +kernel)
theorem dX0_sight_7 : decode cX0_sight 7 = .ok (.if_icmp .ne 5, 3) := qz_s2 (.if_icmp .ne) 0 5 qo_160 (by decide +kernel) rfl
theorem dX0_sight_10 : decode cX0_sight 10 = .ok (.iload_n 3, 1) := qd_p qo_29 (by decide +kernel)
theorem dX0_sight_11 : decode cX0_sight 11 = .ok (.ireturn, 1) := qd_p qo_172 (by decide +kernel)
theorem dX0_sight_12 : decode cX0_sight 12 = .ok (.aload_n 0, 1) := qd_p qo_42 (by decide +kernel)
theorem dX0_sight_13 : decode cX0_sight 13 = .ok (.getfield 30, 3) := qz_2 .getfield 0 30 qo_180 (by decide +kernel) rfl
theorem dX0_sight_16 : decode cX0_sight 16 = .ok (.iload_n 1, 1) := qd_p qo_27 (by decide +kernel)
theorem dX0_sight_17 : decode cX0_sight 17 = .ok (.aaload, 1) := qd_p qo_50 (by decide +kernel)
theorem dX0_sight_18 : decode cX0_sight 18 = .ok (.iload_n 2, 1) := qd_p qo_28 (by decide +kernel)
theorem dX0_sight_19 : decode cX0_sight 19 = .ok (.iaload, 1) := qd_p qo_46 (by decide +kernel)
theorem dX0_sight_20 : decode cX0_sight 20 = .ok (.istore 4, 2) := qz_1 .istore 4 qo_54 (by decide +kernel)
theorem dX0_sight_22 : decode cX0_sight 22 = .ok (.aload_n 0, 1) := qd_p qo_42 (by decide +kernel)
theorem dX0_sight_23 : decode cX0_sight 23 = .ok (.iload 4, 2) := qz_1 .iload 4 qo_21 (by decide +kernel)
theorem dX0_sight_25 : decode cX0_sight 25 = .ok (.invokevirtual 61, 3) := qz_2 .invokevirtual 0 61 qo_182 (by decide +kernel) rfl
theorem dX0_sight_28 : decode cX0_sight 28 = .ok (.ifCond .eq 13, 3) := qz_s2 (.ifCond .eq) 0 13 qo_153 (by decide +kernel) rfl
theorem dX0_sight_31 : decode cX0_sight 31 = .ok (.aload_n 0, 1) := qd_p qo_42 (by decide +kernel)
theorem dX0_sight_32 : decode cX0_sight 32 = .ok (.getfield 15, 3) := qz_2 .getfield 0 15 qo_180 (by decide +kernel) rfl
theorem dX0_sight_35 : decode cX0_sight 35 = .ok (.iload 4, 2) := qz_1 .iload 4 qo_21 (by decide +kernel)
theorem dX0_sight_37 : decode cX0_sight 37 = .ok (.iaload, 1) := qd_p qo_46 (by decide +kernel)
theorem dX0_sight_38 : decode cX0_sight 38 = .ok (.goto 4, 3) := qz_s2 .goto 0 4 qo_167 (by decide +kernel) rfl
theorem dX0_sight_41 : decode cX0_sight 41 = .ok (.iconst 0, 1) := qd_p qo_3 (by decide +kernel)
theorem dX0_sight_42 : decode cX0_sight 42 = .ok (.ireturn, 1) := qd_p qo_172 (by decide +kernel)
theorem dX0_gain_0 : decode cX0_gain 0 = .ok (.iconst 0, 1) := qd_p qo_3 (by decide +kernel)
theorem dX0_gain_1 : decode cX0_gain 1 = .ok (.istore 4, 2) := qz_1 .istore 4 qo_54 (by decide +kernel)
theorem dX0_gain_3 : decode cX0_gain 3 = .ok (.iload 4, 2) := qz_1 .iload 4 qo_21 (by decide +kernel)
theorem dX0_gain_5 : decode cX0_gain 5 = .ok (.bipush 8, 2) := qz_s1 .bipush 8 qo_16 (by decide +kernel) rfl
theorem dX0_gain_7 : decode cX0_gain 7 = .ok (.if_icmp .ge 32, 3) := qz_s2 (.if_icmp .ge) 0 32 qo_162 (by decide +kernel) rfl
theorem dX0_gain_10 : decode cX0_gain 10 = .ok (.iload_n 2, 1) := qd_p qo_28 (by decide +kernel)
theorem dX0_gain_11 : decode cX0_gain 11 = .ok (.iload 4, 2) := qz_1 .iload 4 qo_21 (by decide +kernel)
theorem dX0_gain_13 : decode cX0_gain 13 = .ok (.ishr, 1) := qd_p qo_122 (by decide +kernel)
theorem dX0_gain_14 : decode cX0_gain 14 = .ok (.iconst 1, 1) := qd_p qo_4 (by decide +kernel)
theorem dX0_gain_15 : decode cX0_gain 15 = .ok (.iand, 1) := qd_p qo_126 (by decide +kernel)
theorem dX0_gain_16 : decode cX0_gain 16 = .ok (.iconst 1, 1) := qd_p qo_4 (by decide +kernel)
theorem dX0_gain_17 : decode cX0_gain 17 = .ok (.if_icmp .ne 16, 3) := qz_s2 (.if_icmp .ne) 0 16 qo_160 (by decide +kernel) rfl
theorem dX0_gain_20 : decode cX0_gain 20 = .ok (.aload_n 0, 1) := qd_p qo_42 (by decide +kernel)
theorem dX0_gain_21 : decode cX0_gain 21 = .ok (.getfield 45, 3) := qz_2 .getfield 0 45 qo_180 (by decide +kernel) rfl
theorem dX0_gain_24 : decode cX0_gain 24 = .ok (.iload_n 1, 1) := qd_p qo_27 (by decide +kernel)
theorem dX0_gain_25 : decode cX0_gain 25 = .ok (.aaload, 1) := qd_p qo_50 (by decide +kernel)
theorem dX0_gain_26 : decode cX0_gain 26 = .ok (.iload 4, 2) := qz_1 .iload 4 qo_21 (by decide +kernel)
theorem dX0_gain_28 : decode cX0_gain 28 = .ok (.dup2, 1) := qd_p qo_92 (by decide +kernel)
theorem dX0_gain_29 : decode cX0_gain 29 = .ok (.iaload, 1) := qd_p qo_46 (by decide +kernel)
theorem dX0_gain_30 : decode cX0_gain 30 = .ok (.iload_n 3, 1) := qd_p qo_29 (by decide +kernel)
theorem dX0_gain_31 : decode cX0_gain 31 = .ok (.iadd, 1) := qd_p qo_96 (by decide +kernel)
theorem dX0_gain_32 : decode cX0_gain 32 = .ok (.iastore, 1) := qd_p qo_79 (by decide +kernel)
theorem dX0_gain_33 : decode cX0_gain 33 = .ok (.iinc 4 1, 3) := qd_i (x := 4) (y := 1) qo_132 (by decide +kernel) rfl
theorem dX0_gain_36 : decode cX0_gain 36 = .ok (.goto (-33), 3) := qz_s2 .goto 255 223 qo_167 (by decide +kernel) rfl
theorem dX0_gain_39 : decode cX0_gain 39 = .ok (.return_, 1) := qd_p qo_177 (by decide +kernel)
theorem dX0_reckon_0 : decode cX0_reckon 0 = .ok (.aload_n 0, 1) := qd_p qo_42 (by decide +kernel)
theorem dX0_reckon_1 : decode cX0_reckon 1 = .ok (.invokevirtual 88, 3) := qz_2 .invokevirtual 0 88 qo_182 (by decide +kernel) rfl
theorem dX0_reckon_4 : decode cX0_reckon 4 = .ok (.istore_n 1, 1) := qd_p qo_60 (by decide +kernel)
theorem dX0_reckon_5 : decode cX0_reckon 5 = .ok (.iconst 0, 1) := qd_p qo_3 (by decide +kernel)
theorem dX0_reckon_6 : decode cX0_reckon 6 = .ok (.istore_n 2, 1) := qd_p qo_61 (by decide +kernel)
theorem dX0_reckon_7 : decode cX0_reckon 7 = .ok (.iload_n 2, 1) := qd_p qo_28 (by decide +kernel)
theorem dX0_reckon_8 : decode cX0_reckon 8 = .ok (.aload_n 0, 1) := qd_p qo_42 (by decide +kernel)
theorem dX0_reckon_9 : decode cX0_reckon 9 = .ok (.getfield 19, 3) := qz_2 .getfield 0 19 qo_180 (by decide +kernel) rfl
theorem dX0_reckon_12 : decode cX0_reckon 12 = .ok (.if_icmp .ge 73, 3) := qz_s2 (.if_icmp .ge) 0 73 qo_162 (by decide +kernel) rfl
theorem dX0_reckon_15 : decode cX0_reckon 15 = .ok (.iconst 0, 1) := qd_p qo_3 (by decide +kernel)
theorem dX0_reckon_16 : decode cX0_reckon 16 = .ok (.istore_n 3, 1) := qd_p qo_62 (by decide +kernel)
theorem dX0_reckon_17 : decode cX0_reckon 17 = .ok (.iload_n 3, 1) := qd_p qo_29 (by decide +kernel)
theorem dX0_reckon_18 : decode cX0_reckon 18 = .ok (.bipush 8, 2) := qz_s1 .bipush 8 qo_16 (by decide +kernel) rfl
theorem dX0_reckon_20 : decode cX0_reckon 20 = .ok (.if_icmp .ge 18, 3) := qz_s2 (.if_icmp .ge) 0 18 qo_162 (by decide +kernel) rfl
theorem dX0_reckon_23 : decode cX0_reckon 23 = .ok (.aload_n 0, 1) := qd_p qo_42 (by decide +kernel)
theorem dX0_reckon_24 : decode cX0_reckon 24 = .ok (.getfield 45, 3) := qz_2 .getfield 0 45 qo_180 (by decide +kernel) rfl
theorem dX0_reckon_27 : decode cX0_reckon 27 = .ok (.iload_n 2, 1) := qd_p qo_28 (by decide +kernel)
theorem dX0_reckon_28 : decode cX0_reckon 28 = .ok (.aaload, 1) := qd_p qo_50 (by decide +kernel)
theorem dX0_reckon_29 : decode cX0_reckon 29 = .ok (.iload_n 3, 1) := qd_p qo_29 (by decide +kernel)
theorem dX0_reckon_30 : decode cX0_reckon 30 = .ok (.iconst 0, 1) := qd_p qo_3 (by decide +kernel)
theorem dX0_reckon_31 : decode cX0_reckon 31 = .ok (.iastore, 1) := qd_p qo_79 (by decide +kernel)
theorem dX0_reckon_32 : decode cX0_reckon 32 = .ok (.iinc 3 1, 3) := qd_i (x := 3) (y := 1) qo_132 (by decide +kernel) rfl
theorem dX0_reckon_35 : decode cX0_reckon 35 = .ok (.goto (-18), 3) := qz_s2 .goto 255 238 qo_167 (by decide +kernel) rfl
theorem dX0_reckon_38 : decode cX0_reckon 38 = .ok (.iconst 0, 1) := qd_p qo_3 (by decide +kernel)
theorem dX0_reckon_39 : decode cX0_reckon 39 = .ok (.istore_n 3, 1) := qd_p qo_62 (by decide +kernel)
theorem dX0_reckon_40 : decode cX0_reckon 40 = .ok (.iload_n 3, 1) := qd_p qo_29 (by decide +kernel)
theorem dX0_reckon_41 : decode cX0_reckon 41 = .ok (.bipush 24, 2) := qz_s1 .bipush 24 qo_16 (by decide +kernel) rfl
theorem dX0_reckon_43 : decode cX0_reckon 43 = .ok (.if_icmp .ge 36, 3) := qz_s2 (.if_icmp .ge) 0 36 qo_162 (by decide +kernel) rfl
theorem dX0_reckon_46 : decode cX0_reckon 46 = .ok (.aload_n 0, 1) := qd_p qo_42 (by decide +kernel)
theorem dX0_reckon_47 : decode cX0_reckon 47 = .ok (.iload_n 2, 1) := qd_p qo_28 (by decide +kernel)
theorem dX0_reckon_48 : decode cX0_reckon 48 = .ok (.iload_n 3, 1) := qd_p qo_29 (by decide +kernel)
theorem dX0_reckon_49 : decode cX0_reckon 49 = .ok (.invokevirtual 92, 3) := qz_2 .invokevirtual 0 92 qo_182 (by decide +kernel) rfl
theorem dX0_reckon_52 : decode cX0_reckon 52 = .ok (.istore 4, 2) := qz_1 .istore 4 qo_54 (by decide +kernel)
theorem dX0_reckon_54 : decode cX0_reckon 54 = .ok (.iload 4, 2) := qz_1 .iload 4 qo_21 (by decide +kernel)
theorem dX0_reckon_56 : decode cX0_reckon 56 = .ok (.ifCond .le 17, 3) := qz_s2 (.ifCond .le) 0 17 qo_158 (by decide +kernel) rfl
theorem dX0_reckon_59 : decode cX0_reckon 59 = .ok (.aload_n 0, 1) := qd_p qo_42 (by decide +kernel)
theorem dX0_reckon_60 : decode cX0_reckon 60 = .ok (.iload_n 2, 1) := qd_p qo_28 (by decide +kernel)
theorem dX0_reckon_61 : decode cX0_reckon 61 = .ok (.aload_n 0, 1) := qd_p qo_42 (by decide +kernel)
theorem dX0_reckon_62 : decode cX0_reckon 62 = .ok (.iload_n 2, 1) := qd_p qo_28 (by decide +kernel)
theorem dX0_reckon_63 : decode cX0_reckon 63 = .ok (.iload_n 3, 1) := qd_p qo_29 (by decide +kernel)
theorem dX0_reckon_64 : decode cX0_reckon 64 = .ok (.iload_n 1, 1) := qd_p qo_27 (by decide +kernel)
theorem dX0_reckon_65 : decode cX0_reckon 65 = .ok (.invokevirtual 96, 3) := qz_2 .invokevirtual 0 96 qo_182 (by decide +kernel) rfl
theorem dX0_reckon_68 : decode cX0_reckon 68 = .ok (.iload 4, 2) := qz_1 .iload 4 qo_21 (by decide +kernel)
theorem dX0_reckon_70 : decode cX0_reckon 70 = .ok (.invokevirtual 99, 3) := qz_2 .invokevirtual 0 99 qo_182 (by decide +kernel) rfl
theorem dX0_reckon_73 : decode cX0_reckon 73 = .ok (.iinc 3 1, 3) := qd_i (x := 3) (y := 1) qo_132 (by decide +kernel) rfl
theorem dX0_reckon_76 : decode cX0_reckon 76 = .ok (.goto (-36), 3) := qz_s2 .goto 255 220 qo_167 (by decide +kernel) rfl
theorem dX0_reckon_79 : decode cX0_reckon 79 = .ok (.iinc 2 1, 3) := qd_i (x := 2) (y := 1) qo_132 (by decide +kernel) rfl
theorem dX0_reckon_82 : decode cX0_reckon 82 = .ok (.goto (-75), 3) := qz_s2 .goto 255 181 qo_167 (by decide +kernel) rfl
theorem dX0_reckon_85 : decode cX0_reckon 85 = .ok (.return_, 1) := qd_p qo_177 (by decide +kernel)
theorem dX0_behind_0 : decode cX0_behind 0 = .ok (.ldc 103, 2) := qz_1 .ldc 103 qo_18 (by decide +kernel)
theorem dX0_behind_2 : decode cX0_behind 2 = .ok (.aload_n 0, 1) := qd_p qo_42 (by decide +kernel)
theorem dX0_behind_3 : decode cX0_behind 3 = .ok (.getfield 33, 3) := qz_2 .getfield 0 33 qo_180 (by decide +kernel) rfl
theorem dX0_behind_6 : decode cX0_behind 6 = .ok (.iload_n 1, 1) := qd_p qo_27 (by decide +kernel)
theorem dX0_behind_7 : decode cX0_behind 7 = .ok (.aaload, 1) := qd_p qo_50 (by decide +kernel)
theorem dX0_behind_8 : decode cX0_behind 8 = .ok (.iload_n 2, 1) := qd_p qo_28 (by decide +kernel)
theorem dX0_behind_9 : decode cX0_behind 9 = .ok (.iaload, 1) := qd_p qo_46 (by decide +kernel)
theorem dX0_behind_10 : decode cX0_behind 10 = .ok (.iload_n 3, 1) := qd_p qo_29 (by decide +kernel)
theorem dX0_behind_11 : decode cX0_behind 11 = .ok (.aload_n 0, 1) := qd_p qo_42 (by decide +kernel)
theorem dX0_behind_12 : decode cX0_behind 12 = .ok (.getfield 45, 3) := qz_2 .getfield 0 45 qo_180 (by decide +kernel) rfl
theorem dX0_behind_15 : decode cX0_behind 15 = .ok (.iload_n 1, 1) := qd_p qo_27 (by decide +kernel)
theorem dX0_behind_16 : decode cX0_behind 16 = .ok (.aaload, 1) := qd_p qo_50 (by decide +kernel)
theorem dX0_behind_17 : decode cX0_behind 17 = .ok (.iload_n 2, 1) := qd_p qo_28 (by decide +kernel)
theorem dX0_behind_18 : decode cX0_behind 18 = .ok (.iaload, 1) := qd_p qo_46 (by decide +kernel)
theorem dX0_behind_19 : decode cX0_behind 19 = .ok (.imul, 1) := qd_p qo_104 (by decide +kernel)
theorem dX0_behind_20 : decode cX0_behind 20 = .ok (.iadd, 1) := qd_p qo_96 (by decide +kernel)
theorem dX0_behind_21 : decode cX0_behind 21 = .ok (.invokestatic 104, 3) := qz_2 .invokestatic 0 104 qo_184 (by decide +kernel) rfl
theorem dX0_behind_24 : decode cX0_behind 24 = .ok (.ireturn, 1) := qd_p qo_172 (by decide +kernel)
theorem dX0_pass_0 : decode cX0_pass 0 = .ok (.iload_n 1, 1) := qd_p qo_27 (by decide +kernel)
theorem dX0_pass_1 : decode cX0_pass 1 = .ok (.iconst 1, 1) := qd_p qo_4 (by decide +kernel)
theorem dX0_pass_2 : decode cX0_pass 2 = .ok (.if_icmp .lt 21, 3) := qz_s2 (.if_icmp .lt) 0 21 qo_161 (by decide +kernel) rfl
theorem dX0_pass_5 : decode cX0_pass 5 = .ok (.iload_n 1, 1) := qd_p qo_27 (by decide +kernel)
theorem dX0_pass_6 : decode cX0_pass 6 = .ok (.bipush 99, 2) := qz_s1 .bipush 99 qo_16 (by decide +kernel) rfl
theorem dX0_pass_8 : decode cX0_pass 8 = .ok (.if_icmp .gt 15, 3) := qz_s2 (.if_icmp .gt) 0 15 qo_163 (by decide +kernel) rfl
theorem dX0_pass_11 : decode cX0_pass 11 = .ok (.aload_n 0, 1) := qd_p qo_42 (by decide +kernel)
theorem dX0_pass_12 : decode cX0_pass 12 = .ok (.getfield 42, 3) := qz_2 .getfield 0 42 qo_180 (by decide +kernel) rfl
theorem dX0_pass_15 : decode cX0_pass 15 = .ok (.iload_n 1, 1) := qd_p qo_27 (by decide +kernel)
theorem dX0_pass_16 : decode cX0_pass 16 = .ok (.iadd, 1) := qd_p qo_96 (by decide +kernel)
theorem dX0_pass_17 : decode cX0_pass 17 = .ok (.sipush 9999, 3) := qz_s2 .sipush 39 15 qo_17 (by decide +kernel) rfl
theorem dX0_pass_20 : decode cX0_pass 20 = .ok (.if_icmp .le 5, 3) := qz_s2 (.if_icmp .le) 0 5 qo_164 (by decide +kernel) rfl
theorem dX0_pass_23 : decode cX0_pass 23 = .ok (.iconst 0, 1) := qd_p qo_3 (by decide +kernel)
theorem dX0_pass_24 : decode cX0_pass 24 = .ok (.ireturn, 1) := qd_p qo_172 (by decide +kernel)
theorem dX0_pass_25 : decode cX0_pass 25 = .ok (.aload_n 0, 1) := qd_p qo_42 (by decide +kernel)
theorem dX0_pass_26 : decode cX0_pass 26 = .ok (.invokevirtual 67, 3) := qz_2 .invokevirtual 0 67 qo_182 (by decide +kernel) rfl
theorem dX0_pass_29 : decode cX0_pass 29 = .ok (.iconst 0, 1) := qd_p qo_3 (by decide +kernel)
theorem dX0_pass_30 : decode cX0_pass 30 = .ok (.istore_n 2, 1) := qd_p qo_61 (by decide +kernel)
theorem dX0_pass_31 : decode cX0_pass 31 = .ok (.iload_n 2, 1) := qd_p qo_28 (by decide +kernel)
theorem dX0_pass_32 : decode cX0_pass 32 = .ok (.aload_n 0, 1) := qd_p qo_42 (by decide +kernel)
theorem dX0_pass_33 : decode cX0_pass 33 = .ok (.getfield 19, 3) := qz_2 .getfield 0 19 qo_180 (by decide +kernel) rfl
theorem dX0_pass_36 : decode cX0_pass 36 = .ok (.if_icmp .ge 38, 3) := qz_s2 (.if_icmp .ge) 0 38 qo_162 (by decide +kernel) rfl
theorem dX0_pass_39 : decode cX0_pass 39 = .ok (.iconst 0, 1) := qd_p qo_3 (by decide +kernel)
theorem dX0_pass_40 : decode cX0_pass 40 = .ok (.istore_n 3, 1) := qd_p qo_62 (by decide +kernel)
theorem dX0_pass_41 : decode cX0_pass 41 = .ok (.iload_n 3, 1) := qd_p qo_29 (by decide +kernel)
theorem dX0_pass_42 : decode cX0_pass 42 = .ok (.bipush 8, 2) := qz_s1 .bipush 8 qo_16 (by decide +kernel) rfl
theorem dX0_pass_44 : decode cX0_pass 44 = .ok (.if_icmp .ge 24, 3) := qz_s2 (.if_icmp .ge) 0 24 qo_162 (by decide +kernel) rfl
theorem dX0_pass_47 : decode cX0_pass 47 = .ok (.aload_n 0, 1) := qd_p qo_42 (by decide +kernel)
theorem dX0_pass_48 : decode cX0_pass 48 = .ok (.getfield 33, 3) := qz_2 .getfield 0 33 qo_180 (by decide +kernel) rfl
theorem dX0_pass_51 : decode cX0_pass 51 = .ok (.iload_n 2, 1) := qd_p qo_28 (by decide +kernel)
theorem dX0_pass_52 : decode cX0_pass 52 = .ok (.aaload, 1) := qd_p qo_50 (by decide +kernel)
theorem dX0_pass_53 : decode cX0_pass 53 = .ok (.iload_n 3, 1) := qd_p qo_29 (by decide +kernel)
theorem dX0_pass_54 : decode cX0_pass 54 = .ok (.aload_n 0, 1) := qd_p qo_42 (by decide +kernel)
theorem dX0_pass_55 : decode cX0_pass 55 = .ok (.iload_n 2, 1) := qd_p qo_28 (by decide +kernel)
theorem dX0_pass_56 : decode cX0_pass 56 = .ok (.iload_n 3, 1) := qd_p qo_29 (by decide +kernel)
theorem dX0_pass_57 : decode cX0_pass 57 = .ok (.iload_n 1, 1) := qd_p qo_27 (by decide +kernel)
theorem dX0_pass_58 : decode cX0_pass 58 = .ok (.invokevirtual 70, 3) := qz_2 .invokevirtual 0 70 qo_182 (by decide +kernel) rfl
theorem dX0_pass_61 : decode cX0_pass 61 = .ok (.iastore, 1) := qd_p qo_79 (by decide +kernel)
theorem dX0_pass_62 : decode cX0_pass 62 = .ok (.iinc 3 1, 3) := qd_i (x := 3) (y := 1) qo_132 (by decide +kernel) rfl
theorem dX0_pass_65 : decode cX0_pass 65 = .ok (.goto (-24), 3) := qz_s2 .goto 255 232 qo_167 (by decide +kernel) rfl
theorem dX0_pass_68 : decode cX0_pass 68 = .ok (.iinc 2 1, 3) := qd_i (x := 2) (y := 1) qo_132 (by decide +kernel) rfl
theorem dX0_pass_71 : decode cX0_pass 71 = .ok (.goto (-40), 3) := qz_s2 .goto 255 216 qo_167 (by decide +kernel) rfl
theorem dX0_pass_74 : decode cX0_pass 74 = .ok (.aload_n 0, 1) := qd_p qo_42 (by decide +kernel)
theorem dX0_pass_75 : decode cX0_pass 75 = .ok (.dup, 1) := qd_p qo_89 (by decide +kernel)
theorem dX0_pass_76 : decode cX0_pass 76 = .ok (.getfield 42, 3) := qz_2 .getfield 0 42 qo_180 (by decide +kernel) rfl
theorem dX0_pass_79 : decode cX0_pass 79 = .ok (.iload_n 1, 1) := qd_p qo_27 (by decide +kernel)
theorem dX0_pass_80 : decode cX0_pass 80 = .ok (.iadd, 1) := qd_p qo_96 (by decide +kernel)
theorem dX0_pass_81 : decode cX0_pass 81 = .ok (.putfield 42, 3) := qz_2 .putfield 0 42 qo_181 (by decide +kernel) rfl
theorem dX0_pass_84 : decode cX0_pass 84 = .ok (.iconst 1, 1) := qd_p qo_4 (by decide +kernel)
theorem dX0_pass_85 : decode cX0_pass 85 = .ok (.ireturn, 1) := qd_p qo_172 (by decide +kernel)
theorem dX0_tradeRosters_0 : decode cX0_tradeRosters 0 = .ok (.aload_n 0, 1) := qd_p qo_42 (by decide +kernel)
theorem dX0_tradeRosters_1 : decode cX0_tradeRosters 1 = .ok (.iload_n 1, 1) := qd_p qo_27 (by decide +kernel)
theorem dX0_tradeRosters_2 : decode cX0_tradeRosters 2 = .ok (.invokevirtual 54, 3) := qz_2 .invokevirtual 0 54 qo_182 (by decide +kernel) rfl
theorem dX0_tradeRosters_5 : decode cX0_tradeRosters 5 = .ok (.ifCond .eq 11, 3) := qz_s2 (.ifCond .eq) 0 11 qo_153 (by decide +kernel) rfl
theorem dX0_tradeRosters_8 : decode cX0_tradeRosters 8 = .ok (.aload_n 0, 1) := qd_p qo_42 (by decide +kernel)
theorem dX0_tradeRosters_9 : decode cX0_tradeRosters 9 = .ok (.iload_n 2, 1) := qd_p qo_28 (by decide +kernel)
theorem dX0_tradeRosters_10 : decode cX0_tradeRosters 10 = .ok (.invokevirtual 54, 3) := qz_2 .invokevirtual 0 54 qo_182 (by decide +kernel) rfl
theorem dX0_tradeRosters_13 : decode cX0_tradeRosters 13 = .ok (.ifCond .ne 4, 3) := qz_s2 (.ifCond .ne) 0 4 qo_154 (by decide +kernel) rfl
theorem dX0_tradeRosters_16 : decode cX0_tradeRosters 16 = .ok (.return_, 1) := qd_p qo_177 (by decide +kernel)
theorem dX0_tradeRosters_17 : decode cX0_tradeRosters 17 = .ok (.iconst 0, 1) := qd_p qo_3 (by decide +kernel)
theorem dX0_tradeRosters_18 : decode cX0_tradeRosters 18 = .ok (.istore_n 3, 1) := qd_p qo_62 (by decide +kernel)
theorem dX0_tradeRosters_19 : decode cX0_tradeRosters 19 = .ok (.iload_n 3, 1) := qd_p qo_29 (by decide +kernel)
theorem dX0_tradeRosters_20 : decode cX0_tradeRosters 20 = .ok (.bipush 24, 2) := qz_s1 .bipush 24 qo_16 (by decide +kernel) rfl
theorem dX0_tradeRosters_22 : decode cX0_tradeRosters 22 = .ok (.if_icmp .ge 45, 3) := qz_s2 (.if_icmp .ge) 0 45 qo_162 (by decide +kernel) rfl
theorem dX0_tradeRosters_25 : decode cX0_tradeRosters 25 = .ok (.aload_n 0, 1) := qd_p qo_42 (by decide +kernel)
theorem dX0_tradeRosters_26 : decode cX0_tradeRosters 26 = .ok (.getfield 30, 3) := qz_2 .getfield 0 30 qo_180 (by decide +kernel) rfl
theorem dX0_tradeRosters_29 : decode cX0_tradeRosters 29 = .ok (.iload_n 1, 1) := qd_p qo_27 (by decide +kernel)
theorem dX0_tradeRosters_30 : decode cX0_tradeRosters 30 = .ok (.aaload, 1) := qd_p qo_50 (by decide +kernel)
theorem dX0_tradeRosters_31 : decode cX0_tradeRosters 31 = .ok (.iload_n 3, 1) := qd_p qo_29 (by decide +kernel)
theorem dX0_tradeRosters_32 : decode cX0_tradeRosters 32 = .ok (.iaload, 1) := qd_p qo_46 (by decide +kernel)
theorem dX0_tradeRosters_33 : decode cX0_tradeRosters 33 = .ok (.istore 4, 2) := qz_1 .istore 4 qo_54 (by decide +kernel)
theorem dX0_tradeRosters_35 : decode cX0_tradeRosters 35 = .ok (.aload_n 0, 1) := qd_p qo_42 (by decide +kernel)
theorem dX0_tradeRosters_36 : decode cX0_tradeRosters 36 = .ok (.getfield 30, 3) := qz_2 .getfield 0 30 qo_180 (by decide +kernel) rfl
theorem dX0_tradeRosters_39 : decode cX0_tradeRosters 39 = .ok (.iload_n 1, 1) := qd_p qo_27 (by decide +kernel)
theorem dX0_tradeRosters_40 : decode cX0_tradeRosters 40 = .ok (.aaload, 1) := qd_p qo_50 (by decide +kernel)
theorem dX0_tradeRosters_41 : decode cX0_tradeRosters 41 = .ok (.iload_n 3, 1) := qd_p qo_29 (by decide +kernel)
theorem dX0_tradeRosters_42 : decode cX0_tradeRosters 42 = .ok (.aload_n 0, 1) := qd_p qo_42 (by decide +kernel)
theorem dX0_tradeRosters_43 : decode cX0_tradeRosters 43 = .ok (.getfield 30, 3) := qz_2 .getfield 0 30 qo_180 (by decide +kernel) rfl
theorem dX0_tradeRosters_46 : decode cX0_tradeRosters 46 = .ok (.iload_n 2, 1) := qd_p qo_28 (by decide +kernel)
theorem dX0_tradeRosters_47 : decode cX0_tradeRosters 47 = .ok (.aaload, 1) := qd_p qo_50 (by decide +kernel)
theorem dX0_tradeRosters_48 : decode cX0_tradeRosters 48 = .ok (.iload_n 3, 1) := qd_p qo_29 (by decide +kernel)
theorem dX0_tradeRosters_49 : decode cX0_tradeRosters 49 = .ok (.iaload, 1) := qd_p qo_46 (by decide +kernel)
theorem dX0_tradeRosters_50 : decode cX0_tradeRosters 50 = .ok (.iastore, 1) := qd_p qo_79 (by decide +kernel)
theorem dX0_tradeRosters_51 : decode cX0_tradeRosters 51 = .ok (.aload_n 0, 1) := qd_p qo_42 (by decide +kernel)
theorem dX0_tradeRosters_52 : decode cX0_tradeRosters 52 = .ok (.getfield 30, 3) := qz_2 .getfield 0 30 qo_180 (by decide +kernel) rfl
theorem dX0_tradeRosters_55 : decode cX0_tradeRosters 55 = .ok (.iload_n 2, 1) := qd_p qo_28 (by decide +kernel)
theorem dX0_tradeRosters_56 : decode cX0_tradeRosters 56 = .ok (.aaload, 1) := qd_p qo_50 (by decide +kernel)
theorem dX0_tradeRosters_57 : decode cX0_tradeRosters 57 = .ok (.iload_n 3, 1) := qd_p qo_29 (by decide +kernel)
theorem dX0_tradeRosters_58 : decode cX0_tradeRosters 58 = .ok (.iload 4, 2) := qz_1 .iload 4 qo_21 (by decide +kernel)
theorem dX0_tradeRosters_60 : decode cX0_tradeRosters 60 = .ok (.iastore, 1) := qd_p qo_79 (by decide +kernel)
theorem dX0_tradeRosters_61 : decode cX0_tradeRosters 61 = .ok (.iinc 3 1, 3) := qd_i (x := 3) (y := 1) qo_132 (by decide +kernel) rfl
theorem dX0_tradeRosters_64 : decode cX0_tradeRosters 64 = .ok (.goto (-45), 3) := qz_s2 .goto 255 211 qo_167 (by decide +kernel) rfl
theorem dX0_tradeRosters_67 : decode cX0_tradeRosters 67 = .ok (.return_, 1) := qd_p qo_177 (by decide +kernel)
theorem dX0_shows_0 : decode cX0_shows 0 = .ok (.aload_n 0, 1) := qd_p qo_42 (by decide +kernel)
theorem dX0_shows_1 : decode cX0_shows 1 = .ok (.iload_n 1, 1) := qd_p qo_27 (by decide +kernel)
theorem dX0_shows_2 : decode cX0_shows 2 = .ok (.invokevirtual 61, 3) := qz_2 .invokevirtual 0 61 qo_182 (by decide +kernel) rfl
theorem dX0_shows_5 : decode cX0_shows 5 = .ok (.ifCond .eq 28, 3) := qz_s2 (.ifCond .eq) 0 28 qo_153 (by decide +kernel) rfl
theorem dX0_shows_8 : decode cX0_shows 8 = .ok (.iload_n 2, 1) := qd_p qo_28 (by decide +kernel)
theorem dX0_shows_9 : decode cX0_shows 9 = .ok (.invokestatic 64, 3) := qz_2 .invokestatic 0 64 qo_184 (by decide +kernel) rfl
theorem dX0_shows_12 : decode cX0_shows 12 = .ok (.ifCond .eq 21, 3) := qz_s2 (.ifCond .eq) 0 21 qo_153 (by decide +kernel) rfl
theorem dX0_shows_15 : decode cX0_shows 15 = .ok (.aload_n 0, 1) := qd_p qo_42 (by decide +kernel)
theorem dX0_shows_16 : decode cX0_shows 16 = .ok (.getfield 15, 3) := qz_2 .getfield 0 15 qo_180 (by decide +kernel) rfl
theorem dX0_shows_19 : decode cX0_shows 19 = .ok (.iload_n 1, 1) := qd_p qo_27 (by decide +kernel)
theorem dX0_shows_20 : decode cX0_shows 20 = .ok (.iaload, 1) := qd_p qo_46 (by decide +kernel)
theorem dX0_shows_21 : decode cX0_shows 21 = .ok (.iload_n 2, 1) := qd_p qo_28 (by decide +kernel)
theorem dX0_shows_22 : decode cX0_shows 22 = .ok (.ishr, 1) := qd_p qo_122 (by decide +kernel)
theorem dX0_shows_23 : decode cX0_shows 23 = .ok (.iconst 1, 1) := qd_p qo_4 (by decide +kernel)
theorem dX0_shows_24 : decode cX0_shows 24 = .ok (.iand, 1) := qd_p qo_126 (by decide +kernel)
theorem dX0_shows_25 : decode cX0_shows 25 = .ok (.iconst 1, 1) := qd_p qo_4 (by decide +kernel)
theorem dX0_shows_26 : decode cX0_shows 26 = .ok (.if_icmp .ne 7, 3) := qz_s2 (.if_icmp .ne) 0 7 qo_160 (by decide +kernel) rfl
theorem dX0_shows_29 : decode cX0_shows 29 = .ok (.iconst 1, 1) := qd_p qo_4 (by decide +kernel)
theorem dX0_shows_30 : decode cX0_shows 30 = .ok (.goto 4, 3) := qz_s2 .goto 0 4 qo_167 (by decide +kernel) rfl
theorem dX0_shows_33 : decode cX0_shows 33 = .ok (.iconst 0, 1) := qd_p qo_3 (by decide +kernel)
theorem dX0_shows_34 : decode cX0_shows 34 = .ok (.ireturn, 1) := qd_p qo_172 (by decide +kernel)
theorem dX0_timesShown_0 : decode cX0_timesShown 0 = .ok (.iconst 0, 1) := qd_p qo_3 (by decide +kernel)
theorem dX0_timesShown_1 : decode cX0_timesShown 1 = .ok (.istore_n 2, 1) := qd_p qo_61 (by decide +kernel)
theorem dX0_timesShown_2 : decode cX0_timesShown 2 = .ok (.iconst 0, 1) := qd_p qo_3 (by decide +kernel)
theorem dX0_timesShown_3 : decode cX0_timesShown 3 = .ok (.istore_n 3, 1) := qd_p qo_62 (by decide +kernel)
theorem dX0_timesShown_4 : decode cX0_timesShown 4 = .ok (.iload_n 3, 1) := qd_p qo_29 (by decide +kernel)
theorem dX0_timesShown_5 : decode cX0_timesShown 5 = .ok (.aload_n 0, 1) := qd_p qo_42 (by decide +kernel)
theorem dX0_timesShown_6 : decode cX0_timesShown 6 = .ok (.getfield 9, 3) := qz_2 .getfield 0 9 qo_180 (by decide +kernel) rfl
theorem dX0_timesShown_9 : decode cX0_timesShown 9 = .ok (.if_icmp .ge 21, 3) := qz_s2 (.if_icmp .ge) 0 21 qo_162 (by decide +kernel) rfl
theorem dX0_timesShown_12 : decode cX0_timesShown 12 = .ok (.aload_n 0, 1) := qd_p qo_42 (by decide +kernel)
theorem dX0_timesShown_13 : decode cX0_timesShown 13 = .ok (.iload_n 3, 1) := qd_p qo_29 (by decide +kernel)
theorem dX0_timesShown_14 : decode cX0_timesShown 14 = .ok (.iload_n 1, 1) := qd_p qo_27 (by decide +kernel)
theorem dX0_timesShown_15 : decode cX0_timesShown 15 = .ok (.invokevirtual 78, 3) := qz_2 .invokevirtual 0 78 qo_182 (by decide +kernel) rfl
theorem dX0_timesShown_18 : decode cX0_timesShown 18 = .ok (.ifCond .eq 6, 3) := qz_s2 (.ifCond .eq) 0 6 qo_153 (by decide +kernel) rfl
theorem dX0_timesShown_21 : decode cX0_timesShown 21 = .ok (.iinc 2 1, 3) := qd_i (x := 2) (y := 1) qo_132 (by decide +kernel) rfl
theorem dX0_timesShown_24 : decode cX0_timesShown 24 = .ok (.iinc 3 1, 3) := qd_i (x := 3) (y := 1) qo_132 (by decide +kernel) rfl
theorem dX0_timesShown_27 : decode cX0_timesShown 27 = .ok (.goto (-23), 3) := qz_s2 .goto 255 233 qo_167 (by decide +kernel) rfl
theorem dX0_timesShown_30 : decode cX0_timesShown 30 = .ok (.iload_n 2, 1) := qd_p qo_28 (by decide +kernel)
theorem dX0_timesShown_31 : decode cX0_timesShown 31 = .ok (.ireturn, 1) := qd_p qo_172 (by decide +kernel)
theorem dX0_hoursAt_0 : decode cX0_hoursAt 0 = .ok (.iconst 0, 1) := qd_p qo_3 (by decide +kernel)
theorem dX0_hoursAt_1 : decode cX0_hoursAt 1 = .ok (.istore_n 2, 1) := qd_p qo_61 (by decide +kernel)
theorem dX0_hoursAt_2 : decode cX0_hoursAt 2 = .ok (.iconst 0, 1) := qd_p qo_3 (by decide +kernel)
theorem dX0_hoursAt_3 : decode cX0_hoursAt 3 = .ok (.istore_n 3, 1) := qd_p qo_62 (by decide +kernel)
theorem dX0_hoursAt_4 : decode cX0_hoursAt 4 = .ok (.iload_n 3, 1) := qd_p qo_29 (by decide +kernel)
theorem dX0_hoursAt_5 : decode cX0_hoursAt 5 = .ok (.aload_n 0, 1) := qd_p qo_42 (by decide +kernel)
theorem dX0_hoursAt_6 : decode cX0_hoursAt 6 = .ok (.getfield 19, 3) := qz_2 .getfield 0 19 qo_180 (by decide +kernel) rfl
theorem dX0_hoursAt_9 : decode cX0_hoursAt 9 = .ok (.if_icmp .ge 41, 3) := qz_s2 (.if_icmp .ge) 0 41 qo_162 (by decide +kernel) rfl
theorem dX0_hoursAt_12 : decode cX0_hoursAt 12 = .ok (.iconst 0, 1) := qd_p qo_3 (by decide +kernel)
theorem dX0_hoursAt_13 : decode cX0_hoursAt 13 = .ok (.istore 4, 2) := qz_1 .istore 4 qo_54 (by decide +kernel)
theorem dX0_hoursAt_15 : decode cX0_hoursAt 15 = .ok (.iload 4, 2) := qz_1 .iload 4 qo_21 (by decide +kernel)
theorem dX0_hoursAt_17 : decode cX0_hoursAt 17 = .ok (.bipush 24, 2) := qz_s1 .bipush 24 qo_16 (by decide +kernel) rfl
theorem dX0_hoursAt_19 : decode cX0_hoursAt 19 = .ok (.if_icmp .ge 25, 3) := qz_s2 (.if_icmp .ge) 0 25 qo_162 (by decide +kernel) rfl
theorem dX0_hoursAt_22 : decode cX0_hoursAt 22 = .ok (.aload_n 0, 1) := qd_p qo_42 (by decide +kernel)
theorem dX0_hoursAt_23 : decode cX0_hoursAt 23 = .ok (.getfield 30, 3) := qz_2 .getfield 0 30 qo_180 (by decide +kernel) rfl
theorem dX0_hoursAt_26 : decode cX0_hoursAt 26 = .ok (.iload_n 3, 1) := qd_p qo_29 (by decide +kernel)
theorem dX0_hoursAt_27 : decode cX0_hoursAt 27 = .ok (.aaload, 1) := qd_p qo_50 (by decide +kernel)
theorem dX0_hoursAt_28 : decode cX0_hoursAt 28 = .ok (.iload 4, 2) := qz_1 .iload 4 qo_21 (by decide +kernel)
theorem dX0_hoursAt_30 : decode cX0_hoursAt 30 = .ok (.iaload, 1) := qd_p qo_46 (by decide +kernel)
theorem dX0_hoursAt_31 : decode cX0_hoursAt 31 = .ok (.iload_n 1, 1) := qd_p qo_27 (by decide +kernel)
theorem dX0_hoursAt_32 : decode cX0_hoursAt 32 = .ok (.if_icmp .ne 6, 3) := qz_s2 (.if_icmp .ne) 0 6 qo_160 (by decide +kernel) rfl
theorem dX0_hoursAt_35 : decode cX0_hoursAt 35 = .ok (.iinc 2 1, 3) := qd_i (x := 2) (y := 1) qo_132 (by decide +kernel) rfl
theorem dX0_hoursAt_38 : decode cX0_hoursAt 38 = .ok (.iinc 4 1, 3) := qd_i (x := 4) (y := 1) qo_132 (by decide +kernel) rfl
theorem dX0_hoursAt_41 : decode cX0_hoursAt 41 = .ok (.goto (-26), 3) := qz_s2 .goto 255 230 qo_167 (by decide +kernel) rfl
theorem dX0_hoursAt_44 : decode cX0_hoursAt 44 = .ok (.iinc 3 1, 3) := qd_i (x := 3) (y := 1) qo_132 (by decide +kernel) rfl
theorem dX0_hoursAt_47 : decode cX0_hoursAt 47 = .ok (.goto (-43), 3) := qz_s2 .goto 255 213 qo_167 (by decide +kernel) rfl
theorem dX0_hoursAt_50 : decode cX0_hoursAt 50 = .ok (.iload_n 2, 1) := qd_p qo_28 (by decide +kernel)
theorem dX0_hoursAt_51 : decode cX0_hoursAt 51 = .ok (.ireturn, 1) := qd_p qo_172 (by decide +kernel)
section
variable {p : Program} {l : Launch} {e : Env} {s : State} {m : MethodId} {args : Array Value} {below : List Frame} {meth : Method} {c : Code} {D : va_G} {tI tII : ClassId} {B : Nat}
set_option maxHeartbeats 4000000 in
set_option maxRecDepth 100000 in
theorem w_X0_takeFrom_92 (C : wt_C p s m args meth c RX0 cX0_takeFrom 3 none D tI tII) {F : Nat} {h : Nat} {g : Nat} {σ' : Mem} (hh : wt_isH h) (hg : wt_isH g) : ∀ (N : Nat) (x2 : Int32) (σ : Mem) (H : Heap) (locs : List Loc) (ls : Array Slot), lp_X0_takeFrom_92 F h g N x2 σ = some ((), σ') → wt_St D tI tII B σ s H locs → lv_has ls 3 [(0, .ref (B + h)), (1, .ref (B + g)), (2, .int x2)] → W p l e rm_X0_takeFrom s m args below meth c H locs 0 0 (MQ below (wt_Qv D tI tII B σ') args s 0 0 (fun q => B ≤ q)) (F0 m 92 ls []) := by
  obtain ⟨hx, hb, hts, hown, hml, hr, hlk, hK⟩ := id C
  intro N
  induction N with
  | zero => intro x2 σ H locs ls hf; exact wt_none (show (none : Option (Unit × Mem)) = some ((), σ') from hf)
  | succ N ih =>
    intro x2 σ H locs ls hf hM hl
    replace hf := Eq.trans lp_X0_takeFrom_92_s.symm hf
    refine lv_iload_n hx hb dX0_takeFrom_92 rfl (lv_at hl 2 rfl) ?_
    refine lv_iconst (v := 5) hx hb dX0_takeFrom_93 (by decide) ?_
    refine wq_icmp_ge (tgt := 141) hx hb dX0_takeFrom_94 (by decide) hf (fun hf => ?_) (fun hf => ?_)
    · exact wt_vret hx hb hr hlk hK hM hf dX0_takeFrom_141
    refine lv_aload_n hx hb dX0_takeFrom_97 rfl (lv_at hl 1 rfl) ?_
    refine gf_X0_rosters hg hx hb hts hown hK hM tw_36 dX0_takeFrom_98 ?_
    refine lv_iload_n hx hb dX0_takeFrom_101 rfl (lv_at hl 2 rfl) ?_
    obtain ⟨i1, hf⟩ := wt_chk_of hf
    refine wt_ald hx hb hK hM (wt_aaH_4 hg) i1 dX0_takeFrom_102 ?_
    refine lv_iconst (v := 0) hx hb dX0_takeFrom_103 (by decide) ?_
    refine lv_aload_n hx hb dX0_takeFrom_104 rfl (lv_at hl 0 rfl) ?_
    refine gf_X0_rosters hh hx hb hts hown hK hM tw_36 dX0_takeFrom_105 ?_
    refine lv_iload_n hx hb dX0_takeFrom_108 rfl (lv_at hl 2 rfl) ?_
    refine wt_ald hx hb hK hM (wt_aaH_4 hh) i1 dX0_takeFrom_109 ?_
    refine lv_iconst (v := 0) hx hb dX0_takeFrom_110 (by decide) ?_
    refine lv_bipush (v := 24) hx hb dX0_takeFrom_111 (by decide) ?_
    refine wt_cpy (N := 24) hx hb hml hts hown hK hM hl.1 tw_186 tw_188 tw_187 tw_6 (wt_rH_4 hg i1) (wt_rH_4 hh i1) (by decide) (by decide) (by decide) rfl (qz_b rfl) (qz_b rfl) (qz_b rfl) dX0_takeFrom_113 hf (fun s2 H locs hf hM => ?_)
    refine lv_aload_n hx hb dX0_takeFrom_116 rfl (lv_at hl 1 rfl) ?_
    refine gf_X0_counts hg hx hb hts hown hK hM tw_38 dX0_takeFrom_117 ?_
    refine lv_iload_n hx hb dX0_takeFrom_120 rfl (lv_at hl 2 rfl) ?_
    refine wt_ald hx hb hK hM (wt_aaH_10 hg) i1 dX0_takeFrom_121 ?_
    refine lv_iconst (v := 0) hx hb dX0_takeFrom_122 (by decide) ?_
    refine lv_aload_n hx hb dX0_takeFrom_123 rfl (lv_at hl 0 rfl) ?_
    refine gf_X0_counts hh hx hb hts hown hK hM tw_38 dX0_takeFrom_124 ?_
    refine lv_iload_n hx hb dX0_takeFrom_127 rfl (lv_at hl 2 rfl) ?_
    refine wt_ald hx hb hK hM (wt_aaH_10 hh) i1 dX0_takeFrom_128 ?_
    refine lv_iconst (v := 0) hx hb dX0_takeFrom_129 (by decide) ?_
    refine lv_bipush (v := 8) hx hb dX0_takeFrom_130 (by decide) ?_
    refine wt_cpy (N := 8) hx hb hml hts hown hK hM hl.1 tw_186 tw_188 tw_187 tw_6 (wt_rH_10 hg i1) (wt_rH_10 hh i1) (by decide) (by decide) (by decide) rfl (qz_b rfl) (qz_b rfl) (qz_b rfl) dX0_takeFrom_132 hf (fun s3 H locs hf hM => ?_)
    refine lv_iinc (v := (x2 + (1 : Int32))) (lv' := [(2, .int (x2 + (1 : Int32))), (0, .ref (B + h)), (1, .ref (B + g))]) hx hb dX0_takeFrom_135 hl (k := 2) rfl rfl (by decide) rfl (fun ls hl => ?_)
    refine lv_goto (tgt := 92) hx hb dX0_takeFrom_138 (by decide) ?_
    exact ih _ _ _ _ _ hf hM (lv_sub hl [1, 2, 0] rfl)
set_option maxHeartbeats 4000000 in
set_option maxRecDepth 100000 in
theorem w_X0_takeFrom_0 (C : wt_C p s m args meth c RX0 cX0_takeFrom 3 none D tI tII) {F : Nat} {h : Nat} {g : Nat} {σ : Mem} {σ' : Mem} {H : Heap} {locs : List Loc} {ls : Array Slot} (hh : wt_isH h) (hg : wt_isH g) (hf : f_X0_takeFrom F h g σ = some ((), σ')) (hM : wt_St D tI tII B σ s H locs) (hl : lv_has ls 3 [(0, .ref (B + h)), (1, .ref (B + g))]) : W p l e rm_X0_takeFrom s m args below meth c H locs 0 0 (MQ below (wt_Qv D tI tII B σ') args s 0 0 (fun q => B ≤ q)) (F0 m 0 ls []) := by
  obtain ⟨hx, hb, hts, hown, hml, hr, hlk, hK⟩ := id C
  replace hf := Eq.trans f_X0_takeFrom_e.symm hf
  refine lv_aload_n hx hb dX0_takeFrom_0 rfl (lv_at hl 0 rfl) ?_
  refine lv_aload_n hx hb dX0_takeFrom_1 rfl (lv_at hl 1 rfl) ?_
  refine gf_X0_paneCount hg hx hb hts hown hK hM tw_25 dX0_takeFrom_2 ?_
  refine pf_X0_paneCount hh hx hb hts hown hK hM tw_25 dX0_takeFrom_5 hf (fun s4 H locs hf hM => ?_)
  refine lv_aload_n hx hb dX0_takeFrom_8 rfl (lv_at hl 0 rfl) ?_
  refine lv_aload_n hx hb dX0_takeFrom_9 rfl (lv_at hl 1 rfl) ?_
  refine gf_X0_lookerCount hg hx hb hts hown hK hM tw_30 dX0_takeFrom_10 ?_
  refine pf_X0_lookerCount hh hx hb hts hown hK hM tw_30 dX0_takeFrom_13 hf (fun s5 H locs hf hM => ?_)
  refine lv_aload_n hx hb dX0_takeFrom_16 rfl (lv_at hl 0 rfl) ?_
  refine lv_aload_n hx hb dX0_takeFrom_17 rfl (lv_at hl 1 rfl) ?_
  refine gf_X0_law hg hx hb hts hown hK hM tw_42 dX0_takeFrom_18 ?_
  refine pf_X0_law hh hx hb hts hown hK hM tw_42 dX0_takeFrom_21 hf (fun s6 H locs hf hM => ?_)
  refine lv_aload_n hx hb dX0_takeFrom_24 rfl (lv_at hl 0 rfl) ?_
  refine lv_aload_n hx hb dX0_takeFrom_25 rfl (lv_at hl 1 rfl) ?_
  refine gf_X0_day hg hx hb hts hown hK hM tw_44 dX0_takeFrom_26 ?_
  refine pf_X0_day hh hx hb hts hown hK hM tw_44 dX0_takeFrom_29 hf (fun s7 H locs hf hM => ?_)
  refine lv_aload_n hx hb dX0_takeFrom_32 rfl (lv_at hl 1 rfl) ?_
  refine gf_X0_paneViews hg hx hb hts hown hK hM tw_27 dX0_takeFrom_33 ?_
  refine lv_iconst (v := 0) hx hb dX0_takeFrom_36 (by decide) ?_
  refine lv_aload_n hx hb dX0_takeFrom_37 rfl (lv_at hl 0 rfl) ?_
  refine gf_X0_paneViews hh hx hb hts hown hK hM tw_27 dX0_takeFrom_38 ?_
  refine lv_iconst (v := 0) hx hb dX0_takeFrom_41 (by decide) ?_
  refine lv_bipush (v := 6) hx hb dX0_takeFrom_42 (by decide) ?_
  refine wt_cpy (N := 6) hx hb hml hts hown hK hM hl.1 tw_186 tw_188 tw_187 tw_6 (wt_aH_1 hg) (wt_aH_1 hh) (by decide) (by decide) (by decide) rfl (qz_b rfl) (qz_b rfl) (qz_b rfl) dX0_takeFrom_44 hf (fun s8 H locs hf hM => ?_)
  refine lv_aload_n hx hb dX0_takeFrom_47 rfl (lv_at hl 1 rfl) ?_
  refine gf_X0_kinds hg hx hb hts hown hK hM tw_32 dX0_takeFrom_48 ?_
  refine lv_iconst (v := 0) hx hb dX0_takeFrom_51 (by decide) ?_
  refine lv_aload_n hx hb dX0_takeFrom_52 rfl (lv_at hl 0 rfl) ?_
  refine gf_X0_kinds hh hx hb hts hown hK hM tw_32 dX0_takeFrom_53 ?_
  refine lv_iconst (v := 0) hx hb dX0_takeFrom_56 (by decide) ?_
  refine lv_iconst (v := 5) hx hb dX0_takeFrom_57 (by decide) ?_
  refine wt_cpy (N := 5) hx hb hml hts hown hK hM hl.1 tw_186 tw_188 tw_187 tw_6 (wt_aH_2 hg) (wt_aH_2 hh) (by decide) (by decide) (by decide) rfl (qz_b rfl) (qz_b rfl) (qz_b rfl) dX0_takeFrom_58 hf (fun s9 H locs hf hM => ?_)
  refine lv_aload_n hx hb dX0_takeFrom_61 rfl (lv_at hl 1 rfl) ?_
  refine gf_X0_figures hg hx hb hts hown hK hM tw_34 dX0_takeFrom_62 ?_
  refine lv_iconst (v := 0) hx hb dX0_takeFrom_65 (by decide) ?_
  refine lv_aload_n hx hb dX0_takeFrom_66 rfl (lv_at hl 0 rfl) ?_
  refine gf_X0_figures hh hx hb hts hown hK hM tw_34 dX0_takeFrom_67 ?_
  refine lv_iconst (v := 0) hx hb dX0_takeFrom_70 (by decide) ?_
  refine lv_iconst (v := 5) hx hb dX0_takeFrom_71 (by decide) ?_
  refine wt_cpy (N := 5) hx hb hml hts hown hK hM hl.1 tw_186 tw_188 tw_187 tw_6 (wt_aH_3 hg) (wt_aH_3 hh) (by decide) (by decide) (by decide) rfl (qz_b rfl) (qz_b rfl) (qz_b rfl) dX0_takeFrom_72 hf (fun s10 H locs hf hM => ?_)
  refine lv_aload_n hx hb dX0_takeFrom_75 rfl (lv_at hl 1 rfl) ?_
  refine gf_X0_worths hg hx hb hts hown hK hM tw_40 dX0_takeFrom_76 ?_
  refine lv_iconst (v := 0) hx hb dX0_takeFrom_79 (by decide) ?_
  refine lv_aload_n hx hb dX0_takeFrom_80 rfl (lv_at hl 0 rfl) ?_
  refine gf_X0_worths hh hx hb hts hown hK hM tw_40 dX0_takeFrom_81 ?_
  refine lv_iconst (v := 0) hx hb dX0_takeFrom_84 (by decide) ?_
  refine lv_bipush (v := 8) hx hb dX0_takeFrom_85 (by decide) ?_
  refine wt_cpy (N := 8) hx hb hml hts hown hK hM hl.1 tw_186 tw_188 tw_187 tw_6 (wt_aH_16 hg) (wt_aH_16 hh) (by decide) (by decide) (by decide) rfl (qz_b rfl) (qz_b rfl) (qz_b rfl) dX0_takeFrom_87 hf (fun s11 H locs hf hM => ?_)
  refine lv_iconst (v := 0) hx hb dX0_takeFrom_90 (by decide) ?_
  refine lv_istore_n (lv' := [(2, .int (0 : Int32)), (0, .ref (B + h)), (1, .ref (B + g))]) hx hb dX0_takeFrom_91 rfl hl (by decide) rfl (fun ls hl => ?_)
  exact w_X0_takeFrom_92 C hh hg _ _ _ _ _ _ hf hM (lv_sub hl [1, 2, 0] rfl)
end
set_option maxHeartbeats 4000000 in
set_option maxRecDepth 100000 in
theorem c_X0_takeFrom {l : Launch} {D : va_G} {tI tII : ClassId} {B F : Nat} {h : Nat} {g : Nat} {σ σ' : Mem} (hh : wt_isH h) (hg : wt_isH g) (hf : f_X0_takeFrom F h g σ = some ((), σ')) : wt_Mv l yX0_takeFrom cX0_takeFrom 3 none rm_X0_takeFrom [.ref (B + h), .ref (B + g)] D tI tII B σ σ' := by
  refine Met.ofW (cc := cX0_takeFrom) (maxL := 3) (ret := none) (by decide) rfl ?_
  intro p e s m args below meth c s₁ B9 hml hv
  obtain ⟨rfl, hP, hK⟩ := hv
  have hl := lv_entry ([.ref (B + h), .ref (B + g)]) (n := 3) (qz_b rfl)
  rw [lg_entry_eq]
  generalize (lg_sl ([.ref (B + h), .ref (B + g)]) ++ List.replicate (3 - (lg_sl ([.ref (B + h), .ref (B + g)])).length) Slot.unset).toArray = ls at hl ⊢
  exact w_X0_takeFrom_0 (wt_C_of B9 hml hK) hh hg hf ⟨hP, va_S.rf⟩ hl
section
variable {p : Program} {l : Launch} {e : Env} {s : State} {m : MethodId} {args : Array Value} {below : List Frame} {meth : Method} {c : Code} {D : va_G} {tI tII : ClassId} {B : Nat}
set_option maxHeartbeats 4000000 in
set_option maxRecDepth 100000 in
theorem w_X0_isView_14 (C : wt_C p s m args meth c RX0 cX0_isView 1 (some .boolean) D tI tII) {F : Nat} {σ : Mem} {r : Int32} {σ' : Mem} {H : Heap} {locs : List Loc} {ls : Array Slot} (hf : j_X0_isView_14 F σ = some (r, σ')) (hM : wt_St D tI tII B σ s H locs) (hl : lv_has ls 1 []) : W p l e rm_X0_isView s m args below meth c H locs 0 0 (MQ below (wt_Qi D tI tII B r σ') args s 0 0 (fun q => B ≤ q)) (F0 m 14 ls []) := by
  obtain ⟨hx, hb, hts, hown, hml, hr, hlk, hK⟩ := id C
  replace hf := Eq.trans j_X0_isView_14_e.symm hf
  refine lv_iconst (v := 0) hx hb dX0_isView_14 (by decide) ?_
  exact wt_zret hx hb hr hlk hK hM (by decide) hf dX0_isView_15
set_option maxHeartbeats 4000000 in
set_option maxRecDepth 100000 in
theorem w_X0_isView_0 (C : wt_C p s m args meth c RX0 cX0_isView 1 (some .boolean) D tI tII) {F : Nat} {x0 : Int32} {σ : Mem} {r : Int32} {σ' : Mem} {H : Heap} {locs : List Loc} {ls : Array Slot} (hf : f_X0_isView F x0 σ = some (r, σ')) (hM : wt_St D tI tII B σ s H locs) (hl : lv_has ls 1 [(0, .int x0)]) : W p l e rm_X0_isView s m args below meth c H locs 0 0 (MQ below (wt_Qi D tI tII B r σ') args s 0 0 (fun q => B ≤ q)) (F0 m 0 ls []) := by
  obtain ⟨hx, hb, hts, hown, hml, hr, hlk, hK⟩ := id C
  replace hf := Eq.trans f_X0_isView_e.symm hf
  refine lv_iload_n hx hb dX0_isView_0 rfl (lv_at hl 0 rfl) ?_
  refine wq_if_lt (tgt := 14) hx hb dX0_isView_1 (by decide) hf (fun hf => ?_) (fun hf => ?_)
  · exact w_X0_isView_14 C hf hM (lv_sub hl [] rfl)
  refine lv_iload_n hx hb dX0_isView_4 rfl (lv_at hl 0 rfl) ?_
  refine lv_bipush (v := 8) hx hb dX0_isView_5 (by decide) ?_
  refine wq_icmp_ge (tgt := 14) hx hb dX0_isView_7 (by decide) hf (fun hf => ?_) (fun hf => ?_)
  · exact w_X0_isView_14 C hf hM (lv_sub hl [] rfl)
  refine lv_iconst (v := 1) hx hb dX0_isView_10 (by decide) ?_
  refine lv_goto (tgt := 15) hx hb dX0_isView_11 (by decide) ?_
  exact wt_zret hx hb hr hlk hK hM (by decide) hf dX0_isView_15
end
set_option maxHeartbeats 4000000 in
set_option maxRecDepth 100000 in
theorem c_X0_isView {l : Launch} {D : va_G} {tI tII : ClassId} {B F : Nat} {x0 : Int32} {σ σ' : Mem} {r : Int32} (hf : f_X0_isView F x0 σ = some (r, σ')) : wt_Mi l yX0_isView cX0_isView 1 (some .boolean) rm_X0_isView [.int x0] D tI tII B σ r σ' := by
  refine Met.ofW (cc := cX0_isView) (maxL := 1) (ret := (some .boolean)) (by decide) rfl ?_
  intro p e s m args below meth c s₁ B9 hml hv
  obtain ⟨rfl, hP, hK⟩ := hv
  have hl := lv_entry ([.int x0]) (n := 1) (qz_b rfl)
  rw [lg_entry_eq]
  generalize (lg_sl ([.int x0]) ++ List.replicate (1 - (lg_sl ([.int x0])).length) Slot.unset).toArray = ls at hl ⊢
  exact w_X0_isView_0 (wt_C_of B9 hml hK) hf ⟨hP, va_S.rf⟩ hl
section
variable {p : Program} {l : Launch} {e : Env} {s : State} {m : MethodId} {args : Array Value} {below : List Frame} {meth : Method} {c : Code} {D : va_G} {tI tII : ClassId} {B : Nat}
set_option maxHeartbeats 4000000 in
set_option maxRecDepth 100000 in
theorem w_X0_isHour_14 (C : wt_C p s m args meth c RX0 cX0_isHour 1 (some .boolean) D tI tII) {F : Nat} {σ : Mem} {r : Int32} {σ' : Mem} {H : Heap} {locs : List Loc} {ls : Array Slot} (hf : j_X0_isHour_14 F σ = some (r, σ')) (hM : wt_St D tI tII B σ s H locs) (hl : lv_has ls 1 []) : W p l e rm_X0_isHour s m args below meth c H locs 0 0 (MQ below (wt_Qi D tI tII B r σ') args s 0 0 (fun q => B ≤ q)) (F0 m 14 ls []) := by
  obtain ⟨hx, hb, hts, hown, hml, hr, hlk, hK⟩ := id C
  replace hf := Eq.trans j_X0_isHour_14_e.symm hf
  refine lv_iconst (v := 0) hx hb dX0_isHour_14 (by decide) ?_
  exact wt_zret hx hb hr hlk hK hM (by decide) hf dX0_isHour_15
set_option maxHeartbeats 4000000 in
set_option maxRecDepth 100000 in
theorem w_X0_isHour_0 (C : wt_C p s m args meth c RX0 cX0_isHour 1 (some .boolean) D tI tII) {F : Nat} {x0 : Int32} {σ : Mem} {r : Int32} {σ' : Mem} {H : Heap} {locs : List Loc} {ls : Array Slot} (hf : f_X0_isHour F x0 σ = some (r, σ')) (hM : wt_St D tI tII B σ s H locs) (hl : lv_has ls 1 [(0, .int x0)]) : W p l e rm_X0_isHour s m args below meth c H locs 0 0 (MQ below (wt_Qi D tI tII B r σ') args s 0 0 (fun q => B ≤ q)) (F0 m 0 ls []) := by
  obtain ⟨hx, hb, hts, hown, hml, hr, hlk, hK⟩ := id C
  replace hf := Eq.trans f_X0_isHour_e.symm hf
  refine lv_iload_n hx hb dX0_isHour_0 rfl (lv_at hl 0 rfl) ?_
  refine wq_if_lt (tgt := 14) hx hb dX0_isHour_1 (by decide) hf (fun hf => ?_) (fun hf => ?_)
  · exact w_X0_isHour_14 C hf hM (lv_sub hl [] rfl)
  refine lv_iload_n hx hb dX0_isHour_4 rfl (lv_at hl 0 rfl) ?_
  refine lv_bipush (v := 24) hx hb dX0_isHour_5 (by decide) ?_
  refine wq_icmp_ge (tgt := 14) hx hb dX0_isHour_7 (by decide) hf (fun hf => ?_) (fun hf => ?_)
  · exact w_X0_isHour_14 C hf hM (lv_sub hl [] rfl)
  refine lv_iconst (v := 1) hx hb dX0_isHour_10 (by decide) ?_
  refine lv_goto (tgt := 15) hx hb dX0_isHour_11 (by decide) ?_
  exact wt_zret hx hb hr hlk hK hM (by decide) hf dX0_isHour_15
end
set_option maxHeartbeats 4000000 in
set_option maxRecDepth 100000 in
theorem c_X0_isHour {l : Launch} {D : va_G} {tI tII : ClassId} {B F : Nat} {x0 : Int32} {σ σ' : Mem} {r : Int32} (hf : f_X0_isHour F x0 σ = some (r, σ')) : wt_Mi l yX0_isHour cX0_isHour 1 (some .boolean) rm_X0_isHour [.int x0] D tI tII B σ r σ' := by
  refine Met.ofW (cc := cX0_isHour) (maxL := 1) (ret := (some .boolean)) (by decide) rfl ?_
  intro p e s m args below meth c s₁ B9 hml hv
  obtain ⟨rfl, hP, hK⟩ := hv
  have hl := lv_entry ([.int x0]) (n := 1) (qz_b rfl)
  rw [lg_entry_eq]
  generalize (lg_sl ([.int x0]) ++ List.replicate (1 - (lg_sl ([.int x0])).length) Slot.unset).toArray = ls at hl ⊢
  exact w_X0_isHour_0 (wt_C_of B9 hml hK) hf ⟨hP, va_S.rf⟩ hl
section
variable {p : Program} {l : Launch} {e : Env} {s : State} {m : MethodId} {args : Array Value} {below : List Frame} {meth : Method} {c : Code} {D : va_G} {tI tII : ClassId} {B : Nat}
set_option maxHeartbeats 4000000 in
set_option maxRecDepth 100000 in
theorem w_X0_isPane_22 (C : wt_C p s m args meth c RX0 cX0_isPane 2 (some .boolean) D tI tII) {F : Nat} {σ : Mem} {r : Int32} {σ' : Mem} {H : Heap} {locs : List Loc} {ls : Array Slot} (hf : j_X0_isPane_22 F σ = some (r, σ')) (hM : wt_St D tI tII B σ s H locs) (hl : lv_has ls 2 []) : W p l e rm_X0_isPane s m args below meth c H locs 0 0 (MQ below (wt_Qi D tI tII B r σ') args s 0 0 (fun q => B ≤ q)) (F0 m 22 ls []) := by
  obtain ⟨hx, hb, hts, hown, hml, hr, hlk, hK⟩ := id C
  replace hf := Eq.trans j_X0_isPane_22_e.symm hf
  refine lv_iconst (v := 0) hx hb dX0_isPane_22 (by decide) ?_
  exact wt_zret hx hb hr hlk hK hM (by decide) hf dX0_isPane_23
set_option maxHeartbeats 4000000 in
set_option maxRecDepth 100000 in
theorem w_X0_isPane_0 (C : wt_C p s m args meth c RX0 cX0_isPane 2 (some .boolean) D tI tII) {F : Nat} {h : Nat} {x1 : Int32} {σ : Mem} {r : Int32} {σ' : Mem} {H : Heap} {locs : List Loc} {ls : Array Slot} (hh : wt_isH h) (hf : f_X0_isPane F h x1 σ = some (r, σ')) (hM : wt_St D tI tII B σ s H locs) (hl : lv_has ls 2 [(0, .ref (B + h)), (1, .int x1)]) : W p l e rm_X0_isPane s m args below meth c H locs 0 0 (MQ below (wt_Qi D tI tII B r σ') args s 0 0 (fun q => B ≤ q)) (F0 m 0 ls []) := by
  obtain ⟨hx, hb, hts, hown, hml, hr, hlk, hK⟩ := id C
  replace hf := Eq.trans f_X0_isPane_e.symm hf
  refine lv_iload_n hx hb dX0_isPane_0 rfl (lv_at hl 1 rfl) ?_
  refine wq_if_lt (tgt := 22) hx hb dX0_isPane_1 (by decide) hf (fun hf => ?_) (fun hf => ?_)
  · exact w_X0_isPane_22 C hf hM (lv_sub hl [] rfl)
  refine lv_iload_n hx hb dX0_isPane_4 rfl (lv_at hl 1 rfl) ?_
  refine lv_aload_n hx hb dX0_isPane_5 rfl (lv_at hl 0 rfl) ?_
  refine gf_X0_paneCount hh hx hb hts hown hK hM tw_25 dX0_isPane_6 ?_
  refine wq_icmp_ge (tgt := 22) hx hb dX0_isPane_9 (by decide) hf (fun hf => ?_) (fun hf => ?_)
  · exact w_X0_isPane_22 C hf hM (lv_sub hl [] rfl)
  refine lv_iload_n hx hb dX0_isPane_12 rfl (lv_at hl 1 rfl) ?_
  refine lv_bipush (v := 6) hx hb dX0_isPane_13 (by decide) ?_
  refine wq_icmp_ge (tgt := 22) hx hb dX0_isPane_15 (by decide) hf (fun hf => ?_) (fun hf => ?_)
  · exact w_X0_isPane_22 C hf hM (lv_sub hl [] rfl)
  refine lv_iconst (v := 1) hx hb dX0_isPane_18 (by decide) ?_
  refine lv_goto (tgt := 23) hx hb dX0_isPane_19 (by decide) ?_
  exact wt_zret hx hb hr hlk hK hM (by decide) hf dX0_isPane_23
end
set_option maxHeartbeats 4000000 in
set_option maxRecDepth 100000 in
theorem c_X0_isPane {l : Launch} {D : va_G} {tI tII : ClassId} {B F : Nat} {h : Nat} {x1 : Int32} {σ σ' : Mem} {r : Int32} (hh : wt_isH h) (hf : f_X0_isPane F h x1 σ = some (r, σ')) : wt_Mi l yX0_isPane cX0_isPane 2 (some .boolean) rm_X0_isPane [.ref (B + h), .int x1] D tI tII B σ r σ' := by
  refine Met.ofW (cc := cX0_isPane) (maxL := 2) (ret := (some .boolean)) (by decide) rfl ?_
  intro p e s m args below meth c s₁ B9 hml hv
  obtain ⟨rfl, hP, hK⟩ := hv
  have hl := lv_entry ([.ref (B + h), .int x1]) (n := 2) (qz_b rfl)
  rw [lg_entry_eq]
  generalize (lg_sl ([.ref (B + h), .int x1]) ++ List.replicate (2 - (lg_sl ([.ref (B + h), .int x1])).length) Slot.unset).toArray = ls at hl ⊢
  exact w_X0_isPane_0 (wt_C_of B9 hml hK) hh hf ⟨hP, va_S.rf⟩ hl
section
variable {p : Program} {l : Launch} {e : Env} {s : State} {m : MethodId} {args : Array Value} {below : List Frame} {meth : Method} {c : Code} {D : va_G} {tI tII : ClassId} {B : Nat}
set_option maxHeartbeats 4000000 in
set_option maxRecDepth 100000 in
theorem w_X0_isLooker_21 (C : wt_C p s m args meth c RX0 cX0_isLooker 2 (some .boolean) D tI tII) {F : Nat} {σ : Mem} {r : Int32} {σ' : Mem} {H : Heap} {locs : List Loc} {ls : Array Slot} (hf : j_X0_isLooker_21 F σ = some (r, σ')) (hM : wt_St D tI tII B σ s H locs) (hl : lv_has ls 2 []) : W p l e rm_X0_isLooker s m args below meth c H locs 0 0 (MQ below (wt_Qi D tI tII B r σ') args s 0 0 (fun q => B ≤ q)) (F0 m 21 ls []) := by
  obtain ⟨hx, hb, hts, hown, hml, hr, hlk, hK⟩ := id C
  replace hf := Eq.trans j_X0_isLooker_21_e.symm hf
  refine lv_iconst (v := 0) hx hb dX0_isLooker_21 (by decide) ?_
  exact wt_zret hx hb hr hlk hK hM (by decide) hf dX0_isLooker_22
set_option maxHeartbeats 4000000 in
set_option maxRecDepth 100000 in
theorem w_X0_isLooker_0 (C : wt_C p s m args meth c RX0 cX0_isLooker 2 (some .boolean) D tI tII) {F : Nat} {h : Nat} {x1 : Int32} {σ : Mem} {r : Int32} {σ' : Mem} {H : Heap} {locs : List Loc} {ls : Array Slot} (hh : wt_isH h) (hf : f_X0_isLooker F h x1 σ = some (r, σ')) (hM : wt_St D tI tII B σ s H locs) (hl : lv_has ls 2 [(0, .ref (B + h)), (1, .int x1)]) : W p l e rm_X0_isLooker s m args below meth c H locs 0 0 (MQ below (wt_Qi D tI tII B r σ') args s 0 0 (fun q => B ≤ q)) (F0 m 0 ls []) := by
  obtain ⟨hx, hb, hts, hown, hml, hr, hlk, hK⟩ := id C
  replace hf := Eq.trans f_X0_isLooker_e.symm hf
  refine lv_iload_n hx hb dX0_isLooker_0 rfl (lv_at hl 1 rfl) ?_
  refine wq_if_lt (tgt := 21) hx hb dX0_isLooker_1 (by decide) hf (fun hf => ?_) (fun hf => ?_)
  · exact w_X0_isLooker_21 C hf hM (lv_sub hl [] rfl)
  refine lv_iload_n hx hb dX0_isLooker_4 rfl (lv_at hl 1 rfl) ?_
  refine lv_aload_n hx hb dX0_isLooker_5 rfl (lv_at hl 0 rfl) ?_
  refine gf_X0_lookerCount hh hx hb hts hown hK hM tw_30 dX0_isLooker_6 ?_
  refine wq_icmp_ge (tgt := 21) hx hb dX0_isLooker_9 (by decide) hf (fun hf => ?_) (fun hf => ?_)
  · exact w_X0_isLooker_21 C hf hM (lv_sub hl [] rfl)
  refine lv_iload_n hx hb dX0_isLooker_12 rfl (lv_at hl 1 rfl) ?_
  refine lv_iconst (v := 5) hx hb dX0_isLooker_13 (by decide) ?_
  refine wq_icmp_ge (tgt := 21) hx hb dX0_isLooker_14 (by decide) hf (fun hf => ?_) (fun hf => ?_)
  · exact w_X0_isLooker_21 C hf hM (lv_sub hl [] rfl)
  refine lv_iconst (v := 1) hx hb dX0_isLooker_17 (by decide) ?_
  refine lv_goto (tgt := 22) hx hb dX0_isLooker_18 (by decide) ?_
  exact wt_zret hx hb hr hlk hK hM (by decide) hf dX0_isLooker_22
end
set_option maxHeartbeats 4000000 in
set_option maxRecDepth 100000 in
theorem c_X0_isLooker {l : Launch} {D : va_G} {tI tII : ClassId} {B F : Nat} {h : Nat} {x1 : Int32} {σ σ' : Mem} {r : Int32} (hh : wt_isH h) (hf : f_X0_isLooker F h x1 σ = some (r, σ')) : wt_Mi l yX0_isLooker cX0_isLooker 2 (some .boolean) rm_X0_isLooker [.ref (B + h), .int x1] D tI tII B σ r σ' := by
  refine Met.ofW (cc := cX0_isLooker) (maxL := 2) (ret := (some .boolean)) (by decide) rfl ?_
  intro p e s m args below meth c s₁ B9 hml hv
  obtain ⟨rfl, hP, hK⟩ := hv
  have hl := lv_entry ([.ref (B + h), .int x1]) (n := 2) (qz_b rfl)
  rw [lg_entry_eq]
  generalize (lg_sl ([.ref (B + h), .int x1]) ++ List.replicate (2 - (lg_sl ([.ref (B + h), .int x1])).length) Slot.unset).toArray = ls at hl ⊢
  exact w_X0_isLooker_0 (wt_C_of B9 hml hK) hh hf ⟨hP, va_S.rf⟩ hl
section
variable {p : Program} {l : Launch} {e : Env} {s : State} {m : MethodId} {args : Array Value} {below : List Frame} {meth : Method} {c : Code} {D : va_G} {tI tII : ClassId} {B : Nat}
set_option maxHeartbeats 4000000 in
set_option maxRecDepth 100000 in
theorem w_X0_addPane_27 (C : wt_C p s m args meth c RX0 cX0_addPane 2 (some .boolean) D tI tII) {F : Nat} {σ : Mem} {r : Int32} {σ' : Mem} {H : Heap} {locs : List Loc} {ls : Array Slot} (hf : j_X0_addPane_27 F σ = some (r, σ')) (hM : wt_St D tI tII B σ s H locs) (hl : lv_has ls 2 []) : W p l e rm_X0_addPane s m args below meth c H locs 0 0 (MQ below (wt_Qi D tI tII B r σ') args s 0 0 (fun q => B ≤ q)) (F0 m 27 ls []) := by
  obtain ⟨hx, hb, hts, hown, hml, hr, hlk, hK⟩ := id C
  replace hf := Eq.trans j_X0_addPane_27_e.symm hf
  refine lv_iconst (v := 0) hx hb dX0_addPane_27 (by decide) ?_
  exact wt_zret hx hb hr hlk hK hM (by decide) hf dX0_addPane_28
set_option maxHeartbeats 4000000 in
set_option maxRecDepth 100000 in
theorem w_X0_addPane_0 (C : wt_C p s m args meth c RX0 cX0_addPane 2 (some .boolean) D tI tII) {F : Nat} {h : Nat} {x1 : Int32} {σ : Mem} {r : Int32} {σ' : Mem} {H : Heap} {locs : List Loc} {ls : Array Slot} (hh : wt_isH h) (hf : f_X0_addPane F h x1 σ = some (r, σ')) (hM : wt_St D tI tII B σ s H locs) (hl : lv_has ls 2 [(0, .ref (B + h)), (1, .int x1)]) : W p l e rm_X0_addPane s m args below meth c H locs 0 0 (MQ below (wt_Qi D tI tII B r σ') args s 0 0 (fun q => B ≤ q)) (F0 m 0 ls []) := by
  obtain ⟨hx, hb, hts, hown, hml, hr, hlk, hK⟩ := id C
  replace hf := Eq.trans f_X0_addPane_e.symm hf
  refine lv_iload_n hx hb dX0_addPane_0 rfl (lv_at hl 1 rfl) ?_
  refine wq_if_lt (tgt := 27) hx hb dX0_addPane_1 (by decide) hf (fun hf => ?_) (fun hf => ?_)
  · exact w_X0_addPane_27 C hf hM (lv_sub hl [] rfl)
  refine lv_iload_n hx hb dX0_addPane_4 rfl (lv_at hl 1 rfl) ?_
  refine lv_sipush (v := 255) hx hb dX0_addPane_5 (by decide) ?_
  refine wq_icmp_gt (tgt := 27) hx hb dX0_addPane_8 (by decide) hf (fun hf => ?_) (fun hf => ?_)
  · exact w_X0_addPane_27 C hf hM (lv_sub hl [] rfl)
  refine lv_aload_n hx hb dX0_addPane_11 rfl (lv_at hl 0 rfl) ?_
  refine gf_X0_paneCount hh hx hb hts hown hK hM tw_25 dX0_addPane_12 ?_
  refine wq_if_lt (tgt := 27) hx hb dX0_addPane_15 (by decide) hf (fun hf => ?_) (fun hf => ?_)
  · exact w_X0_addPane_27 C hf hM (lv_sub hl [] rfl)
  refine lv_aload_n hx hb dX0_addPane_18 rfl (lv_at hl 0 rfl) ?_
  refine gf_X0_paneCount hh hx hb hts hown hK hM tw_25 dX0_addPane_19 ?_
  refine lv_bipush (v := 6) hx hb dX0_addPane_22 (by decide) ?_
  refine wq_icmp_lt (tgt := 29) hx hb dX0_addPane_24 (by decide) hf (fun hf => ?_) (fun hf => ?_)
  · refine lv_aload_n hx hb dX0_addPane_29 rfl (lv_at hl 0 rfl) ?_
    refine gf_X0_paneViews hh hx hb hts hown hK hM tw_27 dX0_addPane_30 ?_
    refine lv_aload_n hx hb dX0_addPane_33 rfl (lv_at hl 0 rfl) ?_
    refine gf_X0_paneCount hh hx hb hts hown hK hM tw_25 dX0_addPane_34 ?_
    refine lv_iload_n hx hb dX0_addPane_37 rfl (lv_at hl 1 rfl) ?_
    obtain ⟨i1, hf⟩ := wt_chk_of hf
    refine wt_ist hx hb hK hM (wt_aH_1 hh) i1 dX0_addPane_38 hf (fun s2 H locs hf hM => ?_)
    refine lv_aload_n hx hb dX0_addPane_39 rfl (lv_at hl 0 rfl) ?_
    refine lv_dup hx hb dX0_addPane_40 rfl ?_
    refine gf_X0_paneCount hh hx hb hts hown hK hM tw_25 dX0_addPane_41 ?_
    refine lv_iconst (v := 1) hx hb dX0_addPane_44 (by decide) ?_
    refine lv_iadd hx hb dX0_addPane_45 ?_
    refine pf_X0_paneCount hh hx hb hts hown hK hM tw_25 dX0_addPane_46 hf (fun s3 H locs hf hM => ?_)
    refine lv_iconst (v := 1) hx hb dX0_addPane_49 (by decide) ?_
    exact wt_zret hx hb hr hlk hK hM (by decide) hf dX0_addPane_50
  exact w_X0_addPane_27 C hf hM (lv_sub hl [] rfl)
end
set_option maxHeartbeats 4000000 in
set_option maxRecDepth 100000 in
theorem c_X0_addPane {l : Launch} {D : va_G} {tI tII : ClassId} {B F : Nat} {h : Nat} {x1 : Int32} {σ σ' : Mem} {r : Int32} (hh : wt_isH h) (hf : f_X0_addPane F h x1 σ = some (r, σ')) : wt_Mi l yX0_addPane cX0_addPane 2 (some .boolean) rm_X0_addPane [.ref (B + h), .int x1] D tI tII B σ r σ' := by
  refine Met.ofW (cc := cX0_addPane) (maxL := 2) (ret := (some .boolean)) (by decide) rfl ?_
  intro p e s m args below meth c s₁ B9 hml hv
  obtain ⟨rfl, hP, hK⟩ := hv
  have hl := lv_entry ([.ref (B + h), .int x1]) (n := 2) (qz_b rfl)
  rw [lg_entry_eq]
  generalize (lg_sl ([.ref (B + h), .int x1]) ++ List.replicate (2 - (lg_sl ([.ref (B + h), .int x1])).length) Slot.unset).toArray = ls at hl ⊢
  exact w_X0_addPane_0 (wt_C_of B9 hml hK) hh hf ⟨hP, va_S.rf⟩ hl
section
variable {p : Program} {l : Launch} {e : Env} {s : State} {m : MethodId} {args : Array Value} {below : List Frame} {meth : Method} {c : Code} {D : va_G} {tI tII : ClassId} {B : Nat}
set_option maxHeartbeats 4000000 in
set_option maxRecDepth 100000 in
theorem w_X0_addLooker_35 (C : wt_C p s m args meth c RX0 cX0_addLooker 4 (some .boolean) D tI tII) {F : Nat} {σ : Mem} {r : Int32} {σ' : Mem} {H : Heap} {locs : List Loc} {ls : Array Slot} (hf : j_X0_addLooker_35 F σ = some (r, σ')) (hM : wt_St D tI tII B σ s H locs) (hl : lv_has ls 4 []) : W p l e rm_X0_addLooker s m args below meth c H locs 0 0 (MQ below (wt_Qi D tI tII B r σ') args s 0 0 (fun q => B ≤ q)) (F0 m 35 ls []) := by
  obtain ⟨hx, hb, hts, hown, hml, hr, hlk, hK⟩ := id C
  replace hf := Eq.trans j_X0_addLooker_35_e.symm hf
  refine lv_iconst (v := 0) hx hb dX0_addLooker_35 (by decide) ?_
  exact wt_zret hx hb hr hlk hK hM (by decide) hf dX0_addLooker_36
set_option maxHeartbeats 4000000 in
set_option maxRecDepth 100000 in
theorem w_X0_addLooker_86 (C : wt_C p s m args meth c RX0 cX0_addLooker 4 (some .boolean) D tI tII) {F : Nat} {h : Nat} {r : Int32} {σ' : Mem} (hh : wt_isH h) : ∀ (N : Nat) (x3 : Int32) (σ : Mem) (H : Heap) (locs : List Loc) (ls : Array Slot), lp_X0_addLooker_86 F h N x3 σ = some (r, σ') → wt_St D tI tII B σ s H locs → lv_has ls 4 [(0, .ref (B + h)), (3, .int x3)] → W p l e rm_X0_addLooker s m args below meth c H locs 0 0 (MQ below (wt_Qi D tI tII B r σ') args s 0 0 (fun q => B ≤ q)) (F0 m 86 ls []) := by
  obtain ⟨hx, hb, hts, hown, hml, hr, hlk, hK⟩ := id C
  intro N
  induction N with
  | zero => intro x3 σ H locs ls hf; exact wt_none (show (none : Option (Int32 × Mem)) = some (r, σ') from hf)
  | succ N ih =>
    intro x3 σ H locs ls hf hM hl
    replace hf := Eq.trans lp_X0_addLooker_86_s.symm hf
    refine lv_iload_n hx hb dX0_addLooker_86 rfl (lv_at hl 1 rfl) ?_
    refine lv_bipush (v := 8) hx hb dX0_addLooker_87 (by decide) ?_
    refine wq_icmp_ge (tgt := 110) hx hb dX0_addLooker_89 (by decide) hf (fun hf => ?_) (fun hf => ?_)
    · refine lv_aload_n hx hb dX0_addLooker_110 rfl (lv_at hl 0 rfl) ?_
      refine lv_dup hx hb dX0_addLooker_111 rfl ?_
      refine gf_X0_lookerCount hh hx hb hts hown hK hM tw_30 dX0_addLooker_112 ?_
      refine lv_iconst (v := 1) hx hb dX0_addLooker_115 (by decide) ?_
      refine lv_iadd hx hb dX0_addLooker_116 ?_
      refine pf_X0_lookerCount hh hx hb hts hown hK hM tw_30 dX0_addLooker_117 hf (fun s1 H locs hf hM => ?_)
      refine lv_iconst (v := 1) hx hb dX0_addLooker_120 (by decide) ?_
      exact wt_zret hx hb hr hlk hK hM (by decide) hf dX0_addLooker_121
    refine lv_aload_n hx hb dX0_addLooker_92 rfl (lv_at hl 0 rfl) ?_
    refine gf_X0_counts hh hx hb hts hown hK hM tw_38 dX0_addLooker_93 ?_
    refine lv_aload_n hx hb dX0_addLooker_96 rfl (lv_at hl 0 rfl) ?_
    refine gf_X0_lookerCount hh hx hb hts hown hK hM tw_30 dX0_addLooker_97 ?_
    obtain ⟨i2, hf⟩ := wt_chk_of hf
    refine wt_ald hx hb hK hM (wt_aaH_10 hh) i2 dX0_addLooker_100 ?_
    refine lv_iload_n hx hb dX0_addLooker_101 rfl (lv_at hl 1 rfl) ?_
    refine lv_iconst (v := 0) hx hb dX0_addLooker_102 (by decide) ?_
    obtain ⟨i3, hf⟩ := wt_chk_of hf
    refine wt_ist hx hb hK hM (wt_rH_10 hh i2) i3 dX0_addLooker_103 hf (fun s4 H locs hf hM => ?_)
    refine lv_iinc (v := (x3 + (1 : Int32))) (lv' := [(3, .int (x3 + (1 : Int32))), (0, .ref (B + h))]) hx hb dX0_addLooker_104 hl (k := 1) rfl rfl (by decide) rfl (fun ls hl => ?_)
    refine lv_goto (tgt := 86) hx hb dX0_addLooker_107 (by decide) ?_
    exact ih _ _ _ _ _ hf hM (lv_sub hl [1, 0] rfl)
set_option maxHeartbeats 4000000 in
set_option maxRecDepth 100000 in
theorem w_X0_addLooker_59 (C : wt_C p s m args meth c RX0 cX0_addLooker 4 (some .boolean) D tI tII) {F : Nat} {h : Nat} {r : Int32} {σ' : Mem} (hh : wt_isH h) : ∀ (N : Nat) (x3 : Int32) (σ : Mem) (H : Heap) (locs : List Loc) (ls : Array Slot), lp_X0_addLooker_59 F h N x3 σ = some (r, σ') → wt_St D tI tII B σ s H locs → lv_has ls 4 [(0, .ref (B + h)), (3, .int x3)] → W p l e rm_X0_addLooker s m args below meth c H locs 0 0 (MQ below (wt_Qi D tI tII B r σ') args s 0 0 (fun q => B ≤ q)) (F0 m 59 ls []) := by
  obtain ⟨hx, hb, hts, hown, hml, hr, hlk, hK⟩ := id C
  intro N
  induction N with
  | zero => intro x3 σ H locs ls hf; exact wt_none (show (none : Option (Int32 × Mem)) = some (r, σ') from hf)
  | succ N ih =>
    intro x3 σ H locs ls hf hM hl
    replace hf := Eq.trans lp_X0_addLooker_59_s.symm hf
    refine lv_iload_n hx hb dX0_addLooker_59 rfl (lv_at hl 1 rfl) ?_
    refine lv_bipush (v := 24) hx hb dX0_addLooker_60 (by decide) ?_
    refine wq_icmp_ge (tgt := 84) hx hb dX0_addLooker_62 (by decide) hf (fun hf => ?_) (fun hf => ?_)
    · refine lv_iconst (v := 0) hx hb dX0_addLooker_84 (by decide) ?_
      refine lv_istore_n (lv' := [(3, .int (0 : Int32)), (0, .ref (B + h))]) hx hb dX0_addLooker_85 rfl hl (by decide) rfl (fun ls hl => ?_)
      exact w_X0_addLooker_86 C hh _ _ _ _ _ _ hf hM (lv_sub hl [1, 0] rfl)
    refine lv_aload_n hx hb dX0_addLooker_65 rfl (lv_at hl 0 rfl) ?_
    refine gf_X0_rosters hh hx hb hts hown hK hM tw_36 dX0_addLooker_66 ?_
    refine lv_aload_n hx hb dX0_addLooker_69 rfl (lv_at hl 0 rfl) ?_
    refine gf_X0_lookerCount hh hx hb hts hown hK hM tw_30 dX0_addLooker_70 ?_
    obtain ⟨i5, hf⟩ := wt_chk_of hf
    refine wt_ald hx hb hK hM (wt_aaH_4 hh) i5 dX0_addLooker_73 ?_
    refine lv_iload_n hx hb dX0_addLooker_74 rfl (lv_at hl 1 rfl) ?_
    refine lv_bipush (v := 9) hx hb dX0_addLooker_75 (by decide) ?_
    obtain ⟨i6, hf⟩ := wt_chk_of hf
    refine wt_ist hx hb hK hM (wt_rH_4 hh i5) i6 dX0_addLooker_77 hf (fun s7 H locs hf hM => ?_)
    refine lv_iinc (v := (x3 + (1 : Int32))) (lv' := [(3, .int (x3 + (1 : Int32))), (0, .ref (B + h))]) hx hb dX0_addLooker_78 hl (k := 1) rfl rfl (by decide) rfl (fun ls hl => ?_)
    refine lv_goto (tgt := 59) hx hb dX0_addLooker_81 (by decide) ?_
    exact ih _ _ _ _ _ hf hM (lv_sub hl [1, 0] rfl)
set_option maxHeartbeats 4000000 in
set_option maxRecDepth 100000 in
theorem w_X0_addLooker_0 (C : wt_C p s m args meth c RX0 cX0_addLooker 4 (some .boolean) D tI tII) {F : Nat} {h : Nat} {x1 : Int32} {x2 : Int32} {σ : Mem} {r : Int32} {σ' : Mem} {H : Heap} {locs : List Loc} {ls : Array Slot} (hh : wt_isH h) (hf : f_X0_addLooker F h x1 x2 σ = some (r, σ')) (hM : wt_St D tI tII B σ s H locs) (hl : lv_has ls 4 [(0, .ref (B + h)), (1, .int x1), (2, .int x2)]) : W p l e rm_X0_addLooker s m args below meth c H locs 0 0 (MQ below (wt_Qi D tI tII B r σ') args s 0 0 (fun q => B ≤ q)) (F0 m 0 ls []) := by
  obtain ⟨hx, hb, hts, hown, hml, hr, hlk, hK⟩ := id C
  replace hf := Eq.trans f_X0_addLooker_e.symm hf
  refine lv_iload_n hx hb dX0_addLooker_0 rfl (lv_at hl 1 rfl) ?_
  refine wq_if_lt (tgt := 35) hx hb dX0_addLooker_1 (by decide) hf (fun hf => ?_) (fun hf => ?_)
  · exact w_X0_addLooker_35 C hf hM (lv_sub hl [] rfl)
  refine lv_iload_n hx hb dX0_addLooker_4 rfl (lv_at hl 1 rfl) ?_
  refine lv_bipush (v := 6) hx hb dX0_addLooker_5 (by decide) ?_
  refine wq_icmp_ge (tgt := 35) hx hb dX0_addLooker_7 (by decide) hf (fun hf => ?_) (fun hf => ?_)
  · exact w_X0_addLooker_35 C hf hM (lv_sub hl [] rfl)
  refine lv_iload_n hx hb dX0_addLooker_10 rfl (lv_at hl 2 rfl) ?_
  refine wq_if_lt (tgt := 35) hx hb dX0_addLooker_11 (by decide) hf (fun hf => ?_) (fun hf => ?_)
  · exact w_X0_addLooker_35 C hf hM (lv_sub hl [] rfl)
  refine lv_iload_n hx hb dX0_addLooker_14 rfl (lv_at hl 2 rfl) ?_
  refine lv_bipush (v := 9) hx hb dX0_addLooker_15 (by decide) ?_
  refine wq_icmp_gt (tgt := 35) hx hb dX0_addLooker_17 (by decide) hf (fun hf => ?_) (fun hf => ?_)
  · exact w_X0_addLooker_35 C hf hM (lv_sub hl [] rfl)
  refine lv_aload_n hx hb dX0_addLooker_20 rfl (lv_at hl 0 rfl) ?_
  refine gf_X0_lookerCount hh hx hb hts hown hK hM tw_30 dX0_addLooker_21 ?_
  refine wq_if_lt (tgt := 35) hx hb dX0_addLooker_24 (by decide) hf (fun hf => ?_) (fun hf => ?_)
  · exact w_X0_addLooker_35 C hf hM (lv_sub hl [] rfl)
  refine lv_aload_n hx hb dX0_addLooker_27 rfl (lv_at hl 0 rfl) ?_
  refine gf_X0_lookerCount hh hx hb hts hown hK hM tw_30 dX0_addLooker_28 ?_
  refine lv_iconst (v := 5) hx hb dX0_addLooker_31 (by decide) ?_
  refine wq_icmp_lt (tgt := 37) hx hb dX0_addLooker_32 (by decide) hf (fun hf => ?_) (fun hf => ?_)
  · refine lv_aload_n hx hb dX0_addLooker_37 rfl (lv_at hl 0 rfl) ?_
    refine gf_X0_kinds hh hx hb hts hown hK hM tw_32 dX0_addLooker_38 ?_
    refine lv_aload_n hx hb dX0_addLooker_41 rfl (lv_at hl 0 rfl) ?_
    refine gf_X0_lookerCount hh hx hb hts hown hK hM tw_30 dX0_addLooker_42 ?_
    refine lv_iload_n hx hb dX0_addLooker_45 rfl (lv_at hl 1 rfl) ?_
    obtain ⟨i8, hf⟩ := wt_chk_of hf
    refine wt_ist hx hb hK hM (wt_aH_2 hh) i8 dX0_addLooker_46 hf (fun s9 H locs hf hM => ?_)
    refine lv_aload_n hx hb dX0_addLooker_47 rfl (lv_at hl 0 rfl) ?_
    refine gf_X0_figures hh hx hb hts hown hK hM tw_34 dX0_addLooker_48 ?_
    refine lv_aload_n hx hb dX0_addLooker_51 rfl (lv_at hl 0 rfl) ?_
    refine gf_X0_lookerCount hh hx hb hts hown hK hM tw_30 dX0_addLooker_52 ?_
    refine lv_iload_n hx hb dX0_addLooker_55 rfl (lv_at hl 2 rfl) ?_
    obtain ⟨i10, hf⟩ := wt_chk_of hf
    refine wt_ist hx hb hK hM (wt_aH_3 hh) i10 dX0_addLooker_56 hf (fun s11 H locs hf hM => ?_)
    refine lv_iconst (v := 0) hx hb dX0_addLooker_57 (by decide) ?_
    refine lv_istore_n (lv' := [(3, .int (0 : Int32)), (0, .ref (B + h)), (1, .int x1), (2, .int x2)]) hx hb dX0_addLooker_58 rfl hl (by decide) rfl (fun ls hl => ?_)
    exact w_X0_addLooker_59 C hh _ _ _ _ _ _ hf hM (lv_sub hl [1, 0] rfl)
  exact w_X0_addLooker_35 C hf hM (lv_sub hl [] rfl)
end
set_option maxHeartbeats 4000000 in
set_option maxRecDepth 100000 in
theorem c_X0_addLooker {l : Launch} {D : va_G} {tI tII : ClassId} {B F : Nat} {h : Nat} {x1 : Int32} {x2 : Int32} {σ σ' : Mem} {r : Int32} (hh : wt_isH h) (hf : f_X0_addLooker F h x1 x2 σ = some (r, σ')) : wt_Mi l yX0_addLooker cX0_addLooker 4 (some .boolean) rm_X0_addLooker [.ref (B + h), .int x1, .int x2] D tI tII B σ r σ' := by
  refine Met.ofW (cc := cX0_addLooker) (maxL := 4) (ret := (some .boolean)) (by decide) rfl ?_
  intro p e s m args below meth c s₁ B9 hml hv
  obtain ⟨rfl, hP, hK⟩ := hv
  have hl := lv_entry ([.ref (B + h), .int x1, .int x2]) (n := 4) (qz_b rfl)
  rw [lg_entry_eq]
  generalize (lg_sl ([.ref (B + h), .int x1, .int x2]) ++ List.replicate (4 - (lg_sl ([.ref (B + h), .int x1, .int x2])).length) Slot.unset).toArray = ls at hl ⊢
  exact w_X0_addLooker_0 (wt_C_of B9 hml hK) hh hf ⟨hP, va_S.rf⟩ hl
section
variable {p : Program} {l : Launch} {e : Env} {s : State} {m : MethodId} {args : Array Value} {below : List Frame} {meth : Method} {c : Code} {D : va_G} {tI tII : ClassId} {B : Nat}
set_option maxHeartbeats 4000000 in
set_option maxRecDepth 100000 in
theorem w_X0_post_43 (C : wt_C p s m args meth c RX0 cX0_post 6 (some .boolean) D tI tII) {F : Nat} {σ : Mem} {r : Int32} {σ' : Mem} {H : Heap} {locs : List Loc} {ls : Array Slot} (hf : j_X0_post_43 F σ = some (r, σ')) (hM : wt_St D tI tII B σ s H locs) (hl : lv_has ls 6 []) : W p l e rm_X0_post s m args below meth c H locs 0 0 (MQ below (wt_Qi D tI tII B r σ') args s 0 0 (fun q => B ≤ q)) (F0 m 43 ls []) := by
  obtain ⟨hx, hb, hts, hown, hml, hr, hlk, hK⟩ := id C
  replace hf := Eq.trans j_X0_post_43_e.symm hf
  refine lv_iconst (v := 0) hx hb dX0_post_43 (by decide) ?_
  exact wt_zret hx hb hr hlk hK hM (by decide) hf dX0_post_44
set_option maxHeartbeats 4000000 in
set_option maxRecDepth 100000 in
theorem w_X0_post_48 (C : wt_C p s m args meth c RX0 cX0_post 6 (some .boolean) D tI tII) {F : Nat} {h : Nat} {x1 : Int32} {x3 : Int32} {x4 : Int32} {r : Int32} {σ' : Mem} (hh : wt_isH h) : ∀ (N : Nat) (x5 : Int32) (σ : Mem) (H : Heap) (locs : List Loc) (ls : Array Slot), lp_X0_post_48 F h x1 x3 x4 N x5 σ = some (r, σ') → wt_St D tI tII B σ s H locs → lv_has ls 6 [(0, .ref (B + h)), (1, .int x1), (3, .int x3), (4, .int x4), (5, .int x5)] → W p l e rm_X0_post s m args below meth c H locs 0 0 (MQ below (wt_Qi D tI tII B r σ') args s 0 0 (fun q => B ≤ q)) (F0 m 48 ls []) := by
  obtain ⟨hx, hb, hts, hown, hml, hr, hlk, hK⟩ := id C
  intro N
  induction N with
  | zero => intro x5 σ H locs ls hf; exact wt_none (show (none : Option (Int32 × Mem)) = some (r, σ') from hf)
  | succ N ih =>
    intro x5 σ H locs ls hf hM hl
    replace hf := Eq.trans lp_X0_post_48_s.symm hf
    refine lv_iload hx hb dX0_post_48 (lv_at hl 4 rfl) ?_
    refine lv_iload_n hx hb dX0_post_50 rfl (lv_at hl 2 rfl) ?_
    refine wq_icmp_gt (tgt := 71) hx hb dX0_post_51 (by decide) hf (fun hf => ?_) (fun hf => ?_)
    · refine lv_iconst (v := 1) hx hb dX0_post_71 (by decide) ?_
      exact wt_zret hx hb hr hlk hK hM (by decide) hf dX0_post_72
    refine lv_aload_n hx hb dX0_post_54 rfl (lv_at hl 0 rfl) ?_
    refine gf_X0_rosters hh hx hb hts hown hK hM tw_36 dX0_post_55 ?_
    refine lv_iload_n hx hb dX0_post_58 rfl (lv_at hl 1 rfl) ?_
    obtain ⟨i1, hf⟩ := wt_chk_of hf
    refine wt_ald hx hb hK hM (wt_aaH_4 hh) i1 dX0_post_59 ?_
    refine lv_iload hx hb dX0_post_60 (lv_at hl 4 rfl) ?_
    refine lv_iload hx hb dX0_post_62 (lv_at hl 3 rfl) ?_
    obtain ⟨i2, hf⟩ := wt_chk_of hf
    refine wt_ist hx hb hK hM (wt_rH_4 hh i1) i2 dX0_post_64 hf (fun s3 H locs hf hM => ?_)
    refine lv_iinc (v := (x5 + (1 : Int32))) (lv' := [(5, .int (x5 + (1 : Int32))), (0, .ref (B + h)), (1, .int x1), (3, .int x3), (4, .int x4)]) hx hb dX0_post_65 hl (k := 4) rfl rfl (by decide) rfl (fun ls hl => ?_)
    refine lv_goto (tgt := 48) hx hb dX0_post_68 (by decide) ?_
    exact ih _ _ _ _ _ hf hM (lv_sub hl [1, 2, 3, 4, 0] rfl)
set_option maxHeartbeats 4000000 in
set_option maxRecDepth 100000 in
theorem w_X0_post_45 (C : wt_C p s m args meth c RX0 cX0_post 6 (some .boolean) D tI tII) {F : Nat} {h : Nat} {x1 : Int32} {x2 : Int32} {x3 : Int32} {x4 : Int32} {σ : Mem} {r : Int32} {σ' : Mem} {H : Heap} {locs : List Loc} {ls : Array Slot} (hh : wt_isH h) (hf : j_X0_post_45 F h x1 x2 x3 x4 σ = some (r, σ')) (hM : wt_St D tI tII B σ s H locs) (hl : lv_has ls 6 [(0, .ref (B + h)), (1, .int x1), (2, .int x2), (3, .int x3), (4, .int x4)]) : W p l e rm_X0_post s m args below meth c H locs 0 0 (MQ below (wt_Qi D tI tII B r σ') args s 0 0 (fun q => B ≤ q)) (F0 m 45 ls []) := by
  obtain ⟨hx, hb, hts, hown, hml, hr, hlk, hK⟩ := id C
  replace hf := Eq.trans j_X0_post_45_e.symm hf
  refine lv_iload_n hx hb dX0_post_45 rfl (lv_at hl 2 rfl) ?_
  refine lv_istore (lv' := [(5, .int x2), (0, .ref (B + h)), (1, .int x1), (2, .int x2), (3, .int x3), (4, .int x4)]) hx hb dX0_post_46 hl (by decide) rfl (fun ls hl => ?_)
  exact w_X0_post_48 C hh _ _ _ _ _ _ hf hM (lv_sub hl [1, 2, 4, 5, 0] rfl)
set_option maxHeartbeats 4000000 in
set_option maxRecDepth 100000 in
theorem w_X0_post_0 (C : wt_C p s m args meth c RX0 cX0_post 6 (some .boolean) D tI tII) {F : Nat} {h : Nat} {x1 : Int32} {x2 : Int32} {x3 : Int32} {x4 : Int32} {σ : Mem} {r : Int32} {σ' : Mem} {H : Heap} {locs : List Loc} {ls : Array Slot} (hh : wt_isH h) (hf : f_X0_post F h x1 x2 x3 x4 σ = some (r, σ')) (hM : wt_St D tI tII B σ s H locs) (hl : lv_has ls 6 [(0, .ref (B + h)), (1, .int x1), (2, .int x2), (3, .int x3), (4, .int x4)]) : W p l e rm_X0_post s m args below meth c H locs 0 0 (MQ below (wt_Qi D tI tII B r σ') args s 0 0 (fun q => B ≤ q)) (F0 m 0 ls []) := by
  obtain ⟨hx, hb, hts, hown, hml, hr, hlk, hK⟩ := id C
  replace hf := Eq.trans f_X0_post_e.symm hf
  refine lv_aload_n hx hb dX0_post_0 rfl (lv_at hl 0 rfl) ?_
  refine lv_iload_n hx hb dX0_post_1 rfl (lv_at hl 1 rfl) ?_
  refine wt_callVi (As := [.int x1]) (rest := []) hx hb hml hts hown hK hM (wt_rc_X0 hh) cw_X0_54 hd_X0_isLooker rfl ⟨qz_b rfl, qz_b rfl⟩ ⟨rfl, rfl⟩ hl.1 rfl (qz_b rfl) dX0_post_2 hf (fun _ _ h9 => c_X0_isLooker hh h9) (fun r4 s5 H locs hf hM => ?_)
  refine wq_if_eq (tgt := 43) hx hb dX0_post_5 (by decide) hf (fun hf => ?_) (fun hf => ?_)
  · exact w_X0_post_43 C hf hM (lv_sub hl [] rfl)
  refine lv_iload_n hx hb dX0_post_8 rfl (lv_at hl 2 rfl) ?_
  refine wt_callSi (As := [.int x2]) (rest := []) hx hb hml hts hown hK hM cw_X0_58 hd_X0_isHour rfl ⟨qz_b rfl, qz_b rfl⟩ ⟨rfl, rfl⟩ hl.1 rfl (qz_b rfl) dX0_post_9 hf (fun _ _ h9 => c_X0_isHour h9) (fun r6 s7 H locs hf hM => ?_)
  refine wq_if_eq (tgt := 43) hx hb dX0_post_12 (by decide) hf (fun hf => ?_) (fun hf => ?_)
  · exact w_X0_post_43 C hf hM (lv_sub hl [] rfl)
  refine lv_iload_n hx hb dX0_post_15 rfl (lv_at hl 3 rfl) ?_
  refine wt_callSi (As := [.int x3]) (rest := []) hx hb hml hts hown hK hM cw_X0_58 hd_X0_isHour rfl ⟨qz_b rfl, qz_b rfl⟩ ⟨rfl, rfl⟩ hl.1 rfl (qz_b rfl) dX0_post_16 hf (fun _ _ h9 => c_X0_isHour h9) (fun r8 s9 H locs hf hM => ?_)
  refine wq_if_eq (tgt := 43) hx hb dX0_post_19 (by decide) hf (fun hf => ?_) (fun hf => ?_)
  · exact w_X0_post_43 C hf hM (lv_sub hl [] rfl)
  refine lv_iload_n hx hb dX0_post_22 rfl (lv_at hl 2 rfl) ?_
  refine lv_iload_n hx hb dX0_post_23 rfl (lv_at hl 3 rfl) ?_
  refine wq_icmp_gt (tgt := 43) hx hb dX0_post_24 (by decide) hf (fun hf => ?_) (fun hf => ?_)
  · exact w_X0_post_43 C hf hM (lv_sub hl [] rfl)
  refine lv_iload hx hb dX0_post_27 (lv_at hl 4 rfl) ?_
  refine lv_bipush (v := 9) hx hb dX0_post_29 (by decide) ?_
  refine wq_icmp_eq (tgt := 45) hx hb dX0_post_31 (by decide) hf (fun hf => ?_) (fun hf => ?_)
  · exact w_X0_post_45 C hh hf hM hl
  refine lv_aload_n hx hb dX0_post_34 rfl (lv_at hl 0 rfl) ?_
  refine lv_iload hx hb dX0_post_35 (lv_at hl 4 rfl) ?_
  refine wt_callVi (As := [.int x4]) (rest := []) hx hb hml hts hown hK hM (wt_rc_X0 hh) cw_X0_61 hd_X0_isPane rfl ⟨qz_b rfl, qz_b rfl⟩ ⟨rfl, rfl⟩ hl.1 rfl (qz_b rfl) dX0_post_37 hf (fun _ _ h9 => c_X0_isPane hh h9) (fun r10 s11 H locs hf hM => ?_)
  refine wq_if_ne (tgt := 45) hx hb dX0_post_40 (by decide) hf (fun hf => ?_) (fun hf => ?_)
  · exact w_X0_post_45 C hh hf hM hl
  exact w_X0_post_43 C hf hM (lv_sub hl [] rfl)
end
set_option maxHeartbeats 4000000 in
set_option maxRecDepth 100000 in
theorem c_X0_post {l : Launch} {D : va_G} {tI tII : ClassId} {B F : Nat} {h : Nat} {x1 : Int32} {x2 : Int32} {x3 : Int32} {x4 : Int32} {σ σ' : Mem} {r : Int32} (hh : wt_isH h) (hf : f_X0_post F h x1 x2 x3 x4 σ = some (r, σ')) : wt_Mi l yX0_post cX0_post 6 (some .boolean) rm_X0_post [.ref (B + h), .int x1, .int x2, .int x3, .int x4] D tI tII B σ r σ' := by
  refine Met.ofW (cc := cX0_post) (maxL := 6) (ret := (some .boolean)) (by decide) rfl ?_
  intro p e s m args below meth c s₁ B9 hml hv
  obtain ⟨rfl, hP, hK⟩ := hv
  have hl := lv_entry ([.ref (B + h), .int x1, .int x2, .int x3, .int x4]) (n := 6) (qz_b rfl)
  rw [lg_entry_eq]
  generalize (lg_sl ([.ref (B + h), .int x1, .int x2, .int x3, .int x4]) ++ List.replicate (6 - (lg_sl ([.ref (B + h), .int x1, .int x2, .int x3, .int x4])).length) Slot.unset).toArray = ls at hl ⊢
  exact w_X0_post_0 (wt_C_of B9 hml hK) hh hf ⟨hP, va_S.rf⟩ hl
section
variable {p : Program} {l : Launch} {e : Env} {s : State} {m : MethodId} {args : Array Value} {below : List Frame} {meth : Method} {c : Code} {D : va_G} {tI tII : ClassId} {B : Nat}
set_option maxHeartbeats 4000000 in
set_option maxRecDepth 100000 in
theorem w_X0_flip_15 (C : wt_C p s m args meth c RX0 cX0_flip 3 (some .boolean) D tI tII) {F : Nat} {σ : Mem} {r : Int32} {σ' : Mem} {H : Heap} {locs : List Loc} {ls : Array Slot} (hf : j_X0_flip_15 F σ = some (r, σ')) (hM : wt_St D tI tII B σ s H locs) (hl : lv_has ls 3 []) : W p l e rm_X0_flip s m args below meth c H locs 0 0 (MQ below (wt_Qi D tI tII B r σ') args s 0 0 (fun q => B ≤ q)) (F0 m 15 ls []) := by
  obtain ⟨hx, hb, hts, hown, hml, hr, hlk, hK⟩ := id C
  replace hf := Eq.trans j_X0_flip_15_e.symm hf
  refine lv_iconst (v := 0) hx hb dX0_flip_15 (by decide) ?_
  exact wt_zret hx hb hr hlk hK hM (by decide) hf dX0_flip_16
set_option maxHeartbeats 4000000 in
set_option maxRecDepth 100000 in
theorem w_X0_flip_0 (C : wt_C p s m args meth c RX0 cX0_flip 3 (some .boolean) D tI tII) {F : Nat} {h : Nat} {x1 : Int32} {x2 : Int32} {σ : Mem} {r : Int32} {σ' : Mem} {H : Heap} {locs : List Loc} {ls : Array Slot} (hh : wt_isH h) (hf : f_X0_flip F h x1 x2 σ = some (r, σ')) (hM : wt_St D tI tII B σ s H locs) (hl : lv_has ls 3 [(0, .ref (B + h)), (1, .int x1), (2, .int x2)]) : W p l e rm_X0_flip s m args below meth c H locs 0 0 (MQ below (wt_Qi D tI tII B r σ') args s 0 0 (fun q => B ≤ q)) (F0 m 0 ls []) := by
  obtain ⟨hx, hb, hts, hown, hml, hr, hlk, hK⟩ := id C
  replace hf := Eq.trans f_X0_flip_e.symm hf
  refine lv_aload_n hx hb dX0_flip_0 rfl (lv_at hl 0 rfl) ?_
  refine lv_iload_n hx hb dX0_flip_1 rfl (lv_at hl 1 rfl) ?_
  refine wt_callVi (As := [.int x1]) (rest := []) hx hb hml hts hown hK hM (wt_rc_X0 hh) cw_X0_61 hd_X0_isPane rfl ⟨qz_b rfl, qz_b rfl⟩ ⟨rfl, rfl⟩ hl.1 rfl (qz_b rfl) dX0_flip_2 hf (fun _ _ h9 => c_X0_isPane hh h9) (fun r1 s2 H locs hf hM => ?_)
  refine wq_if_eq (tgt := 15) hx hb dX0_flip_5 (by decide) hf (fun hf => ?_) (fun hf => ?_)
  · exact w_X0_flip_15 C hf hM (lv_sub hl [] rfl)
  refine lv_iload_n hx hb dX0_flip_8 rfl (lv_at hl 2 rfl) ?_
  refine wt_callSi (As := [.int x2]) (rest := []) hx hb hml hts hown hK hM cw_X0_64 hd_X0_isView rfl ⟨qz_b rfl, qz_b rfl⟩ ⟨rfl, rfl⟩ hl.1 rfl (qz_b rfl) dX0_flip_9 hf (fun _ _ h9 => c_X0_isView h9) (fun r3 s4 H locs hf hM => ?_)
  refine wq_if_ne (tgt := 17) hx hb dX0_flip_12 (by decide) hf (fun hf => ?_) (fun hf => ?_)
  · refine lv_aload_n hx hb dX0_flip_17 rfl (lv_at hl 0 rfl) ?_
    refine gf_X0_paneViews hh hx hb hts hown hK hM tw_27 dX0_flip_18 ?_
    refine lv_iload_n hx hb dX0_flip_21 rfl (lv_at hl 1 rfl) ?_
    refine lv_dup2_11 hx hb dX0_flip_22 rfl rfl ?_
    obtain ⟨i5, hf⟩ := wt_chk_of hf
    refine wt_ild hx hb hK hM (wt_aH_1 hh) i5 dX0_flip_23 ?_
    refine lv_iconst (v := 1) hx hb dX0_flip_24 (by decide) ?_
    refine lv_iload_n hx hb dX0_flip_25 rfl (lv_at hl 2 rfl) ?_
    refine lv_ishl hx hb dX0_flip_26 ?_
    refine lv_ixor hx hb dX0_flip_27 ?_
    refine wt_ist hx hb hK hM (wt_aH_1 hh) i5 dX0_flip_28 hf (fun s6 H locs hf hM => ?_)
    refine lv_iconst (v := 1) hx hb dX0_flip_29 (by decide) ?_
    exact wt_zret hx hb hr hlk hK hM (by decide) hf dX0_flip_30
  exact w_X0_flip_15 C hf hM (lv_sub hl [] rfl)
end
set_option maxHeartbeats 4000000 in
set_option maxRecDepth 100000 in
theorem c_X0_flip {l : Launch} {D : va_G} {tI tII : ClassId} {B F : Nat} {h : Nat} {x1 : Int32} {x2 : Int32} {σ σ' : Mem} {r : Int32} (hh : wt_isH h) (hf : f_X0_flip F h x1 x2 σ = some (r, σ')) : wt_Mi l yX0_flip cX0_flip 3 (some .boolean) rm_X0_flip [.ref (B + h), .int x1, .int x2] D tI tII B σ r σ' := by
  refine Met.ofW (cc := cX0_flip) (maxL := 3) (ret := (some .boolean)) (by decide) rfl ?_
  intro p e s m args below meth c s₁ B9 hml hv
  obtain ⟨rfl, hP, hK⟩ := hv
  have hl := lv_entry ([.ref (B + h), .int x1, .int x2]) (n := 3) (qz_b rfl)
  rw [lg_entry_eq]
  generalize (lg_sl ([.ref (B + h), .int x1, .int x2]) ++ List.replicate (3 - (lg_sl ([.ref (B + h), .int x1, .int x2])).length) Slot.unset).toArray = ls at hl ⊢
  exact w_X0_flip_0 (wt_C_of B9 hml hK) hh hf ⟨hP, va_S.rf⟩ hl
section
variable {p : Program} {l : Launch} {e : Env} {s : State} {m : MethodId} {args : Array Value} {below : List Frame} {meth : Method} {c : Code} {D : va_G} {tI tII : ClassId} {B : Nat}
set_option maxHeartbeats 4000000 in
set_option maxRecDepth 100000 in
theorem w_X0_price_17 (C : wt_C p s m args meth c RX0 cX0_price 3 (some .boolean) D tI tII) {F : Nat} {σ : Mem} {r : Int32} {σ' : Mem} {H : Heap} {locs : List Loc} {ls : Array Slot} (hf : j_X0_price_17 F σ = some (r, σ')) (hM : wt_St D tI tII B σ s H locs) (hl : lv_has ls 3 []) : W p l e rm_X0_price s m args below meth c H locs 0 0 (MQ below (wt_Qi D tI tII B r σ') args s 0 0 (fun q => B ≤ q)) (F0 m 17 ls []) := by
  obtain ⟨hx, hb, hts, hown, hml, hr, hlk, hK⟩ := id C
  replace hf := Eq.trans j_X0_price_17_e.symm hf
  refine lv_iconst (v := 0) hx hb dX0_price_17 (by decide) ?_
  exact wt_zret hx hb hr hlk hK hM (by decide) hf dX0_price_18
set_option maxHeartbeats 4000000 in
set_option maxRecDepth 100000 in
theorem w_X0_price_0 (C : wt_C p s m args meth c RX0 cX0_price 3 (some .boolean) D tI tII) {F : Nat} {h : Nat} {x1 : Int32} {x2 : Int32} {σ : Mem} {r : Int32} {σ' : Mem} {H : Heap} {locs : List Loc} {ls : Array Slot} (hh : wt_isH h) (hf : f_X0_price F h x1 x2 σ = some (r, σ')) (hM : wt_St D tI tII B σ s H locs) (hl : lv_has ls 3 [(0, .ref (B + h)), (1, .int x1), (2, .int x2)]) : W p l e rm_X0_price s m args below meth c H locs 0 0 (MQ below (wt_Qi D tI tII B r σ') args s 0 0 (fun q => B ≤ q)) (F0 m 0 ls []) := by
  obtain ⟨hx, hb, hts, hown, hml, hr, hlk, hK⟩ := id C
  replace hf := Eq.trans f_X0_price_e.symm hf
  refine lv_iload_n hx hb dX0_price_0 rfl (lv_at hl 1 rfl) ?_
  refine wt_callSi (As := [.int x1]) (rest := []) hx hb hml hts hown hK hM cw_X0_64 hd_X0_isView rfl ⟨qz_b rfl, qz_b rfl⟩ ⟨rfl, rfl⟩ hl.1 rfl (qz_b rfl) dX0_price_1 hf (fun _ _ h9 => c_X0_isView h9) (fun r1 s2 H locs hf hM => ?_)
  refine wq_if_eq (tgt := 17) hx hb dX0_price_4 (by decide) hf (fun hf => ?_) (fun hf => ?_)
  · exact w_X0_price_17 C hf hM (lv_sub hl [] rfl)
  refine lv_iload_n hx hb dX0_price_7 rfl (lv_at hl 2 rfl) ?_
  refine wq_if_lt (tgt := 17) hx hb dX0_price_8 (by decide) hf (fun hf => ?_) (fun hf => ?_)
  · exact w_X0_price_17 C hf hM (lv_sub hl [] rfl)
  refine lv_iload_n hx hb dX0_price_11 rfl (lv_at hl 2 rfl) ?_
  refine lv_bipush (v := 9) hx hb dX0_price_12 (by decide) ?_
  refine wq_icmp_le (tgt := 19) hx hb dX0_price_14 (by decide) hf (fun hf => ?_) (fun hf => ?_)
  · refine lv_aload_n hx hb dX0_price_19 rfl (lv_at hl 0 rfl) ?_
    refine gf_X0_worths hh hx hb hts hown hK hM tw_40 dX0_price_20 ?_
    refine lv_iload_n hx hb dX0_price_23 rfl (lv_at hl 1 rfl) ?_
    refine lv_iload_n hx hb dX0_price_24 rfl (lv_at hl 2 rfl) ?_
    obtain ⟨i3, hf⟩ := wt_chk_of hf
    refine wt_ist hx hb hK hM (wt_aH_16 hh) i3 dX0_price_25 hf (fun s4 H locs hf hM => ?_)
    refine lv_iconst (v := 1) hx hb dX0_price_26 (by decide) ?_
    exact wt_zret hx hb hr hlk hK hM (by decide) hf dX0_price_27
  exact w_X0_price_17 C hf hM (lv_sub hl [] rfl)
end
set_option maxHeartbeats 4000000 in
set_option maxRecDepth 100000 in
theorem c_X0_price {l : Launch} {D : va_G} {tI tII : ClassId} {B F : Nat} {h : Nat} {x1 : Int32} {x2 : Int32} {σ σ' : Mem} {r : Int32} (hh : wt_isH h) (hf : f_X0_price F h x1 x2 σ = some (r, σ')) : wt_Mi l yX0_price cX0_price 3 (some .boolean) rm_X0_price [.ref (B + h), .int x1, .int x2] D tI tII B σ r σ' := by
  refine Met.ofW (cc := cX0_price) (maxL := 3) (ret := (some .boolean)) (by decide) rfl ?_
  intro p e s m args below meth c s₁ B9 hml hv
  obtain ⟨rfl, hP, hK⟩ := hv
  have hl := lv_entry ([.ref (B + h), .int x1, .int x2]) (n := 3) (qz_b rfl)
  rw [lg_entry_eq]
  generalize (lg_sl ([.ref (B + h), .int x1, .int x2]) ++ List.replicate (3 - (lg_sl ([.ref (B + h), .int x1, .int x2])).length) Slot.unset).toArray = ls at hl ⊢
  exact w_X0_price_0 (wt_C_of B9 hml hK) hh hf ⟨hP, va_S.rf⟩ hl
section
variable {p : Program} {l : Launch} {e : Env} {s : State} {m : MethodId} {args : Array Value} {below : List Frame} {meth : Method} {c : Code} {D : va_G} {tI tII : ClassId} {B : Nat}
set_option maxHeartbeats 4000000 in
set_option maxRecDepth 100000 in
theorem w_X0_rule_9 (C : wt_C p s m args meth c RX0 cX0_rule 2 (some .boolean) D tI tII) {F : Nat} {σ : Mem} {r : Int32} {σ' : Mem} {H : Heap} {locs : List Loc} {ls : Array Slot} (hf : j_X0_rule_9 F σ = some (r, σ')) (hM : wt_St D tI tII B σ s H locs) (hl : lv_has ls 2 []) : W p l e rm_X0_rule s m args below meth c H locs 0 0 (MQ below (wt_Qi D tI tII B r σ') args s 0 0 (fun q => B ≤ q)) (F0 m 9 ls []) := by
  obtain ⟨hx, hb, hts, hown, hml, hr, hlk, hK⟩ := id C
  replace hf := Eq.trans j_X0_rule_9_e.symm hf
  refine lv_iconst (v := 0) hx hb dX0_rule_9 (by decide) ?_
  exact wt_zret hx hb hr hlk hK hM (by decide) hf dX0_rule_10
set_option maxHeartbeats 4000000 in
set_option maxRecDepth 100000 in
theorem w_X0_rule_0 (C : wt_C p s m args meth c RX0 cX0_rule 2 (some .boolean) D tI tII) {F : Nat} {h : Nat} {x1 : Int32} {σ : Mem} {r : Int32} {σ' : Mem} {H : Heap} {locs : List Loc} {ls : Array Slot} (hh : wt_isH h) (hf : f_X0_rule F h x1 σ = some (r, σ')) (hM : wt_St D tI tII B σ s H locs) (hl : lv_has ls 2 [(0, .ref (B + h)), (1, .int x1)]) : W p l e rm_X0_rule s m args below meth c H locs 0 0 (MQ below (wt_Qi D tI tII B r σ') args s 0 0 (fun q => B ≤ q)) (F0 m 0 ls []) := by
  obtain ⟨hx, hb, hts, hown, hml, hr, hlk, hK⟩ := id C
  replace hf := Eq.trans f_X0_rule_e.symm hf
  refine lv_iload_n hx hb dX0_rule_0 rfl (lv_at hl 1 rfl) ?_
  refine wq_if_lt (tgt := 9) hx hb dX0_rule_1 (by decide) hf (fun hf => ?_) (fun hf => ?_)
  · exact w_X0_rule_9 C hf hM (lv_sub hl [] rfl)
  refine lv_iload_n hx hb dX0_rule_4 rfl (lv_at hl 1 rfl) ?_
  refine lv_iconst (v := 3) hx hb dX0_rule_5 (by decide) ?_
  refine wq_icmp_lt (tgt := 11) hx hb dX0_rule_6 (by decide) hf (fun hf => ?_) (fun hf => ?_)
  · refine lv_aload_n hx hb dX0_rule_11 rfl (lv_at hl 0 rfl) ?_
    refine lv_iload_n hx hb dX0_rule_12 rfl (lv_at hl 1 rfl) ?_
    refine pf_X0_law hh hx hb hts hown hK hM tw_42 dX0_rule_13 hf (fun s1 H locs hf hM => ?_)
    refine lv_iconst (v := 1) hx hb dX0_rule_16 (by decide) ?_
    exact wt_zret hx hb hr hlk hK hM (by decide) hf dX0_rule_17
  exact w_X0_rule_9 C hf hM (lv_sub hl [] rfl)
end
set_option maxHeartbeats 4000000 in
set_option maxRecDepth 100000 in
theorem c_X0_rule {l : Launch} {D : va_G} {tI tII : ClassId} {B F : Nat} {h : Nat} {x1 : Int32} {σ σ' : Mem} {r : Int32} (hh : wt_isH h) (hf : f_X0_rule F h x1 σ = some (r, σ')) : wt_Mi l yX0_rule cX0_rule 2 (some .boolean) rm_X0_rule [.ref (B + h), .int x1] D tI tII B σ r σ' := by
  refine Met.ofW (cc := cX0_rule) (maxL := 2) (ret := (some .boolean)) (by decide) rfl ?_
  intro p e s m args below meth c s₁ B9 hml hv
  obtain ⟨rfl, hP, hK⟩ := hv
  have hl := lv_entry ([.ref (B + h), .int x1]) (n := 2) (qz_b rfl)
  rw [lg_entry_eq]
  generalize (lg_sl ([.ref (B + h), .int x1]) ++ List.replicate (2 - (lg_sl ([.ref (B + h), .int x1])).length) Slot.unset).toArray = ls at hl ⊢
  exact w_X0_rule_0 (wt_C_of B9 hml hK) hh hf ⟨hP, va_S.rf⟩ hl
section
variable {p : Program} {l : Launch} {e : Env} {s : State} {m : MethodId} {args : Array Value} {below : List Frame} {meth : Method} {c : Code} {D : va_G} {tI tII : ClassId} {B : Nat}
set_option maxHeartbeats 4000000 in
set_option maxRecDepth 100000 in
theorem w_X0_shownBy_30 (C : wt_C p s m args meth c RX0 cX0_shownBy 4 (some .int) D tI tII) {F : Nat} {k4 : Int32 → Int32 → Mem → Option (Int32 × Mem)} {h : Nat} {x1 : Int32} {x2 : Int32} {x3 : Int32} {σ : Mem} {r : Int32} {σ' : Mem} {H : Heap} {locs : List Loc} {ls : Array Slot} (hh : wt_isH h) (hk4 : ∀ (x2 : Int32) (x3 : Int32) (σ : Mem) (H : Heap) (locs : List Loc) (ls : Array Slot), k4 x2 x3 σ = some (r, σ') → wt_St D tI tII B σ s H locs → lv_has ls 4 [(0, .ref (B + h)), (1, .int x1), (2, .int x2), (3, .int x3)] → W p l e rm_X0_shownBy s m args below meth c H locs 0 0 (MQ below (wt_Qi D tI tII B r σ') args s 0 0 (fun q => B ≤ q)) (F0 m 4 ls [])) (hf : j_X0_shownBy_30 F k4 h x1 x2 x3 σ = some (r, σ')) (hM : wt_St D tI tII B σ s H locs) (hl : lv_has ls 4 [(0, .ref (B + h)), (1, .int x1), (2, .int x2), (3, .int x3)]) : W p l e rm_X0_shownBy s m args below meth c H locs 0 0 (MQ below (wt_Qi D tI tII B r σ') args s 0 0 (fun q => B ≤ q)) (F0 m 30 ls []) := by
  obtain ⟨hx, hb, hts, hown, hml, hr, hlk, hK⟩ := id C
  replace hf := Eq.trans j_X0_shownBy_30_e.symm hf
  refine lv_iinc (v := (x3 + (1 : Int32))) (lv' := [(3, .int (x3 + (1 : Int32))), (0, .ref (B + h)), (1, .int x1), (2, .int x2)]) hx hb dX0_shownBy_30 hl (k := 3) rfl rfl (by decide) rfl (fun ls hl => ?_)
  refine lv_goto (tgt := 4) hx hb dX0_shownBy_33 (by decide) ?_
  exact hk4 _ _ _ _ _ _ hf hM (lv_sub hl [1, 2, 3, 0] rfl)
set_option maxHeartbeats 4000000 in
set_option maxRecDepth 100000 in
theorem w_X0_shownBy_4 (C : wt_C p s m args meth c RX0 cX0_shownBy 4 (some .int) D tI tII) {F : Nat} {h : Nat} {x1 : Int32} {r : Int32} {σ' : Mem} (hh : wt_isH h) : ∀ (N : Nat) (x2 : Int32) (x3 : Int32) (σ : Mem) (H : Heap) (locs : List Loc) (ls : Array Slot), lp_X0_shownBy_4 F h x1 N x2 x3 σ = some (r, σ') → wt_St D tI tII B σ s H locs → lv_has ls 4 [(0, .ref (B + h)), (1, .int x1), (2, .int x2), (3, .int x3)] → W p l e rm_X0_shownBy s m args below meth c H locs 0 0 (MQ below (wt_Qi D tI tII B r σ') args s 0 0 (fun q => B ≤ q)) (F0 m 4 ls []) := by
  obtain ⟨hx, hb, hts, hown, hml, hr, hlk, hK⟩ := id C
  intro N
  induction N with
  | zero => intro x2 x3 σ H locs ls hf; exact wt_none (show (none : Option (Int32 × Mem)) = some (r, σ') from hf)
  | succ N ih =>
    intro x2 x3 σ H locs ls hf hM hl
    replace hf := Eq.trans lp_X0_shownBy_4_s.symm hf
    refine lv_iload_n hx hb dX0_shownBy_4 rfl (lv_at hl 3 rfl) ?_
    refine lv_aload_n hx hb dX0_shownBy_5 rfl (lv_at hl 0 rfl) ?_
    refine gf_X0_paneCount hh hx hb hts hown hK hM tw_25 dX0_shownBy_6 ?_
    refine wq_icmp_ge (tgt := 36) hx hb dX0_shownBy_9 (by decide) hf (fun hf => ?_) (fun hf => ?_)
    · refine lv_iload_n hx hb dX0_shownBy_36 rfl (lv_at hl 2 rfl) ?_
      exact wt_iret hx hb hr hlk hK hM hf dX0_shownBy_37
    refine lv_iload_n hx hb dX0_shownBy_12 rfl (lv_at hl 1 rfl) ?_
    refine lv_iload_n hx hb dX0_shownBy_13 rfl (lv_at hl 3 rfl) ?_
    refine lv_ishr hx hb dX0_shownBy_14 ?_
    refine lv_iconst (v := 1) hx hb dX0_shownBy_15 (by decide) ?_
    refine lv_iand hx hb dX0_shownBy_16 ?_
    refine lv_iconst (v := 1) hx hb dX0_shownBy_17 (by decide) ?_
    refine wq_icmp_ne (tgt := 30) hx hb dX0_shownBy_18 (by decide) hf (fun hf => ?_) (fun hf => ?_)
    · exact w_X0_shownBy_30 C hh ih hf hM hl
    refine lv_iload_n hx hb dX0_shownBy_21 rfl (lv_at hl 2 rfl) ?_
    refine lv_aload_n hx hb dX0_shownBy_22 rfl (lv_at hl 0 rfl) ?_
    refine gf_X0_paneViews hh hx hb hts hown hK hM tw_27 dX0_shownBy_23 ?_
    refine lv_iload_n hx hb dX0_shownBy_26 rfl (lv_at hl 3 rfl) ?_
    obtain ⟨i1, hf⟩ := wt_chk_of hf
    refine wt_ild hx hb hK hM (wt_aH_1 hh) i1 dX0_shownBy_27 ?_
    refine lv_ior hx hb dX0_shownBy_28 ?_
    refine wt_leti hf (fun z2 hf => ?_)
    refine lv_istore_n (lv' := [(2, .int z2), (0, .ref (B + h)), (1, .int x1), (3, .int x3)]) hx hb dX0_shownBy_29 rfl hl (by decide) rfl (fun ls hl => ?_)
    exact w_X0_shownBy_30 C hh ih hf hM (lv_sub hl [1, 2, 0, 3] rfl)
set_option maxHeartbeats 4000000 in
set_option maxRecDepth 100000 in
theorem w_X0_shownBy_0 (C : wt_C p s m args meth c RX0 cX0_shownBy 4 (some .int) D tI tII) {F : Nat} {h : Nat} {x1 : Int32} {σ : Mem} {r : Int32} {σ' : Mem} {H : Heap} {locs : List Loc} {ls : Array Slot} (hh : wt_isH h) (hf : f_X0_shownBy F h x1 σ = some (r, σ')) (hM : wt_St D tI tII B σ s H locs) (hl : lv_has ls 4 [(0, .ref (B + h)), (1, .int x1)]) : W p l e rm_X0_shownBy s m args below meth c H locs 0 0 (MQ below (wt_Qi D tI tII B r σ') args s 0 0 (fun q => B ≤ q)) (F0 m 0 ls []) := by
  obtain ⟨hx, hb, hts, hown, hml, hr, hlk, hK⟩ := id C
  replace hf := Eq.trans f_X0_shownBy_e.symm hf
  refine lv_iconst (v := 0) hx hb dX0_shownBy_0 (by decide) ?_
  refine lv_istore_n (lv' := [(2, .int (0 : Int32)), (0, .ref (B + h)), (1, .int x1)]) hx hb dX0_shownBy_1 rfl hl (by decide) rfl (fun ls hl => ?_)
  refine lv_iconst (v := 0) hx hb dX0_shownBy_2 (by decide) ?_
  refine lv_istore_n (lv' := [(3, .int (0 : Int32)), (2, .int (0 : Int32)), (0, .ref (B + h)), (1, .int x1)]) hx hb dX0_shownBy_3 rfl hl (by decide) rfl (fun ls hl => ?_)
  exact w_X0_shownBy_4 C hh _ _ _ _ _ _ _ hf hM (lv_sub hl [2, 3, 1, 0] rfl)
end
set_option maxHeartbeats 4000000 in
set_option maxRecDepth 100000 in
theorem c_X0_shownBy {l : Launch} {D : va_G} {tI tII : ClassId} {B F : Nat} {h : Nat} {x1 : Int32} {σ σ' : Mem} {r : Int32} (hh : wt_isH h) (hf : f_X0_shownBy F h x1 σ = some (r, σ')) : wt_Mi l yX0_shownBy cX0_shownBy 4 (some .int) rm_X0_shownBy [.ref (B + h), .int x1] D tI tII B σ r σ' := by
  refine Met.ofW (cc := cX0_shownBy) (maxL := 4) (ret := (some .int)) (by decide) rfl ?_
  intro p e s m args below meth c s₁ B9 hml hv
  obtain ⟨rfl, hP, hK⟩ := hv
  have hl := lv_entry ([.ref (B + h), .int x1]) (n := 4) (qz_b rfl)
  rw [lg_entry_eq]
  generalize (lg_sl ([.ref (B + h), .int x1]) ++ List.replicate (4 - (lg_sl ([.ref (B + h), .int x1])).length) Slot.unset).toArray = ls at hl ⊢
  exact w_X0_shownBy_0 (wt_C_of B9 hml hK) hh hf ⟨hP, va_S.rf⟩ hl
section
variable {p : Program} {l : Launch} {e : Env} {s : State} {m : MethodId} {args : Array Value} {below : List Frame} {meth : Method} {c : Code} {D : va_G} {tI tII : ClassId} {B : Nat}
set_option maxHeartbeats 4000000 in
set_option maxRecDepth 100000 in
theorem w_X0_allShown_0 (C : wt_C p s m args meth c RX0 cX0_allShown 1 (some .int) D tI tII) {F : Nat} {h : Nat} {σ : Mem} {r : Int32} {σ' : Mem} {H : Heap} {locs : List Loc} {ls : Array Slot} (hh : wt_isH h) (hf : f_X0_allShown F h σ = some (r, σ')) (hM : wt_St D tI tII B σ s H locs) (hl : lv_has ls 1 [(0, .ref (B + h))]) : W p l e rm_X0_allShown s m args below meth c H locs 0 0 (MQ below (wt_Qi D tI tII B r σ') args s 0 0 (fun q => B ≤ q)) (F0 m 0 ls []) := by
  obtain ⟨hx, hb, hts, hown, hml, hr, hlk, hK⟩ := id C
  replace hf := Eq.trans f_X0_allShown_e.symm hf
  refine lv_aload_n hx hb dX0_allShown_0 rfl (lv_at hl 0 rfl) ?_
  refine lv_iconst (v := 1) hx hb dX0_allShown_1 (by decide) ?_
  refine lv_aload_n hx hb dX0_allShown_2 rfl (lv_at hl 0 rfl) ?_
  refine gf_X0_paneCount hh hx hb hts hown hK hM tw_25 dX0_allShown_3 ?_
  refine lv_ishl hx hb dX0_allShown_6 ?_
  refine lv_iconst (v := 1) hx hb dX0_allShown_7 (by decide) ?_
  refine lv_isub hx hb dX0_allShown_8 ?_
  refine wt_callVi (As := [.int (((1 : Int32) <<< ((σ h 0) &&& 31)) - (1 : Int32))]) (rest := []) hx hb hml hts hown hK hM (wt_rc_X0 hh) cw_X0_74 hd_X0_shownBy rfl ⟨qz_b rfl, qz_b rfl⟩ ⟨rfl, rfl⟩ hl.1 rfl (qz_b rfl) dX0_allShown_9 hf (fun _ _ h9 => c_X0_shownBy hh h9) (fun r1 s2 H locs hf hM => ?_)
  exact wt_iret hx hb hr hlk hK hM hf dX0_allShown_12
end
set_option maxHeartbeats 4000000 in
set_option maxRecDepth 100000 in
theorem c_X0_allShown {l : Launch} {D : va_G} {tI tII : ClassId} {B F : Nat} {h : Nat} {σ σ' : Mem} {r : Int32} (hh : wt_isH h) (hf : f_X0_allShown F h σ = some (r, σ')) : wt_Mi l yX0_allShown cX0_allShown 1 (some .int) rm_X0_allShown [.ref (B + h)] D tI tII B σ r σ' := by
  refine Met.ofW (cc := cX0_allShown) (maxL := 1) (ret := (some .int)) (by decide) rfl ?_
  intro p e s m args below meth c s₁ B9 hml hv
  obtain ⟨rfl, hP, hK⟩ := hv
  have hl := lv_entry ([.ref (B + h)]) (n := 1) (qz_b rfl)
  rw [lg_entry_eq]
  generalize (lg_sl ([.ref (B + h)]) ++ List.replicate (1 - (lg_sl ([.ref (B + h)])).length) Slot.unset).toArray = ls at hl ⊢
  exact w_X0_allShown_0 (wt_C_of B9 hml hK) hh hf ⟨hP, va_S.rf⟩ hl
section
variable {p : Program} {l : Launch} {e : Env} {s : State} {m : MethodId} {args : Array Value} {below : List Frame} {meth : Method} {c : Code} {D : va_G} {tI tII : ClassId} {B : Nat}
set_option maxHeartbeats 4000000 in
set_option maxRecDepth 100000 in
theorem w_X0_invalidsPull_16 (C : wt_C p s m args meth c RX0 cX0_invalidsPull 1 (some .int) D tI tII) {F : Nat} {σ : Mem} {r : Int32} {σ' : Mem} {H : Heap} {locs : List Loc} {ls : Array Slot} (hf : j_X0_invalidsPull_16 F σ = some (r, σ')) (hM : wt_St D tI tII B σ s H locs) (hl : lv_has ls 1 []) : W p l e rm_X0_invalidsPull s m args below meth c H locs 0 0 (MQ below (wt_Qi D tI tII B r σ') args s 0 0 (fun q => B ≤ q)) (F0 m 16 ls []) := by
  obtain ⟨hx, hb, hts, hown, hml, hr, hlk, hK⟩ := id C
  replace hf := Eq.trans j_X0_invalidsPull_16_e.symm hf
  refine lv_iconst (v := 1) hx hb dX0_invalidsPull_16 (by decide) ?_
  exact wt_iret hx hb hr hlk hK hM hf dX0_invalidsPull_17
set_option maxHeartbeats 4000000 in
set_option maxRecDepth 100000 in
theorem w_X0_invalidsPull_0 (C : wt_C p s m args meth c RX0 cX0_invalidsPull 1 (some .int) D tI tII) {F : Nat} {x0 : Int32} {σ : Mem} {r : Int32} {σ' : Mem} {H : Heap} {locs : List Loc} {ls : Array Slot} (hf : f_X0_invalidsPull F x0 σ = some (r, σ')) (hM : wt_St D tI tII B σ s H locs) (hl : lv_has ls 1 [(0, .int x0)]) : W p l e rm_X0_invalidsPull s m args below meth c H locs 0 0 (MQ below (wt_Qi D tI tII B r σ') args s 0 0 (fun q => B ≤ q)) (F0 m 0 ls []) := by
  obtain ⟨hx, hb, hts, hown, hml, hr, hlk, hK⟩ := id C
  replace hf := Eq.trans f_X0_invalidsPull_e.symm hf
  refine lv_iload_n hx hb dX0_invalidsPull_0 rfl (lv_at hl 0 rfl) ?_
  refine lv_bipush (v := 6) hx hb dX0_invalidsPull_1 (by decide) ?_
  refine wq_icmp_lt (tgt := 16) hx hb dX0_invalidsPull_3 (by decide) hf (fun hf => ?_) (fun hf => ?_)
  · exact w_X0_invalidsPull_16 C hf hM (lv_sub hl [] rfl)
  refine lv_iload_n hx hb dX0_invalidsPull_6 rfl (lv_at hl 0 rfl) ?_
  refine lv_bipush (v := 17) hx hb dX0_invalidsPull_7 (by decide) ?_
  refine wq_icmp_gt (tgt := 16) hx hb dX0_invalidsPull_9 (by decide) hf (fun hf => ?_) (fun hf => ?_)
  · exact w_X0_invalidsPull_16 C hf hM (lv_sub hl [] rfl)
  refine lv_iconst (v := 2) hx hb dX0_invalidsPull_12 (by decide) ?_
  refine lv_goto (tgt := 17) hx hb dX0_invalidsPull_13 (by decide) ?_
  exact wt_iret hx hb hr hlk hK hM hf dX0_invalidsPull_17
end
set_option maxHeartbeats 4000000 in
set_option maxRecDepth 100000 in
theorem c_X0_invalidsPull {l : Launch} {D : va_G} {tI tII : ClassId} {B F : Nat} {x0 : Int32} {σ σ' : Mem} {r : Int32} (hf : f_X0_invalidsPull F x0 σ = some (r, σ')) : wt_Mi l yX0_invalidsPull cX0_invalidsPull 1 (some .int) rm_X0_invalidsPull [.int x0] D tI tII B σ r σ' := by
  refine Met.ofW (cc := cX0_invalidsPull) (maxL := 1) (ret := (some .int)) (by decide) rfl ?_
  intro p e s m args below meth c s₁ B9 hml hv
  obtain ⟨rfl, hP, hK⟩ := hv
  have hl := lv_entry ([.int x0]) (n := 1) (qz_b rfl)
  rw [lg_entry_eq]
  generalize (lg_sl ([.int x0]) ++ List.replicate (1 - (lg_sl ([.int x0])).length) Slot.unset).toArray = ls at hl ⊢
  exact w_X0_invalidsPull_0 (wt_C_of B9 hml hK) hf ⟨hP, va_S.rf⟩ hl
section
variable {p : Program} {l : Launch} {e : Env} {s : State} {m : MethodId} {args : Array Value} {below : List Frame} {meth : Method} {c : Code} {D : va_G} {tI tII : ClassId} {B : Nat}
set_option maxHeartbeats 4000000 in
set_option maxRecDepth 100000 in
theorem w_X0_pull_113 (C : wt_C p s m args meth c RX0 cX0_pull 4 (some .int) D tI tII) {F : Nat} {t0 : Int32} {t1 : Int32} {σ : Mem} {r : Int32} {σ' : Mem} {H : Heap} {locs : List Loc} {ls : Array Slot} (hf : j_X0_pull_113 F t0 t1 σ = some (r, σ')) (hM : wt_St D tI tII B σ s H locs) (hl : lv_has ls 4 []) : W p l e rm_X0_pull s m args below meth c H locs 0 0 (MQ below (wt_Qi D tI tII B r σ') args s 0 0 (fun q => B ≤ q)) (F0 m 113 ls [.int t1, .int t0]) := by
  obtain ⟨hx, hb, hts, hown, hml, hr, hlk, hK⟩ := id C
  replace hf := Eq.trans j_X0_pull_113_e.symm hf
  refine lv_imul hx hb dX0_pull_113 ?_
  exact wt_iret hx hb hr hlk hK hM hf dX0_pull_114
set_option maxHeartbeats 4000000 in
set_option maxRecDepth 100000 in
theorem w_X0_pull_0 (C : wt_C p s m args meth c RX0 cX0_pull 4 (some .int) D tI tII) {F : Nat} {h : Nat} {x1 : Int32} {x2 : Int32} {σ : Mem} {r : Int32} {σ' : Mem} {H : Heap} {locs : List Loc} {ls : Array Slot} (hh : wt_isH h) (hf : f_X0_pull F h x1 x2 σ = some (r, σ')) (hM : wt_St D tI tII B σ s H locs) (hl : lv_has ls 4 [(0, .ref (B + h)), (1, .int x1), (2, .int x2)]) : W p l e rm_X0_pull s m args below meth c H locs 0 0 (MQ below (wt_Qi D tI tII B r σ') args s 0 0 (fun q => B ≤ q)) (F0 m 0 ls []) := by
  obtain ⟨hx, hb, hts, hown, hml, hr, hlk, hK⟩ := id C
  replace hf := Eq.trans f_X0_pull_e.symm hf
  refine lv_aload_n hx hb dX0_pull_0 rfl (lv_at hl 0 rfl) ?_
  refine gf_X0_figures hh hx hb hts hown hK hM tw_34 dX0_pull_1 ?_
  refine lv_iload_n hx hb dX0_pull_4 rfl (lv_at hl 1 rfl) ?_
  obtain ⟨i1, hf⟩ := wt_chk_of hf
  refine wt_ild hx hb hK hM (wt_aH_3 hh) i1 dX0_pull_5 ?_
  refine wt_leti hf (fun z2 hf => ?_)
  refine lv_istore_n (lv' := [(3, .int z2), (0, .ref (B + h)), (1, .int x1), (2, .int x2)]) hx hb dX0_pull_6 rfl hl (by decide) rfl (fun ls hl => ?_)
  refine lv_aload_n hx hb dX0_pull_7 rfl (lv_at hl 1 rfl) ?_
  refine gf_X0_kinds hh hx hb hts hown hK hM tw_32 dX0_pull_8 ?_
  refine lv_iload_n hx hb dX0_pull_11 rfl (lv_at hl 2 rfl) ?_
  refine wt_ild hx hb hK hM (wt_aH_2 hh) i1 dX0_pull_12 ?_
  refine wq_key hf (fun e9 hf => ?_) (fun n3_0 hf => ?_)
  · refine lv_tableIn (off := 39) (tgt := 52) hx hb dX0_pull_13 (by rw [e9]; decide) (by rw [e9]; decide) (by rw [e9]; rfl) (by decide) ?_
    refine lv_iconst (v := 1) hx hb dX0_pull_52 (by decide) ?_
    exact wt_iret hx hb hr hlk hK hM hf dX0_pull_53
  refine wq_key hf (fun e9 hf => ?_) (fun n3_1 hf => ?_)
  · refine lv_tableIn (off := 41) (tgt := 54) hx hb dX0_pull_13 (by rw [e9]; decide) (by rw [e9]; decide) (by rw [e9]; rfl) (by decide) ?_
    refine lv_iload_n hx hb dX0_pull_54 rfl (lv_at hl 3 rfl) ?_
    refine wt_callSi (As := [.int x2]) (rest := []) hx hb hml hts hown hK hM cw_X0_85 hd_X0_invalidsPull rfl ⟨qz_b rfl, qz_b rfl⟩ ⟨rfl, rfl⟩ hl.1 rfl (qz_b rfl) dX0_pull_55 hf (fun _ _ h9 => c_X0_invalidsPull h9) (fun r4 s5 H locs hf hM => ?_)
    exact wt_iret hx hb hr hlk hK hM hf dX0_pull_58
  refine wq_key hf (fun e9 hf => ?_) (fun n3_2 hf => ?_)
  · refine lv_tableIn (off := 46) (tgt := 59) hx hb dX0_pull_13 (by rw [e9]; decide) (by rw [e9]; decide) (by rw [e9]; rfl) (by decide) ?_
    refine lv_iload_n hx hb dX0_pull_59 rfl (lv_at hl 3 rfl) ?_
    refine lv_iload_n hx hb dX0_pull_60 rfl (lv_at hl 0 rfl) ?_
    refine lv_bipush (v := 8) hx hb dX0_pull_61 (by decide) ?_
    refine lv_iadd hx hb dX0_pull_63 ?_
    refine wq_icmp_ne (tgt := 71) hx hb dX0_pull_64 (by decide) hf (fun hf => ?_) (fun hf => ?_)
    · refine lv_iconst (v := 0) hx hb dX0_pull_71 (by decide) ?_
      exact wt_iret hx hb hr hlk hK hM hf dX0_pull_72
    refine lv_iconst (v := 5) hx hb dX0_pull_67 (by decide) ?_
    refine lv_goto (tgt := 72) hx hb dX0_pull_68 (by decide) ?_
    exact wt_iret hx hb hr hlk hK hM hf dX0_pull_72
  refine wq_key hf (fun e9 hf => ?_) (fun n3_3 hf => ?_)
  · refine lv_tableIn (off := 60) (tgt := 73) hx hb dX0_pull_13 (by rw [e9]; decide) (by rw [e9]; decide) (by rw [e9]; rfl) (by decide) ?_
    refine lv_iload_n hx hb dX0_pull_73 rfl (lv_at hl 3 rfl) ?_
    refine lv_iconst (v := 2) hx hb dX0_pull_74 (by decide) ?_
    refine lv_irem hx hb dX0_pull_75 (by decide) ?_
    refine wq_if_ne (tgt := 83) hx hb dX0_pull_76 (by decide) hf (fun hf => ?_) (fun hf => ?_)
    · refine lv_iconst (v := 0) hx hb dX0_pull_83 (by decide) ?_
      exact wt_iret hx hb hr hlk hK hM hf dX0_pull_84
    refine lv_iconst (v := 1) hx hb dX0_pull_79 (by decide) ?_
    refine lv_goto (tgt := 84) hx hb dX0_pull_80 (by decide) ?_
    exact wt_iret hx hb hr hlk hK hM hf dX0_pull_84
  refine wq_key hf (fun e9 hf => ?_) (fun n3_4 hf => ?_)
  · refine lv_tableIn (off := 72) (tgt := 85) hx hb dX0_pull_13 (by rw [e9]; decide) (by rw [e9]; decide) (by rw [e9]; rfl) (by decide) ?_
    refine lv_iload_n hx hb dX0_pull_85 rfl (lv_at hl 0 rfl) ?_
    refine lv_iconst (v := 3) hx hb dX0_pull_86 (by decide) ?_
    refine lv_idiv hx hb dX0_pull_87 (by decide) ?_
    refine lv_iload_n hx hb dX0_pull_88 rfl (lv_at hl 3 rfl) ?_
    refine wt_callSi (As := [.int x2]) (rest := [.int (z2 / (3 : Int32))]) hx hb hml hts hown hK hM cw_X0_85 hd_X0_invalidsPull rfl ⟨qz_b rfl, qz_b rfl⟩ ⟨rfl, rfl⟩ hl.1 rfl (qz_b rfl) dX0_pull_89 hf (fun _ _ h9 => c_X0_invalidsPull h9) (fun r6 s7 H locs hf hM => ?_)
    refine lv_iadd hx hb dX0_pull_92 ?_
    exact wt_iret hx hb hr hlk hK hM hf dX0_pull_93
  refine wq_key hf (fun e9 hf => ?_) (fun n3_5 hf => ?_)
  · refine lv_tableIn (off := 81) (tgt := 94) hx hb dX0_pull_13 (by rw [e9]; decide) (by rw [e9]; decide) (by rw [e9]; rfl) (by decide) ?_
    refine lv_iload_n hx hb dX0_pull_94 rfl (lv_at hl 0 rfl) ?_
    refine lv_iconst (v := 3) hx hb dX0_pull_95 (by decide) ?_
    refine lv_idiv hx hb dX0_pull_96 (by decide) ?_
    refine lv_iload_n hx hb dX0_pull_97 rfl (lv_at hl 3 rfl) ?_
    refine wt_callSi (As := [.int x2]) (rest := [.int (z2 / (3 : Int32))]) hx hb hml hts hown hK hM cw_X0_85 hd_X0_invalidsPull rfl ⟨qz_b rfl, qz_b rfl⟩ ⟨rfl, rfl⟩ hl.1 rfl (qz_b rfl) dX0_pull_98 hf (fun _ _ h9 => c_X0_invalidsPull h9) (fun r8 s9 H locs hf hM => ?_)
    refine lv_iadd hx hb dX0_pull_101 ?_
    refine lv_iload_n hx hb dX0_pull_102 rfl (lv_at hl 3 rfl) ?_
    refine lv_bipush (v := 20) hx hb dX0_pull_103 (by decide) ?_
    refine wq_icmp_lt (tgt := 112) hx hb dX0_pull_105 (by decide) hf (fun hf => ?_) (fun hf => ?_)
    · refine lv_iconst (v := 1) hx hb dX0_pull_112 (by decide) ?_
      exact w_X0_pull_113 C hf hM (lv_sub hl [] rfl)
    refine lv_iconst (v := 2) hx hb dX0_pull_108 (by decide) ?_
    refine lv_goto (tgt := 113) hx hb dX0_pull_109 (by decide) ?_
    exact w_X0_pull_113 C hf hM (lv_sub hl [] rfl)
  refine wq_tableD (ks := [(0 : Int32), (1 : Int32), (2 : Int32), (3 : Int32), (4 : Int32), (5 : Int32)]) (tgt := 115) hx hb dX0_pull_13 (List.forall_mem_cons.mpr ⟨n3_0, List.forall_mem_cons.mpr ⟨n3_1, List.forall_mem_cons.mpr ⟨n3_2, List.forall_mem_cons.mpr ⟨n3_3, List.forall_mem_cons.mpr ⟨n3_4, List.forall_mem_cons.mpr ⟨n3_5, fun _ h9 => absurd h9 List.not_mem_nil⟩⟩⟩⟩⟩⟩) (by decide) (by decide) ?_
  refine lv_iconst (v := 0) hx hb dX0_pull_115 (by decide) ?_
  exact wt_iret hx hb hr hlk hK hM hf dX0_pull_116
end
set_option maxHeartbeats 4000000 in
set_option maxRecDepth 100000 in
theorem c_X0_pull {l : Launch} {D : va_G} {tI tII : ClassId} {B F : Nat} {h : Nat} {x1 : Int32} {x2 : Int32} {σ σ' : Mem} {r : Int32} (hh : wt_isH h) (hf : f_X0_pull F h x1 x2 σ = some (r, σ')) : wt_Mi l yX0_pull cX0_pull 4 (some .int) rm_X0_pull [.ref (B + h), .int x1, .int x2] D tI tII B σ r σ' := by
  refine Met.ofW (cc := cX0_pull) (maxL := 4) (ret := (some .int)) (by decide) rfl ?_
  intro p e s m args below meth c s₁ B9 hml hv
  obtain ⟨rfl, hP, hK⟩ := hv
  have hl := lv_entry ([.ref (B + h), .int x1, .int x2]) (n := 4) (qz_b rfl)
  rw [lg_entry_eq]
  generalize (lg_sl ([.ref (B + h), .int x1, .int x2]) ++ List.replicate (4 - (lg_sl ([.ref (B + h), .int x1, .int x2])).length) Slot.unset).toArray = ls at hl ⊢
  exact w_X0_pull_0 (wt_C_of B9 hml hK) hh hf ⟨hP, va_S.rf⟩ hl
section
variable {p : Program} {l : Launch} {e : Env} {s : State} {m : MethodId} {args : Array Value} {below : List Frame} {meth : Method} {c : Code} {D : va_G} {tI tII : ClassId} {B : Nat}
set_option maxHeartbeats 4000000 in
set_option maxRecDepth 100000 in
theorem w_X0_sight_0 (C : wt_C p s m args meth c RX0 cX0_sight 5 (some .int) D tI tII) {F : Nat} {h : Nat} {x1 : Int32} {x2 : Int32} {x3 : Int32} {σ : Mem} {r : Int32} {σ' : Mem} {H : Heap} {locs : List Loc} {ls : Array Slot} (hh : wt_isH h) (hf : f_X0_sight F h x1 x2 x3 σ = some (r, σ')) (hM : wt_St D tI tII B σ s H locs) (hl : lv_has ls 5 [(0, .ref (B + h)), (1, .int x1), (2, .int x2), (3, .int x3)]) : W p l e rm_X0_sight s m args below meth c H locs 0 0 (MQ below (wt_Qi D tI tII B r σ') args s 0 0 (fun q => B ≤ q)) (F0 m 0 ls []) := by
  obtain ⟨hx, hb, hts, hown, hml, hr, hlk, hK⟩ := id C
  replace hf := Eq.trans f_X0_sight_e.symm hf
  refine lv_aload_n hx hb dX0_sight_0 rfl (lv_at hl 0 rfl) ?_
  refine gf_X0_kinds hh hx hb hts hown hK hM tw_32 dX0_sight_1 ?_
  refine lv_iload_n hx hb dX0_sight_4 rfl (lv_at hl 1 rfl) ?_
  obtain ⟨i1, hf⟩ := wt_chk_of hf
  refine wt_ild hx hb hK hM (wt_aH_2 hh) i1 dX0_sight_5 ?_
  refine lv_iconst (v := 2) hx hb dX0_sight_6 (by decide) ?_
  refine wq_icmp_ne (tgt := 12) hx hb dX0_sight_7 (by decide) hf (fun hf => ?_) (fun hf => ?_)
  · refine lv_aload_n hx hb dX0_sight_12 rfl (lv_at hl 0 rfl) ?_
    refine gf_X0_rosters hh hx hb hts hown hK hM tw_36 dX0_sight_13 ?_
    refine lv_iload_n hx hb dX0_sight_16 rfl (lv_at hl 1 rfl) ?_
    refine wt_ald hx hb hK hM (wt_aaH_4 hh) i1 dX0_sight_17 ?_
    refine lv_iload_n hx hb dX0_sight_18 rfl (lv_at hl 2 rfl) ?_
    obtain ⟨i2, hf⟩ := wt_chk_of hf
    refine wt_ild hx hb hK hM (wt_rH_4 hh i1) i2 dX0_sight_19 ?_
    refine wt_leti hf (fun z3 hf => ?_)
    refine lv_istore (lv' := [(4, .int z3), (0, .ref (B + h)), (1, .int x1), (2, .int x2), (3, .int x3)]) hx hb dX0_sight_20 hl (by decide) rfl (fun ls hl => ?_)
    refine lv_aload_n hx hb dX0_sight_22 rfl (lv_at hl 1 rfl) ?_
    refine lv_iload hx hb dX0_sight_23 (lv_at hl 0 rfl) ?_
    refine wt_callVi (As := [.int z3]) (rest := []) hx hb hml hts hown hK hM (wt_rc_X0 hh) cw_X0_61 hd_X0_isPane rfl ⟨qz_b rfl, qz_b rfl⟩ ⟨rfl, rfl⟩ hl.1 rfl (qz_b rfl) dX0_sight_25 hf (fun _ _ h9 => c_X0_isPane hh h9) (fun r4 s5 H locs hf hM => ?_)
    refine wq_if_eq (tgt := 41) hx hb dX0_sight_28 (by decide) hf (fun hf => ?_) (fun hf => ?_)
    · refine lv_iconst (v := 0) hx hb dX0_sight_41 (by decide) ?_
      exact wt_iret hx hb hr hlk hK hM hf dX0_sight_42
    refine lv_aload_n hx hb dX0_sight_31 rfl (lv_at hl 1 rfl) ?_
    refine gf_X0_paneViews hh hx hb hts hown hK hM tw_27 dX0_sight_32 ?_
    refine lv_iload hx hb dX0_sight_35 (lv_at hl 0 rfl) ?_
    obtain ⟨i6, hf⟩ := wt_chk_of hf
    refine wt_ild hx hb hK hM (wt_aH_1 hh) i6 dX0_sight_37 ?_
    refine lv_goto (tgt := 42) hx hb dX0_sight_38 (by decide) ?_
    exact wt_iret hx hb hr hlk hK hM hf dX0_sight_42
  refine lv_iload_n hx hb dX0_sight_10 rfl (lv_at hl 3 rfl) ?_
  exact wt_iret hx hb hr hlk hK hM hf dX0_sight_11
end
set_option maxHeartbeats 4000000 in
set_option maxRecDepth 100000 in
theorem c_X0_sight {l : Launch} {D : va_G} {tI tII : ClassId} {B F : Nat} {h : Nat} {x1 : Int32} {x2 : Int32} {x3 : Int32} {σ σ' : Mem} {r : Int32} (hh : wt_isH h) (hf : f_X0_sight F h x1 x2 x3 σ = some (r, σ')) : wt_Mi l yX0_sight cX0_sight 5 (some .int) rm_X0_sight [.ref (B + h), .int x1, .int x2, .int x3] D tI tII B σ r σ' := by
  refine Met.ofW (cc := cX0_sight) (maxL := 5) (ret := (some .int)) (by decide) rfl ?_
  intro p e s m args below meth c s₁ B9 hml hv
  obtain ⟨rfl, hP, hK⟩ := hv
  have hl := lv_entry ([.ref (B + h), .int x1, .int x2, .int x3]) (n := 5) (qz_b rfl)
  rw [lg_entry_eq]
  generalize (lg_sl ([.ref (B + h), .int x1, .int x2, .int x3]) ++ List.replicate (5 - (lg_sl ([.ref (B + h), .int x1, .int x2, .int x3])).length) Slot.unset).toArray = ls at hl ⊢
  exact w_X0_sight_0 (wt_C_of B9 hml hK) hh hf ⟨hP, va_S.rf⟩ hl
section
variable {p : Program} {l : Launch} {e : Env} {s : State} {m : MethodId} {args : Array Value} {below : List Frame} {meth : Method} {c : Code} {D : va_G} {tI tII : ClassId} {B : Nat}
set_option maxHeartbeats 4000000 in
set_option maxRecDepth 100000 in
theorem w_X0_gain_33 (C : wt_C p s m args meth c RX0 cX0_gain 5 none D tI tII) {F : Nat} {k3 : Int32 → Mem → Option (Unit × Mem)} {h : Nat} {x1 : Int32} {x2 : Int32} {x3 : Int32} {x4 : Int32} {σ : Mem} {σ' : Mem} {H : Heap} {locs : List Loc} {ls : Array Slot} (hh : wt_isH h) (hk3 : ∀ (x4 : Int32) (σ : Mem) (H : Heap) (locs : List Loc) (ls : Array Slot), k3 x4 σ = some ((), σ') → wt_St D tI tII B σ s H locs → lv_has ls 5 [(0, .ref (B + h)), (1, .int x1), (2, .int x2), (3, .int x3), (4, .int x4)] → W p l e rm_X0_gain s m args below meth c H locs 0 0 (MQ below (wt_Qv D tI tII B σ') args s 0 0 (fun q => B ≤ q)) (F0 m 3 ls [])) (hf : j_X0_gain_33 F k3 h x1 x2 x3 x4 σ = some ((), σ')) (hM : wt_St D tI tII B σ s H locs) (hl : lv_has ls 5 [(0, .ref (B + h)), (1, .int x1), (2, .int x2), (3, .int x3), (4, .int x4)]) : W p l e rm_X0_gain s m args below meth c H locs 0 0 (MQ below (wt_Qv D tI tII B σ') args s 0 0 (fun q => B ≤ q)) (F0 m 33 ls []) := by
  obtain ⟨hx, hb, hts, hown, hml, hr, hlk, hK⟩ := id C
  replace hf := Eq.trans j_X0_gain_33_e.symm hf
  refine lv_iinc (v := (x4 + (1 : Int32))) (lv' := [(4, .int (x4 + (1 : Int32))), (0, .ref (B + h)), (1, .int x1), (2, .int x2), (3, .int x3)]) hx hb dX0_gain_33 hl (k := 4) rfl rfl (by decide) rfl (fun ls hl => ?_)
  refine lv_goto (tgt := 3) hx hb dX0_gain_36 (by decide) ?_
  exact hk3 _ _ _ _ _ hf hM (lv_sub hl [1, 2, 3, 4, 0] rfl)
set_option maxHeartbeats 4000000 in
set_option maxRecDepth 100000 in
theorem w_X0_gain_3 (C : wt_C p s m args meth c RX0 cX0_gain 5 none D tI tII) {F : Nat} {h : Nat} {x1 : Int32} {x2 : Int32} {x3 : Int32} {σ' : Mem} (hh : wt_isH h) : ∀ (N : Nat) (x4 : Int32) (σ : Mem) (H : Heap) (locs : List Loc) (ls : Array Slot), lp_X0_gain_3 F h x1 x2 x3 N x4 σ = some ((), σ') → wt_St D tI tII B σ s H locs → lv_has ls 5 [(0, .ref (B + h)), (1, .int x1), (2, .int x2), (3, .int x3), (4, .int x4)] → W p l e rm_X0_gain s m args below meth c H locs 0 0 (MQ below (wt_Qv D tI tII B σ') args s 0 0 (fun q => B ≤ q)) (F0 m 3 ls []) := by
  obtain ⟨hx, hb, hts, hown, hml, hr, hlk, hK⟩ := id C
  intro N
  induction N with
  | zero => intro x4 σ H locs ls hf; exact wt_none (show (none : Option (Unit × Mem)) = some ((), σ') from hf)
  | succ N ih =>
    intro x4 σ H locs ls hf hM hl
    replace hf := Eq.trans lp_X0_gain_3_s.symm hf
    refine lv_iload hx hb dX0_gain_3 (lv_at hl 4 rfl) ?_
    refine lv_bipush (v := 8) hx hb dX0_gain_5 (by decide) ?_
    refine wq_icmp_ge (tgt := 39) hx hb dX0_gain_7 (by decide) hf (fun hf => ?_) (fun hf => ?_)
    · exact wt_vret hx hb hr hlk hK hM hf dX0_gain_39
    refine lv_iload_n hx hb dX0_gain_10 rfl (lv_at hl 2 rfl) ?_
    refine lv_iload hx hb dX0_gain_11 (lv_at hl 4 rfl) ?_
    refine lv_ishr hx hb dX0_gain_13 ?_
    refine lv_iconst (v := 1) hx hb dX0_gain_14 (by decide) ?_
    refine lv_iand hx hb dX0_gain_15 ?_
    refine lv_iconst (v := 1) hx hb dX0_gain_16 (by decide) ?_
    refine wq_icmp_ne (tgt := 33) hx hb dX0_gain_17 (by decide) hf (fun hf => ?_) (fun hf => ?_)
    · exact w_X0_gain_33 C hh ih hf hM hl
    refine lv_aload_n hx hb dX0_gain_20 rfl (lv_at hl 0 rfl) ?_
    refine gf_X0_gains hh hx hb hts hown hK hM tw_46 dX0_gain_21 ?_
    refine lv_iload_n hx hb dX0_gain_24 rfl (lv_at hl 1 rfl) ?_
    obtain ⟨i1, hf⟩ := wt_chk_of hf
    refine wt_ald hx hb hK hM (wt_aaH_17 hh) i1 dX0_gain_25 ?_
    refine lv_iload hx hb dX0_gain_26 (lv_at hl 4 rfl) ?_
    refine lv_dup2_11 hx hb dX0_gain_28 rfl rfl ?_
    obtain ⟨i2, hf⟩ := wt_chk_of hf
    refine wt_ild hx hb hK hM (wt_rH_17 hh i1) i2 dX0_gain_29 ?_
    refine lv_iload_n hx hb dX0_gain_30 rfl (lv_at hl 3 rfl) ?_
    refine lv_iadd hx hb dX0_gain_31 ?_
    refine wt_ist hx hb hK hM (wt_rH_17 hh i1) i2 dX0_gain_32 hf (fun s3 H locs hf hM => ?_)
    exact w_X0_gain_33 C hh ih hf hM hl
set_option maxHeartbeats 4000000 in
set_option maxRecDepth 100000 in
theorem w_X0_gain_0 (C : wt_C p s m args meth c RX0 cX0_gain 5 none D tI tII) {F : Nat} {h : Nat} {x1 : Int32} {x2 : Int32} {x3 : Int32} {σ : Mem} {σ' : Mem} {H : Heap} {locs : List Loc} {ls : Array Slot} (hh : wt_isH h) (hf : f_X0_gain F h x1 x2 x3 σ = some ((), σ')) (hM : wt_St D tI tII B σ s H locs) (hl : lv_has ls 5 [(0, .ref (B + h)), (1, .int x1), (2, .int x2), (3, .int x3)]) : W p l e rm_X0_gain s m args below meth c H locs 0 0 (MQ below (wt_Qv D tI tII B σ') args s 0 0 (fun q => B ≤ q)) (F0 m 0 ls []) := by
  obtain ⟨hx, hb, hts, hown, hml, hr, hlk, hK⟩ := id C
  replace hf := Eq.trans f_X0_gain_e.symm hf
  refine lv_iconst (v := 0) hx hb dX0_gain_0 (by decide) ?_
  refine lv_istore (lv' := [(4, .int (0 : Int32)), (0, .ref (B + h)), (1, .int x1), (2, .int x2), (3, .int x3)]) hx hb dX0_gain_1 hl (by decide) rfl (fun ls hl => ?_)
  exact w_X0_gain_3 C hh _ _ _ _ _ _ hf hM (lv_sub hl [1, 2, 3, 4, 0] rfl)
end
set_option maxHeartbeats 4000000 in
set_option maxRecDepth 100000 in
theorem c_X0_gain {l : Launch} {D : va_G} {tI tII : ClassId} {B F : Nat} {h : Nat} {x1 : Int32} {x2 : Int32} {x3 : Int32} {σ σ' : Mem} (hh : wt_isH h) (hf : f_X0_gain F h x1 x2 x3 σ = some ((), σ')) : wt_Mv l yX0_gain cX0_gain 5 none rm_X0_gain [.ref (B + h), .int x1, .int x2, .int x3] D tI tII B σ σ' := by
  refine Met.ofW (cc := cX0_gain) (maxL := 5) (ret := none) (by decide) rfl ?_
  intro p e s m args below meth c s₁ B9 hml hv
  obtain ⟨rfl, hP, hK⟩ := hv
  have hl := lv_entry ([.ref (B + h), .int x1, .int x2, .int x3]) (n := 5) (qz_b rfl)
  rw [lg_entry_eq]
  generalize (lg_sl ([.ref (B + h), .int x1, .int x2, .int x3]) ++ List.replicate (5 - (lg_sl ([.ref (B + h), .int x1, .int x2, .int x3])).length) Slot.unset).toArray = ls at hl ⊢
  exact w_X0_gain_0 (wt_C_of B9 hml hK) hh hf ⟨hP, va_S.rf⟩ hl
section
variable {p : Program} {l : Launch} {e : Env} {s : State} {m : MethodId} {args : Array Value} {below : List Frame} {meth : Method} {c : Code} {D : va_G} {tI tII : ClassId} {B : Nat}
set_option maxHeartbeats 4000000 in
set_option maxRecDepth 100000 in
theorem w_X0_reckon_73 (C : wt_C p s m args meth c RX0 cX0_reckon 5 none D tI tII) {F : Nat} {k7 : Int32 → Mem → Option (Unit × Mem)} {k40 : Int32 → Mem → Option (Unit × Mem)} {h : Nat} {x1 : Int32} {x2 : Int32} {x3 : Int32} {σ : Mem} {σ' : Mem} {H : Heap} {locs : List Loc} {ls : Array Slot} (hh : wt_isH h) (hk7 : ∀ (x2 : Int32) (σ : Mem) (H : Heap) (locs : List Loc) (ls : Array Slot), k7 x2 σ = some ((), σ') → wt_St D tI tII B σ s H locs → lv_has ls 5 [(0, .ref (B + h)), (1, .int x1), (2, .int x2)] → W p l e rm_X0_reckon s m args below meth c H locs 0 0 (MQ below (wt_Qv D tI tII B σ') args s 0 0 (fun q => B ≤ q)) (F0 m 7 ls [])) (hk40 : ∀ (x3 : Int32) (σ : Mem) (H : Heap) (locs : List Loc) (ls : Array Slot), k40 x3 σ = some ((), σ') → wt_St D tI tII B σ s H locs → lv_has ls 5 [(0, .ref (B + h)), (1, .int x1), (2, .int x2), (3, .int x3)] → W p l e rm_X0_reckon s m args below meth c H locs 0 0 (MQ below (wt_Qv D tI tII B σ') args s 0 0 (fun q => B ≤ q)) (F0 m 40 ls [])) (hf : j_X0_reckon_73 F k7 k40 h x1 x2 x3 σ = some ((), σ')) (hM : wt_St D tI tII B σ s H locs) (hl : lv_has ls 5 [(0, .ref (B + h)), (1, .int x1), (2, .int x2), (3, .int x3)]) : W p l e rm_X0_reckon s m args below meth c H locs 0 0 (MQ below (wt_Qv D tI tII B σ') args s 0 0 (fun q => B ≤ q)) (F0 m 73 ls []) := by
  obtain ⟨hx, hb, hts, hown, hml, hr, hlk, hK⟩ := id C
  replace hf := Eq.trans j_X0_reckon_73_e.symm hf
  refine lv_iinc (v := (x3 + (1 : Int32))) (lv' := [(3, .int (x3 + (1 : Int32))), (0, .ref (B + h)), (1, .int x1), (2, .int x2)]) hx hb dX0_reckon_73 hl (k := 3) rfl rfl (by decide) rfl (fun ls hl => ?_)
  refine lv_goto (tgt := 40) hx hb dX0_reckon_76 (by decide) ?_
  exact hk40 _ _ _ _ _ hf hM (lv_sub hl [1, 2, 3, 0] rfl)
set_option maxHeartbeats 4000000 in
set_option maxRecDepth 100000 in
theorem w_X0_reckon_40 (C : wt_C p s m args meth c RX0 cX0_reckon 5 none D tI tII) {F : Nat} {k7 : Int32 → Mem → Option (Unit × Mem)} {h : Nat} {x1 : Int32} {x2 : Int32} {σ' : Mem} (hh : wt_isH h) (hk7 : ∀ (x2 : Int32) (σ : Mem) (H : Heap) (locs : List Loc) (ls : Array Slot), k7 x2 σ = some ((), σ') → wt_St D tI tII B σ s H locs → lv_has ls 5 [(0, .ref (B + h)), (1, .int x1), (2, .int x2)] → W p l e rm_X0_reckon s m args below meth c H locs 0 0 (MQ below (wt_Qv D tI tII B σ') args s 0 0 (fun q => B ≤ q)) (F0 m 7 ls [])) : ∀ (N : Nat) (x3 : Int32) (σ : Mem) (H : Heap) (locs : List Loc) (ls : Array Slot), lp_X0_reckon_40 F k7 h x1 x2 N x3 σ = some ((), σ') → wt_St D tI tII B σ s H locs → lv_has ls 5 [(0, .ref (B + h)), (1, .int x1), (2, .int x2), (3, .int x3)] → W p l e rm_X0_reckon s m args below meth c H locs 0 0 (MQ below (wt_Qv D tI tII B σ') args s 0 0 (fun q => B ≤ q)) (F0 m 40 ls []) := by
  obtain ⟨hx, hb, hts, hown, hml, hr, hlk, hK⟩ := id C
  intro N
  induction N with
  | zero => intro x3 σ H locs ls hf; exact wt_none (show (none : Option (Unit × Mem)) = some ((), σ') from hf)
  | succ N ih =>
    intro x3 σ H locs ls hf hM hl
    replace hf := Eq.trans lp_X0_reckon_40_s.symm hf
    refine lv_iload_n hx hb dX0_reckon_40 rfl (lv_at hl 3 rfl) ?_
    refine lv_bipush (v := 24) hx hb dX0_reckon_41 (by decide) ?_
    refine wq_icmp_ge (tgt := 79) hx hb dX0_reckon_43 (by decide) hf (fun hf => ?_) (fun hf => ?_)
    · refine lv_iinc (v := (x2 + (1 : Int32))) (lv' := [(2, .int (x2 + (1 : Int32))), (0, .ref (B + h)), (1, .int x1), (3, .int x3)]) hx hb dX0_reckon_79 hl (k := 2) rfl rfl (by decide) rfl (fun ls hl => ?_)
      refine lv_goto (tgt := 7) hx hb dX0_reckon_82 (by decide) ?_
      exact hk7 _ _ _ _ _ hf hM (lv_sub hl [1, 2, 0] rfl)
    refine lv_aload_n hx hb dX0_reckon_46 rfl (lv_at hl 0 rfl) ?_
    refine lv_iload_n hx hb dX0_reckon_47 rfl (lv_at hl 2 rfl) ?_
    refine lv_iload_n hx hb dX0_reckon_48 rfl (lv_at hl 3 rfl) ?_
    refine wt_callVi (As := [.int x2, .int x3]) (rest := []) hx hb hml hts hown hK hM (wt_rc_X0 hh) cw_X0_92 hd_X0_pull rfl ⟨qz_b rfl, qz_b rfl⟩ ⟨rfl, rfl⟩ hl.1 rfl (qz_b rfl) dX0_reckon_49 hf (fun _ _ h9 => c_X0_pull hh h9) (fun r1 s2 H locs hf hM => ?_)
    refine lv_istore (lv' := [(4, .int r1), (0, .ref (B + h)), (1, .int x1), (2, .int x2), (3, .int x3)]) hx hb dX0_reckon_52 hl (by decide) rfl (fun ls hl => ?_)
    refine lv_iload hx hb dX0_reckon_54 (lv_at hl 0 rfl) ?_
    refine wq_if_le (tgt := 73) hx hb dX0_reckon_56 (by decide) hf (fun hf => ?_) (fun hf => ?_)
    · exact w_X0_reckon_73 C hh hk7 ih hf hM (lv_sub hl [1, 2, 3, 4] rfl)
    refine lv_aload_n hx hb dX0_reckon_59 rfl (lv_at hl 1 rfl) ?_
    refine lv_iload_n hx hb dX0_reckon_60 rfl (lv_at hl 3 rfl) ?_
    refine lv_aload_n hx hb dX0_reckon_61 rfl (lv_at hl 1 rfl) ?_
    refine lv_iload_n hx hb dX0_reckon_62 rfl (lv_at hl 3 rfl) ?_
    refine lv_iload_n hx hb dX0_reckon_63 rfl (lv_at hl 4 rfl) ?_
    refine lv_iload_n hx hb dX0_reckon_64 rfl (lv_at hl 2 rfl) ?_
    refine wt_callVi (As := [.int x2, .int x3, .int x1]) (rest := [.int x2, .ref (B + h)]) hx hb hml hts hown hK hM (wt_rc_X0 hh) cw_X0_96 hd_X0_sight rfl ⟨qz_b rfl, qz_b rfl⟩ ⟨rfl, rfl⟩ hl.1 rfl (qz_b rfl) dX0_reckon_65 hf (fun _ _ h9 => c_X0_sight hh h9) (fun r3 s4 H locs hf hM => ?_)
    refine lv_iload hx hb dX0_reckon_68 (lv_at hl 0 rfl) ?_
    refine wt_callVv (As := [.int x2, .int r3, .int r1]) (rest := []) hx hb hml hts hown hK hM (wt_rc_X0 hh) cw_X0_99 hd_X0_gain rfl ⟨qz_b rfl, qz_b rfl⟩ ⟨rfl, rfl⟩ hl.1 rfl (qz_b rfl) dX0_reckon_70 hf (fun _ _ h9 => c_X0_gain hh h9) (fun r5 s6 H locs hf hM => ?_)
    exact w_X0_reckon_73 C hh hk7 ih hf hM (lv_sub hl [1, 2, 3, 4] rfl)
set_option maxHeartbeats 4000000 in
set_option maxRecDepth 100000 in
theorem w_X0_reckon_17 (C : wt_C p s m args meth c RX0 cX0_reckon 5 none D tI tII) {F : Nat} {k7 : Int32 → Mem → Option (Unit × Mem)} {h : Nat} {x1 : Int32} {x2 : Int32} {σ' : Mem} (hh : wt_isH h) (hk7 : ∀ (x2 : Int32) (σ : Mem) (H : Heap) (locs : List Loc) (ls : Array Slot), k7 x2 σ = some ((), σ') → wt_St D tI tII B σ s H locs → lv_has ls 5 [(0, .ref (B + h)), (1, .int x1), (2, .int x2)] → W p l e rm_X0_reckon s m args below meth c H locs 0 0 (MQ below (wt_Qv D tI tII B σ') args s 0 0 (fun q => B ≤ q)) (F0 m 7 ls [])) : ∀ (N : Nat) (x3 : Int32) (σ : Mem) (H : Heap) (locs : List Loc) (ls : Array Slot), lp_X0_reckon_17 F k7 h x1 x2 N x3 σ = some ((), σ') → wt_St D tI tII B σ s H locs → lv_has ls 5 [(0, .ref (B + h)), (1, .int x1), (2, .int x2), (3, .int x3)] → W p l e rm_X0_reckon s m args below meth c H locs 0 0 (MQ below (wt_Qv D tI tII B σ') args s 0 0 (fun q => B ≤ q)) (F0 m 17 ls []) := by
  obtain ⟨hx, hb, hts, hown, hml, hr, hlk, hK⟩ := id C
  intro N
  induction N with
  | zero => intro x3 σ H locs ls hf; exact wt_none (show (none : Option (Unit × Mem)) = some ((), σ') from hf)
  | succ N ih =>
    intro x3 σ H locs ls hf hM hl
    replace hf := Eq.trans lp_X0_reckon_17_s.symm hf
    refine lv_iload_n hx hb dX0_reckon_17 rfl (lv_at hl 3 rfl) ?_
    refine lv_bipush (v := 8) hx hb dX0_reckon_18 (by decide) ?_
    refine wq_icmp_ge (tgt := 38) hx hb dX0_reckon_20 (by decide) hf (fun hf => ?_) (fun hf => ?_)
    · refine lv_iconst (v := 0) hx hb dX0_reckon_38 (by decide) ?_
      refine lv_istore_n (lv' := [(3, .int (0 : Int32)), (0, .ref (B + h)), (1, .int x1), (2, .int x2)]) hx hb dX0_reckon_39 rfl hl (by decide) rfl (fun ls hl => ?_)
      exact w_X0_reckon_40 C hh hk7 _ _ _ _ _ _ hf hM (lv_sub hl [1, 2, 3, 0] rfl)
    refine lv_aload_n hx hb dX0_reckon_23 rfl (lv_at hl 0 rfl) ?_
    refine gf_X0_gains hh hx hb hts hown hK hM tw_46 dX0_reckon_24 ?_
    refine lv_iload_n hx hb dX0_reckon_27 rfl (lv_at hl 2 rfl) ?_
    obtain ⟨i7, hf⟩ := wt_chk_of hf
    refine wt_ald hx hb hK hM (wt_aaH_17 hh) i7 dX0_reckon_28 ?_
    refine lv_iload_n hx hb dX0_reckon_29 rfl (lv_at hl 3 rfl) ?_
    refine lv_iconst (v := 0) hx hb dX0_reckon_30 (by decide) ?_
    obtain ⟨i8, hf⟩ := wt_chk_of hf
    refine wt_ist hx hb hK hM (wt_rH_17 hh i7) i8 dX0_reckon_31 hf (fun s9 H locs hf hM => ?_)
    refine lv_iinc (v := (x3 + (1 : Int32))) (lv' := [(3, .int (x3 + (1 : Int32))), (0, .ref (B + h)), (1, .int x1), (2, .int x2)]) hx hb dX0_reckon_32 hl (k := 3) rfl rfl (by decide) rfl (fun ls hl => ?_)
    refine lv_goto (tgt := 17) hx hb dX0_reckon_35 (by decide) ?_
    exact ih _ _ _ _ _ hf hM (lv_sub hl [1, 2, 3, 0] rfl)
set_option maxHeartbeats 4000000 in
set_option maxRecDepth 100000 in
theorem w_X0_reckon_7 (C : wt_C p s m args meth c RX0 cX0_reckon 5 none D tI tII) {F : Nat} {h : Nat} {x1 : Int32} {σ' : Mem} (hh : wt_isH h) : ∀ (N : Nat) (x2 : Int32) (σ : Mem) (H : Heap) (locs : List Loc) (ls : Array Slot), lp_X0_reckon_7 F h x1 N x2 σ = some ((), σ') → wt_St D tI tII B σ s H locs → lv_has ls 5 [(0, .ref (B + h)), (1, .int x1), (2, .int x2)] → W p l e rm_X0_reckon s m args below meth c H locs 0 0 (MQ below (wt_Qv D tI tII B σ') args s 0 0 (fun q => B ≤ q)) (F0 m 7 ls []) := by
  obtain ⟨hx, hb, hts, hown, hml, hr, hlk, hK⟩ := id C
  intro N
  induction N with
  | zero => intro x2 σ H locs ls hf; exact wt_none (show (none : Option (Unit × Mem)) = some ((), σ') from hf)
  | succ N ih =>
    intro x2 σ H locs ls hf hM hl
    replace hf := Eq.trans lp_X0_reckon_7_s.symm hf
    refine lv_iload_n hx hb dX0_reckon_7 rfl (lv_at hl 2 rfl) ?_
    refine lv_aload_n hx hb dX0_reckon_8 rfl (lv_at hl 0 rfl) ?_
    refine gf_X0_lookerCount hh hx hb hts hown hK hM tw_30 dX0_reckon_9 ?_
    refine wq_icmp_ge (tgt := 85) hx hb dX0_reckon_12 (by decide) hf (fun hf => ?_) (fun hf => ?_)
    · exact wt_vret hx hb hr hlk hK hM hf dX0_reckon_85
    refine lv_iconst (v := 0) hx hb dX0_reckon_15 (by decide) ?_
    refine lv_istore_n (lv' := [(3, .int (0 : Int32)), (0, .ref (B + h)), (1, .int x1), (2, .int x2)]) hx hb dX0_reckon_16 rfl hl (by decide) rfl (fun ls hl => ?_)
    exact w_X0_reckon_17 C hh ih _ _ _ _ _ _ hf hM (lv_sub hl [1, 2, 3, 0] rfl)
set_option maxHeartbeats 4000000 in
set_option maxRecDepth 100000 in
theorem w_X0_reckon_0 (C : wt_C p s m args meth c RX0 cX0_reckon 5 none D tI tII) {F : Nat} {h : Nat} {σ : Mem} {σ' : Mem} {H : Heap} {locs : List Loc} {ls : Array Slot} (hh : wt_isH h) (hf : f_X0_reckon F h σ = some ((), σ')) (hM : wt_St D tI tII B σ s H locs) (hl : lv_has ls 5 [(0, .ref (B + h))]) : W p l e rm_X0_reckon s m args below meth c H locs 0 0 (MQ below (wt_Qv D tI tII B σ') args s 0 0 (fun q => B ≤ q)) (F0 m 0 ls []) := by
  obtain ⟨hx, hb, hts, hown, hml, hr, hlk, hK⟩ := id C
  replace hf := Eq.trans f_X0_reckon_e.symm hf
  refine lv_aload_n hx hb dX0_reckon_0 rfl (lv_at hl 0 rfl) ?_
  refine wt_callVi (As := []) (rest := []) hx hb hml hts hown hK hM (wt_rc_X0 hh) cw_X0_88 hd_X0_allShown rfl ⟨qz_b rfl, qz_b rfl⟩ ⟨rfl, rfl⟩ hl.1 rfl (qz_b rfl) dX0_reckon_1 hf (fun _ _ h9 => c_X0_allShown hh h9) (fun r10 s11 H locs hf hM => ?_)
  refine lv_istore_n (lv' := [(1, .int r10), (0, .ref (B + h))]) hx hb dX0_reckon_4 rfl hl (by decide) rfl (fun ls hl => ?_)
  refine lv_iconst (v := 0) hx hb dX0_reckon_5 (by decide) ?_
  refine lv_istore_n (lv' := [(2, .int (0 : Int32)), (1, .int r10), (0, .ref (B + h))]) hx hb dX0_reckon_6 rfl hl (by decide) rfl (fun ls hl => ?_)
  exact w_X0_reckon_7 C hh _ _ _ _ _ _ hf hM (lv_sub hl [2, 1, 0] rfl)
end
set_option maxHeartbeats 4000000 in
set_option maxRecDepth 100000 in
theorem c_X0_reckon {l : Launch} {D : va_G} {tI tII : ClassId} {B F : Nat} {h : Nat} {σ σ' : Mem} (hh : wt_isH h) (hf : f_X0_reckon F h σ = some ((), σ')) : wt_Mv l yX0_reckon cX0_reckon 5 none rm_X0_reckon [.ref (B + h)] D tI tII B σ σ' := by
  refine Met.ofW (cc := cX0_reckon) (maxL := 5) (ret := none) (by decide) rfl ?_
  intro p e s m args below meth c s₁ B9 hml hv
  obtain ⟨rfl, hP, hK⟩ := hv
  have hl := lv_entry ([.ref (B + h)]) (n := 5) (qz_b rfl)
  rw [lg_entry_eq]
  generalize (lg_sl ([.ref (B + h)]) ++ List.replicate (5 - (lg_sl ([.ref (B + h)])).length) Slot.unset).toArray = ls at hl ⊢
  exact w_X0_reckon_0 (wt_C_of B9 hml hK) hh hf ⟨hP, va_S.rf⟩ hl
section
variable {p : Program} {l : Launch} {e : Env} {s : State} {m : MethodId} {args : Array Value} {below : List Frame} {meth : Method} {c : Code} {D : va_G} {tI tII : ClassId} {B : Nat}
set_option maxHeartbeats 4000000 in
set_option maxRecDepth 100000 in
theorem w_X0_behind_0 (C : wt_C p s m args meth c RX0 cX0_behind 4 (some .int) D tI tII) {F : Nat} {h : Nat} {x1 : Int32} {x2 : Int32} {x3 : Int32} {σ : Mem} {r : Int32} {σ' : Mem} {H : Heap} {locs : List Loc} {ls : Array Slot} (hh : wt_isH h) (hf : f_X0_behind F h x1 x2 x3 σ = some (r, σ')) (hM : wt_St D tI tII B σ s H locs) (hl : lv_has ls 4 [(0, .ref (B + h)), (1, .int x1), (2, .int x2), (3, .int x3)]) : W p l e rm_X0_behind s m args below meth c H locs 0 0 (MQ below (wt_Qi D tI tII B r σ') args s 0 0 (fun q => B ≤ q)) (F0 m 0 ls []) := by
  obtain ⟨hx, hb, hts, hown, hml, hr, hlk, hK⟩ := id C
  replace hf := Eq.trans f_X0_behind_e.symm hf
  refine lv_ldc (v := 99999) hx hb hown (hts _ tw_270) dX0_behind_0 ?_
  refine lv_aload_n hx hb dX0_behind_2 rfl (lv_at hl 0 rfl) ?_
  refine gf_X0_counts hh hx hb hts hown hK hM tw_38 dX0_behind_3 ?_
  refine lv_iload_n hx hb dX0_behind_6 rfl (lv_at hl 1 rfl) ?_
  obtain ⟨i1, hf⟩ := wt_chk_of hf
  refine wt_ald hx hb hK hM (wt_aaH_10 hh) i1 dX0_behind_7 ?_
  refine lv_iload_n hx hb dX0_behind_8 rfl (lv_at hl 2 rfl) ?_
  obtain ⟨i2, hf⟩ := wt_chk_of hf
  refine wt_ild hx hb hK hM (wt_rH_10 hh i1) i2 dX0_behind_9 ?_
  refine lv_iload_n hx hb dX0_behind_10 rfl (lv_at hl 3 rfl) ?_
  refine lv_aload_n hx hb dX0_behind_11 rfl (lv_at hl 0 rfl) ?_
  refine gf_X0_gains hh hx hb hts hown hK hM tw_46 dX0_behind_12 ?_
  refine lv_iload_n hx hb dX0_behind_15 rfl (lv_at hl 1 rfl) ?_
  refine wt_ald hx hb hK hM (wt_aaH_17 hh) i1 dX0_behind_16 ?_
  refine lv_iload_n hx hb dX0_behind_17 rfl (lv_at hl 2 rfl) ?_
  refine wt_ild hx hb hK hM (wt_rH_17 hh i1) i2 dX0_behind_18 ?_
  refine lv_imul hx hb dX0_behind_19 ?_
  refine lv_iadd hx hb dX0_behind_20 ?_
  refine wt_mmin hx hb hml hts hown hl.1 tw_271 tw_272 tw_7 tw_273 (qz_b rfl) (qz_b rfl) dX0_behind_21 ?_
  exact wt_iret hx hb hr hlk hK hM hf dX0_behind_24
end
set_option maxHeartbeats 4000000 in
set_option maxRecDepth 100000 in
theorem c_X0_behind {l : Launch} {D : va_G} {tI tII : ClassId} {B F : Nat} {h : Nat} {x1 : Int32} {x2 : Int32} {x3 : Int32} {σ σ' : Mem} {r : Int32} (hh : wt_isH h) (hf : f_X0_behind F h x1 x2 x3 σ = some (r, σ')) : wt_Mi l yX0_behind cX0_behind 4 (some .int) rm_X0_behind [.ref (B + h), .int x1, .int x2, .int x3] D tI tII B σ r σ' := by
  refine Met.ofW (cc := cX0_behind) (maxL := 4) (ret := (some .int)) (by decide) rfl ?_
  intro p e s m args below meth c s₁ B9 hml hv
  obtain ⟨rfl, hP, hK⟩ := hv
  have hl := lv_entry ([.ref (B + h), .int x1, .int x2, .int x3]) (n := 4) (qz_b rfl)
  rw [lg_entry_eq]
  generalize (lg_sl ([.ref (B + h), .int x1, .int x2, .int x3]) ++ List.replicate (4 - (lg_sl ([.ref (B + h), .int x1, .int x2, .int x3])).length) Slot.unset).toArray = ls at hl ⊢
  exact w_X0_behind_0 (wt_C_of B9 hml hK) hh hf ⟨hP, va_S.rf⟩ hl
section
variable {p : Program} {l : Launch} {e : Env} {s : State} {m : MethodId} {args : Array Value} {below : List Frame} {meth : Method} {c : Code} {D : va_G} {tI tII : ClassId} {B : Nat}
set_option maxHeartbeats 4000000 in
set_option maxRecDepth 100000 in
theorem w_X0_pass_23 (C : wt_C p s m args meth c RX0 cX0_pass 4 (some .boolean) D tI tII) {F : Nat} {σ : Mem} {r : Int32} {σ' : Mem} {H : Heap} {locs : List Loc} {ls : Array Slot} (hf : j_X0_pass_23 F σ = some (r, σ')) (hM : wt_St D tI tII B σ s H locs) (hl : lv_has ls 4 []) : W p l e rm_X0_pass s m args below meth c H locs 0 0 (MQ below (wt_Qi D tI tII B r σ') args s 0 0 (fun q => B ≤ q)) (F0 m 23 ls []) := by
  obtain ⟨hx, hb, hts, hown, hml, hr, hlk, hK⟩ := id C
  replace hf := Eq.trans j_X0_pass_23_e.symm hf
  refine lv_iconst (v := 0) hx hb dX0_pass_23 (by decide) ?_
  exact wt_zret hx hb hr hlk hK hM (by decide) hf dX0_pass_24
set_option maxHeartbeats 4000000 in
set_option maxRecDepth 100000 in
theorem w_X0_pass_41 (C : wt_C p s m args meth c RX0 cX0_pass 4 (some .boolean) D tI tII) {F : Nat} {k31 : Int32 → Mem → Option (Int32 × Mem)} {h : Nat} {x1 : Int32} {x2 : Int32} {r : Int32} {σ' : Mem} (hh : wt_isH h) (hk31 : ∀ (x2 : Int32) (σ : Mem) (H : Heap) (locs : List Loc) (ls : Array Slot), k31 x2 σ = some (r, σ') → wt_St D tI tII B σ s H locs → lv_has ls 4 [(0, .ref (B + h)), (1, .int x1), (2, .int x2)] → W p l e rm_X0_pass s m args below meth c H locs 0 0 (MQ below (wt_Qi D tI tII B r σ') args s 0 0 (fun q => B ≤ q)) (F0 m 31 ls [])) : ∀ (N : Nat) (x3 : Int32) (σ : Mem) (H : Heap) (locs : List Loc) (ls : Array Slot), lp_X0_pass_41 F k31 h x1 x2 N x3 σ = some (r, σ') → wt_St D tI tII B σ s H locs → lv_has ls 4 [(0, .ref (B + h)), (1, .int x1), (2, .int x2), (3, .int x3)] → W p l e rm_X0_pass s m args below meth c H locs 0 0 (MQ below (wt_Qi D tI tII B r σ') args s 0 0 (fun q => B ≤ q)) (F0 m 41 ls []) := by
  obtain ⟨hx, hb, hts, hown, hml, hr, hlk, hK⟩ := id C
  intro N
  induction N with
  | zero => intro x3 σ H locs ls hf; exact wt_none (show (none : Option (Int32 × Mem)) = some (r, σ') from hf)
  | succ N ih =>
    intro x3 σ H locs ls hf hM hl
    replace hf := Eq.trans lp_X0_pass_41_s.symm hf
    refine lv_iload_n hx hb dX0_pass_41 rfl (lv_at hl 3 rfl) ?_
    refine lv_bipush (v := 8) hx hb dX0_pass_42 (by decide) ?_
    refine wq_icmp_ge (tgt := 68) hx hb dX0_pass_44 (by decide) hf (fun hf => ?_) (fun hf => ?_)
    · refine lv_iinc (v := (x2 + (1 : Int32))) (lv' := [(2, .int (x2 + (1 : Int32))), (0, .ref (B + h)), (1, .int x1), (3, .int x3)]) hx hb dX0_pass_68 hl (k := 2) rfl rfl (by decide) rfl (fun ls hl => ?_)
      refine lv_goto (tgt := 31) hx hb dX0_pass_71 (by decide) ?_
      exact hk31 _ _ _ _ _ hf hM (lv_sub hl [1, 2, 0] rfl)
    refine lv_aload_n hx hb dX0_pass_47 rfl (lv_at hl 0 rfl) ?_
    refine gf_X0_counts hh hx hb hts hown hK hM tw_38 dX0_pass_48 ?_
    refine lv_iload_n hx hb dX0_pass_51 rfl (lv_at hl 2 rfl) ?_
    obtain ⟨i1, hf⟩ := wt_chk_of hf
    refine wt_ald hx hb hK hM (wt_aaH_10 hh) i1 dX0_pass_52 ?_
    refine lv_iload_n hx hb dX0_pass_53 rfl (lv_at hl 3 rfl) ?_
    refine lv_aload_n hx hb dX0_pass_54 rfl (lv_at hl 0 rfl) ?_
    refine lv_iload_n hx hb dX0_pass_55 rfl (lv_at hl 2 rfl) ?_
    refine lv_iload_n hx hb dX0_pass_56 rfl (lv_at hl 3 rfl) ?_
    refine lv_iload_n hx hb dX0_pass_57 rfl (lv_at hl 1 rfl) ?_
    refine wt_callVi (As := [.int x2, .int x3, .int x1]) (rest := [.int x3, .ref (B + (h + 11 + Int32.toNatClampNeg x2))]) hx hb hml hts hown hK hM (wt_rc_X0 hh) cw_X0_70 hd_X0_behind rfl ⟨qz_b rfl, qz_b rfl⟩ ⟨rfl, rfl⟩ hl.1 rfl (qz_b rfl) dX0_pass_58 hf (fun _ _ h9 => c_X0_behind hh h9) (fun r2 s3 H locs hf hM => ?_)
    obtain ⟨i4, hf⟩ := wt_chk_of hf
    refine wt_ist hx hb hK hM (wt_rH_10 hh i1) i4 dX0_pass_61 hf (fun s5 H locs hf hM => ?_)
    refine lv_iinc (v := (x3 + (1 : Int32))) (lv' := [(3, .int (x3 + (1 : Int32))), (0, .ref (B + h)), (1, .int x1), (2, .int x2)]) hx hb dX0_pass_62 hl (k := 3) rfl rfl (by decide) rfl (fun ls hl => ?_)
    refine lv_goto (tgt := 41) hx hb dX0_pass_65 (by decide) ?_
    exact ih _ _ _ _ _ hf hM (lv_sub hl [1, 2, 3, 0] rfl)
set_option maxHeartbeats 4000000 in
set_option maxRecDepth 100000 in
theorem w_X0_pass_31 (C : wt_C p s m args meth c RX0 cX0_pass 4 (some .boolean) D tI tII) {F : Nat} {h : Nat} {x1 : Int32} {r : Int32} {σ' : Mem} (hh : wt_isH h) : ∀ (N : Nat) (x2 : Int32) (σ : Mem) (H : Heap) (locs : List Loc) (ls : Array Slot), lp_X0_pass_31 F h x1 N x2 σ = some (r, σ') → wt_St D tI tII B σ s H locs → lv_has ls 4 [(0, .ref (B + h)), (1, .int x1), (2, .int x2)] → W p l e rm_X0_pass s m args below meth c H locs 0 0 (MQ below (wt_Qi D tI tII B r σ') args s 0 0 (fun q => B ≤ q)) (F0 m 31 ls []) := by
  obtain ⟨hx, hb, hts, hown, hml, hr, hlk, hK⟩ := id C
  intro N
  induction N with
  | zero => intro x2 σ H locs ls hf; exact wt_none (show (none : Option (Int32 × Mem)) = some (r, σ') from hf)
  | succ N ih =>
    intro x2 σ H locs ls hf hM hl
    replace hf := Eq.trans lp_X0_pass_31_s.symm hf
    refine lv_iload_n hx hb dX0_pass_31 rfl (lv_at hl 2 rfl) ?_
    refine lv_aload_n hx hb dX0_pass_32 rfl (lv_at hl 0 rfl) ?_
    refine gf_X0_lookerCount hh hx hb hts hown hK hM tw_30 dX0_pass_33 ?_
    refine wq_icmp_ge (tgt := 74) hx hb dX0_pass_36 (by decide) hf (fun hf => ?_) (fun hf => ?_)
    · refine lv_aload_n hx hb dX0_pass_74 rfl (lv_at hl 0 rfl) ?_
      refine lv_dup hx hb dX0_pass_75 rfl ?_
      refine gf_X0_day hh hx hb hts hown hK hM tw_44 dX0_pass_76 ?_
      refine lv_iload_n hx hb dX0_pass_79 rfl (lv_at hl 1 rfl) ?_
      refine lv_iadd hx hb dX0_pass_80 ?_
      refine pf_X0_day hh hx hb hts hown hK hM tw_44 dX0_pass_81 hf (fun s6 H locs hf hM => ?_)
      refine lv_iconst (v := 1) hx hb dX0_pass_84 (by decide) ?_
      exact wt_zret hx hb hr hlk hK hM (by decide) hf dX0_pass_85
    refine lv_iconst (v := 0) hx hb dX0_pass_39 (by decide) ?_
    refine lv_istore_n (lv' := [(3, .int (0 : Int32)), (0, .ref (B + h)), (1, .int x1), (2, .int x2)]) hx hb dX0_pass_40 rfl hl (by decide) rfl (fun ls hl => ?_)
    exact w_X0_pass_41 C hh ih _ _ _ _ _ _ hf hM (lv_sub hl [1, 2, 3, 0] rfl)
set_option maxHeartbeats 4000000 in
set_option maxRecDepth 100000 in
theorem w_X0_pass_0 (C : wt_C p s m args meth c RX0 cX0_pass 4 (some .boolean) D tI tII) {F : Nat} {h : Nat} {x1 : Int32} {σ : Mem} {r : Int32} {σ' : Mem} {H : Heap} {locs : List Loc} {ls : Array Slot} (hh : wt_isH h) (hf : f_X0_pass F h x1 σ = some (r, σ')) (hM : wt_St D tI tII B σ s H locs) (hl : lv_has ls 4 [(0, .ref (B + h)), (1, .int x1)]) : W p l e rm_X0_pass s m args below meth c H locs 0 0 (MQ below (wt_Qi D tI tII B r σ') args s 0 0 (fun q => B ≤ q)) (F0 m 0 ls []) := by
  obtain ⟨hx, hb, hts, hown, hml, hr, hlk, hK⟩ := id C
  replace hf := Eq.trans f_X0_pass_e.symm hf
  refine lv_iload_n hx hb dX0_pass_0 rfl (lv_at hl 1 rfl) ?_
  refine lv_iconst (v := 1) hx hb dX0_pass_1 (by decide) ?_
  refine wq_icmp_lt (tgt := 23) hx hb dX0_pass_2 (by decide) hf (fun hf => ?_) (fun hf => ?_)
  · exact w_X0_pass_23 C hf hM (lv_sub hl [] rfl)
  refine lv_iload_n hx hb dX0_pass_5 rfl (lv_at hl 1 rfl) ?_
  refine lv_bipush (v := 99) hx hb dX0_pass_6 (by decide) ?_
  refine wq_icmp_gt (tgt := 23) hx hb dX0_pass_8 (by decide) hf (fun hf => ?_) (fun hf => ?_)
  · exact w_X0_pass_23 C hf hM (lv_sub hl [] rfl)
  refine lv_aload_n hx hb dX0_pass_11 rfl (lv_at hl 0 rfl) ?_
  refine gf_X0_day hh hx hb hts hown hK hM tw_44 dX0_pass_12 ?_
  refine lv_iload_n hx hb dX0_pass_15 rfl (lv_at hl 1 rfl) ?_
  refine lv_iadd hx hb dX0_pass_16 ?_
  refine lv_sipush (v := 9999) hx hb dX0_pass_17 (by decide) ?_
  refine wq_icmp_le (tgt := 25) hx hb dX0_pass_20 (by decide) hf (fun hf => ?_) (fun hf => ?_)
  · refine lv_aload_n hx hb dX0_pass_25 rfl (lv_at hl 0 rfl) ?_
    refine wt_callVv (As := []) (rest := []) hx hb hml hts hown hK hM (wt_rc_X0 hh) cw_X0_67 hd_X0_reckon rfl ⟨qz_b rfl, qz_b rfl⟩ ⟨rfl, rfl⟩ hl.1 rfl (qz_b rfl) dX0_pass_26 hf (fun _ _ h9 => c_X0_reckon hh h9) (fun r7 s8 H locs hf hM => ?_)
    refine lv_iconst (v := 0) hx hb dX0_pass_29 (by decide) ?_
    refine lv_istore_n (lv' := [(2, .int (0 : Int32)), (0, .ref (B + h)), (1, .int x1)]) hx hb dX0_pass_30 rfl hl (by decide) rfl (fun ls hl => ?_)
    exact w_X0_pass_31 C hh _ _ _ _ _ _ hf hM (lv_sub hl [1, 2, 0] rfl)
  exact w_X0_pass_23 C hf hM (lv_sub hl [] rfl)
end
set_option maxHeartbeats 4000000 in
set_option maxRecDepth 100000 in
theorem c_X0_pass {l : Launch} {D : va_G} {tI tII : ClassId} {B F : Nat} {h : Nat} {x1 : Int32} {σ σ' : Mem} {r : Int32} (hh : wt_isH h) (hf : f_X0_pass F h x1 σ = some (r, σ')) : wt_Mi l yX0_pass cX0_pass 4 (some .boolean) rm_X0_pass [.ref (B + h), .int x1] D tI tII B σ r σ' := by
  refine Met.ofW (cc := cX0_pass) (maxL := 4) (ret := (some .boolean)) (by decide) rfl ?_
  intro p e s m args below meth c s₁ B9 hml hv
  obtain ⟨rfl, hP, hK⟩ := hv
  have hl := lv_entry ([.ref (B + h), .int x1]) (n := 4) (qz_b rfl)
  rw [lg_entry_eq]
  generalize (lg_sl ([.ref (B + h), .int x1]) ++ List.replicate (4 - (lg_sl ([.ref (B + h), .int x1])).length) Slot.unset).toArray = ls at hl ⊢
  exact w_X0_pass_0 (wt_C_of B9 hml hK) hh hf ⟨hP, va_S.rf⟩ hl
section
variable {p : Program} {l : Launch} {e : Env} {s : State} {m : MethodId} {args : Array Value} {below : List Frame} {meth : Method} {c : Code} {D : va_G} {tI tII : ClassId} {B : Nat}
set_option maxHeartbeats 4000000 in
set_option maxRecDepth 100000 in
theorem w_X0_tradeRosters_19 (C : wt_C p s m args meth c RX0 cX0_tradeRosters 5 none D tI tII) {F : Nat} {h : Nat} {x1 : Int32} {x2 : Int32} {σ' : Mem} (hh : wt_isH h) : ∀ (N : Nat) (x3 : Int32) (σ : Mem) (H : Heap) (locs : List Loc) (ls : Array Slot), lp_X0_tradeRosters_19 F h x1 x2 N x3 σ = some ((), σ') → wt_St D tI tII B σ s H locs → lv_has ls 5 [(0, .ref (B + h)), (1, .int x1), (2, .int x2), (3, .int x3)] → W p l e rm_X0_tradeRosters s m args below meth c H locs 0 0 (MQ below (wt_Qv D tI tII B σ') args s 0 0 (fun q => B ≤ q)) (F0 m 19 ls []) := by
  obtain ⟨hx, hb, hts, hown, hml, hr, hlk, hK⟩ := id C
  intro N
  induction N with
  | zero => intro x3 σ H locs ls hf; exact wt_none (show (none : Option (Unit × Mem)) = some ((), σ') from hf)
  | succ N ih =>
    intro x3 σ H locs ls hf hM hl
    replace hf := Eq.trans lp_X0_tradeRosters_19_s.symm hf
    refine lv_iload_n hx hb dX0_tradeRosters_19 rfl (lv_at hl 3 rfl) ?_
    refine lv_bipush (v := 24) hx hb dX0_tradeRosters_20 (by decide) ?_
    refine wq_icmp_ge (tgt := 67) hx hb dX0_tradeRosters_22 (by decide) hf (fun hf => ?_) (fun hf => ?_)
    · exact wt_vret hx hb hr hlk hK hM hf dX0_tradeRosters_67
    refine lv_aload_n hx hb dX0_tradeRosters_25 rfl (lv_at hl 0 rfl) ?_
    refine gf_X0_rosters hh hx hb hts hown hK hM tw_36 dX0_tradeRosters_26 ?_
    refine lv_iload_n hx hb dX0_tradeRosters_29 rfl (lv_at hl 1 rfl) ?_
    obtain ⟨i1, hf⟩ := wt_chk_of hf
    refine wt_ald hx hb hK hM (wt_aaH_4 hh) i1 dX0_tradeRosters_30 ?_
    refine lv_iload_n hx hb dX0_tradeRosters_31 rfl (lv_at hl 3 rfl) ?_
    obtain ⟨i2, hf⟩ := wt_chk_of hf
    refine wt_ild hx hb hK hM (wt_rH_4 hh i1) i2 dX0_tradeRosters_32 ?_
    refine wt_leti hf (fun z3 hf => ?_)
    refine lv_istore (lv' := [(4, .int z3), (0, .ref (B + h)), (1, .int x1), (2, .int x2), (3, .int x3)]) hx hb dX0_tradeRosters_33 hl (by decide) rfl (fun ls hl => ?_)
    refine lv_aload_n hx hb dX0_tradeRosters_35 rfl (lv_at hl 1 rfl) ?_
    refine gf_X0_rosters hh hx hb hts hown hK hM tw_36 dX0_tradeRosters_36 ?_
    refine lv_iload_n hx hb dX0_tradeRosters_39 rfl (lv_at hl 2 rfl) ?_
    refine wt_ald hx hb hK hM (wt_aaH_4 hh) i1 dX0_tradeRosters_40 ?_
    refine lv_iload_n hx hb dX0_tradeRosters_41 rfl (lv_at hl 4 rfl) ?_
    refine lv_aload_n hx hb dX0_tradeRosters_42 rfl (lv_at hl 1 rfl) ?_
    refine gf_X0_rosters hh hx hb hts hown hK hM tw_36 dX0_tradeRosters_43 ?_
    refine lv_iload_n hx hb dX0_tradeRosters_46 rfl (lv_at hl 3 rfl) ?_
    obtain ⟨i4, hf⟩ := wt_chk_of hf
    refine wt_ald hx hb hK hM (wt_aaH_4 hh) i4 dX0_tradeRosters_47 ?_
    refine lv_iload_n hx hb dX0_tradeRosters_48 rfl (lv_at hl 4 rfl) ?_
    refine wt_ild hx hb hK hM (wt_rH_4 hh i4) i2 dX0_tradeRosters_49 ?_
    refine wt_ist hx hb hK hM (wt_rH_4 hh i1) i2 dX0_tradeRosters_50 hf (fun s5 H locs hf hM => ?_)
    refine lv_aload_n hx hb dX0_tradeRosters_51 rfl (lv_at hl 1 rfl) ?_
    refine gf_X0_rosters hh hx hb hts hown hK hM tw_36 dX0_tradeRosters_52 ?_
    refine lv_iload_n hx hb dX0_tradeRosters_55 rfl (lv_at hl 3 rfl) ?_
    refine wt_ald hx hb hK hM (wt_aaH_4 hh) i4 dX0_tradeRosters_56 ?_
    refine lv_iload_n hx hb dX0_tradeRosters_57 rfl (lv_at hl 4 rfl) ?_
    refine lv_iload hx hb dX0_tradeRosters_58 (lv_at hl 0 rfl) ?_
    refine wt_ist hx hb hK hM (wt_rH_4 hh i4) i2 dX0_tradeRosters_60 hf (fun s6 H locs hf hM => ?_)
    refine lv_iinc (v := (x3 + (1 : Int32))) (lv' := [(3, .int (x3 + (1 : Int32))), (4, .int z3), (0, .ref (B + h)), (1, .int x1), (2, .int x2)]) hx hb dX0_tradeRosters_61 hl (k := 4) rfl rfl (by decide) rfl (fun ls hl => ?_)
    refine lv_goto (tgt := 19) hx hb dX0_tradeRosters_64 (by decide) ?_
    exact ih _ _ _ _ _ hf hM (lv_sub hl [2, 3, 4, 0] rfl)
set_option maxHeartbeats 4000000 in
set_option maxRecDepth 100000 in
theorem w_X0_tradeRosters_0 (C : wt_C p s m args meth c RX0 cX0_tradeRosters 5 none D tI tII) {F : Nat} {h : Nat} {x1 : Int32} {x2 : Int32} {σ : Mem} {σ' : Mem} {H : Heap} {locs : List Loc} {ls : Array Slot} (hh : wt_isH h) (hf : f_X0_tradeRosters F h x1 x2 σ = some ((), σ')) (hM : wt_St D tI tII B σ s H locs) (hl : lv_has ls 5 [(0, .ref (B + h)), (1, .int x1), (2, .int x2)]) : W p l e rm_X0_tradeRosters s m args below meth c H locs 0 0 (MQ below (wt_Qv D tI tII B σ') args s 0 0 (fun q => B ≤ q)) (F0 m 0 ls []) := by
  obtain ⟨hx, hb, hts, hown, hml, hr, hlk, hK⟩ := id C
  replace hf := Eq.trans f_X0_tradeRosters_e.symm hf
  refine lv_aload_n hx hb dX0_tradeRosters_0 rfl (lv_at hl 0 rfl) ?_
  refine lv_iload_n hx hb dX0_tradeRosters_1 rfl (lv_at hl 1 rfl) ?_
  refine wt_callVi (As := [.int x1]) (rest := []) hx hb hml hts hown hK hM (wt_rc_X0 hh) cw_X0_54 hd_X0_isLooker rfl ⟨qz_b rfl, qz_b rfl⟩ ⟨rfl, rfl⟩ hl.1 rfl (qz_b rfl) dX0_tradeRosters_2 hf (fun _ _ h9 => c_X0_isLooker hh h9) (fun r7 s8 H locs hf hM => ?_)
  refine wq_if_eq (tgt := 16) hx hb dX0_tradeRosters_5 (by decide) hf (fun hf => ?_) (fun hf => ?_)
  · exact wt_vret hx hb hr hlk hK hM hf dX0_tradeRosters_16
  refine lv_aload_n hx hb dX0_tradeRosters_8 rfl (lv_at hl 0 rfl) ?_
  refine lv_iload_n hx hb dX0_tradeRosters_9 rfl (lv_at hl 2 rfl) ?_
  refine wt_callVi (As := [.int x2]) (rest := []) hx hb hml hts hown hK hM (wt_rc_X0 hh) cw_X0_54 hd_X0_isLooker rfl ⟨qz_b rfl, qz_b rfl⟩ ⟨rfl, rfl⟩ hl.1 rfl (qz_b rfl) dX0_tradeRosters_10 hf (fun _ _ h9 => c_X0_isLooker hh h9) (fun r9 s10 H locs hf hM => ?_)
  refine wq_if_ne (tgt := 17) hx hb dX0_tradeRosters_13 (by decide) hf (fun hf => ?_) (fun hf => ?_)
  · refine lv_iconst (v := 0) hx hb dX0_tradeRosters_17 (by decide) ?_
    refine lv_istore_n (lv' := [(3, .int (0 : Int32)), (0, .ref (B + h)), (1, .int x1), (2, .int x2)]) hx hb dX0_tradeRosters_18 rfl hl (by decide) rfl (fun ls hl => ?_)
    exact w_X0_tradeRosters_19 C hh _ _ _ _ _ _ hf hM (lv_sub hl [1, 2, 3, 0] rfl)
  exact wt_vret hx hb hr hlk hK hM hf dX0_tradeRosters_16
end
set_option maxHeartbeats 4000000 in
set_option maxRecDepth 100000 in
theorem c_X0_tradeRosters {l : Launch} {D : va_G} {tI tII : ClassId} {B F : Nat} {h : Nat} {x1 : Int32} {x2 : Int32} {σ σ' : Mem} (hh : wt_isH h) (hf : f_X0_tradeRosters F h x1 x2 σ = some ((), σ')) : wt_Mv l yX0_tradeRosters cX0_tradeRosters 5 none rm_X0_tradeRosters [.ref (B + h), .int x1, .int x2] D tI tII B σ σ' := by
  refine Met.ofW (cc := cX0_tradeRosters) (maxL := 5) (ret := none) (by decide) rfl ?_
  intro p e s m args below meth c s₁ B9 hml hv
  obtain ⟨rfl, hP, hK⟩ := hv
  have hl := lv_entry ([.ref (B + h), .int x1, .int x2]) (n := 5) (qz_b rfl)
  rw [lg_entry_eq]
  generalize (lg_sl ([.ref (B + h), .int x1, .int x2]) ++ List.replicate (5 - (lg_sl ([.ref (B + h), .int x1, .int x2])).length) Slot.unset).toArray = ls at hl ⊢
  exact w_X0_tradeRosters_0 (wt_C_of B9 hml hK) hh hf ⟨hP, va_S.rf⟩ hl
section
variable {p : Program} {l : Launch} {e : Env} {s : State} {m : MethodId} {args : Array Value} {below : List Frame} {meth : Method} {c : Code} {D : va_G} {tI tII : ClassId} {B : Nat}
set_option maxHeartbeats 4000000 in
set_option maxRecDepth 100000 in
theorem w_X0_shows_33 (C : wt_C p s m args meth c RX0 cX0_shows 3 (some .boolean) D tI tII) {F : Nat} {σ : Mem} {r : Int32} {σ' : Mem} {H : Heap} {locs : List Loc} {ls : Array Slot} (hf : j_X0_shows_33 F σ = some (r, σ')) (hM : wt_St D tI tII B σ s H locs) (hl : lv_has ls 3 []) : W p l e rm_X0_shows s m args below meth c H locs 0 0 (MQ below (wt_Qi D tI tII B r σ') args s 0 0 (fun q => B ≤ q)) (F0 m 33 ls []) := by
  obtain ⟨hx, hb, hts, hown, hml, hr, hlk, hK⟩ := id C
  replace hf := Eq.trans j_X0_shows_33_e.symm hf
  refine lv_iconst (v := 0) hx hb dX0_shows_33 (by decide) ?_
  exact wt_zret hx hb hr hlk hK hM (by decide) hf dX0_shows_34
set_option maxHeartbeats 4000000 in
set_option maxRecDepth 100000 in
theorem w_X0_shows_0 (C : wt_C p s m args meth c RX0 cX0_shows 3 (some .boolean) D tI tII) {F : Nat} {h : Nat} {x1 : Int32} {x2 : Int32} {σ : Mem} {r : Int32} {σ' : Mem} {H : Heap} {locs : List Loc} {ls : Array Slot} (hh : wt_isH h) (hf : f_X0_shows F h x1 x2 σ = some (r, σ')) (hM : wt_St D tI tII B σ s H locs) (hl : lv_has ls 3 [(0, .ref (B + h)), (1, .int x1), (2, .int x2)]) : W p l e rm_X0_shows s m args below meth c H locs 0 0 (MQ below (wt_Qi D tI tII B r σ') args s 0 0 (fun q => B ≤ q)) (F0 m 0 ls []) := by
  obtain ⟨hx, hb, hts, hown, hml, hr, hlk, hK⟩ := id C
  replace hf := Eq.trans f_X0_shows_e.symm hf
  refine lv_aload_n hx hb dX0_shows_0 rfl (lv_at hl 0 rfl) ?_
  refine lv_iload_n hx hb dX0_shows_1 rfl (lv_at hl 1 rfl) ?_
  refine wt_callVi (As := [.int x1]) (rest := []) hx hb hml hts hown hK hM (wt_rc_X0 hh) cw_X0_61 hd_X0_isPane rfl ⟨qz_b rfl, qz_b rfl⟩ ⟨rfl, rfl⟩ hl.1 rfl (qz_b rfl) dX0_shows_2 hf (fun _ _ h9 => c_X0_isPane hh h9) (fun r1 s2 H locs hf hM => ?_)
  refine wq_if_eq (tgt := 33) hx hb dX0_shows_5 (by decide) hf (fun hf => ?_) (fun hf => ?_)
  · exact w_X0_shows_33 C hf hM (lv_sub hl [] rfl)
  refine lv_iload_n hx hb dX0_shows_8 rfl (lv_at hl 2 rfl) ?_
  refine wt_callSi (As := [.int x2]) (rest := []) hx hb hml hts hown hK hM cw_X0_64 hd_X0_isView rfl ⟨qz_b rfl, qz_b rfl⟩ ⟨rfl, rfl⟩ hl.1 rfl (qz_b rfl) dX0_shows_9 hf (fun _ _ h9 => c_X0_isView h9) (fun r3 s4 H locs hf hM => ?_)
  refine wq_if_eq (tgt := 33) hx hb dX0_shows_12 (by decide) hf (fun hf => ?_) (fun hf => ?_)
  · exact w_X0_shows_33 C hf hM (lv_sub hl [] rfl)
  refine lv_aload_n hx hb dX0_shows_15 rfl (lv_at hl 0 rfl) ?_
  refine gf_X0_paneViews hh hx hb hts hown hK hM tw_27 dX0_shows_16 ?_
  refine lv_iload_n hx hb dX0_shows_19 rfl (lv_at hl 1 rfl) ?_
  obtain ⟨i5, hf⟩ := wt_chk_of hf
  refine wt_ild hx hb hK hM (wt_aH_1 hh) i5 dX0_shows_20 ?_
  refine lv_iload_n hx hb dX0_shows_21 rfl (lv_at hl 2 rfl) ?_
  refine lv_ishr hx hb dX0_shows_22 ?_
  refine lv_iconst (v := 1) hx hb dX0_shows_23 (by decide) ?_
  refine lv_iand hx hb dX0_shows_24 ?_
  refine lv_iconst (v := 1) hx hb dX0_shows_25 (by decide) ?_
  refine wq_icmp_ne (tgt := 33) hx hb dX0_shows_26 (by decide) hf (fun hf => ?_) (fun hf => ?_)
  · exact w_X0_shows_33 C hf hM (lv_sub hl [] rfl)
  refine lv_iconst (v := 1) hx hb dX0_shows_29 (by decide) ?_
  refine lv_goto (tgt := 34) hx hb dX0_shows_30 (by decide) ?_
  exact wt_zret hx hb hr hlk hK hM (by decide) hf dX0_shows_34
end
set_option maxHeartbeats 4000000 in
set_option maxRecDepth 100000 in
theorem c_X0_shows {l : Launch} {D : va_G} {tI tII : ClassId} {B F : Nat} {h : Nat} {x1 : Int32} {x2 : Int32} {σ σ' : Mem} {r : Int32} (hh : wt_isH h) (hf : f_X0_shows F h x1 x2 σ = some (r, σ')) : wt_Mi l yX0_shows cX0_shows 3 (some .boolean) rm_X0_shows [.ref (B + h), .int x1, .int x2] D tI tII B σ r σ' := by
  refine Met.ofW (cc := cX0_shows) (maxL := 3) (ret := (some .boolean)) (by decide) rfl ?_
  intro p e s m args below meth c s₁ B9 hml hv
  obtain ⟨rfl, hP, hK⟩ := hv
  have hl := lv_entry ([.ref (B + h), .int x1, .int x2]) (n := 3) (qz_b rfl)
  rw [lg_entry_eq]
  generalize (lg_sl ([.ref (B + h), .int x1, .int x2]) ++ List.replicate (3 - (lg_sl ([.ref (B + h), .int x1, .int x2])).length) Slot.unset).toArray = ls at hl ⊢
  exact w_X0_shows_0 (wt_C_of B9 hml hK) hh hf ⟨hP, va_S.rf⟩ hl
section
variable {p : Program} {l : Launch} {e : Env} {s : State} {m : MethodId} {args : Array Value} {below : List Frame} {meth : Method} {c : Code} {D : va_G} {tI tII : ClassId} {B : Nat}
set_option maxHeartbeats 4000000 in
set_option maxRecDepth 100000 in
theorem w_X0_timesShown_24 (C : wt_C p s m args meth c RX0 cX0_timesShown 4 (some .int) D tI tII) {F : Nat} {k4 : Int32 → Int32 → Mem → Option (Int32 × Mem)} {h : Nat} {x1 : Int32} {x2 : Int32} {x3 : Int32} {σ : Mem} {r : Int32} {σ' : Mem} {H : Heap} {locs : List Loc} {ls : Array Slot} (hh : wt_isH h) (hk4 : ∀ (x2 : Int32) (x3 : Int32) (σ : Mem) (H : Heap) (locs : List Loc) (ls : Array Slot), k4 x2 x3 σ = some (r, σ') → wt_St D tI tII B σ s H locs → lv_has ls 4 [(0, .ref (B + h)), (1, .int x1), (2, .int x2), (3, .int x3)] → W p l e rm_X0_timesShown s m args below meth c H locs 0 0 (MQ below (wt_Qi D tI tII B r σ') args s 0 0 (fun q => B ≤ q)) (F0 m 4 ls [])) (hf : j_X0_timesShown_24 F k4 h x1 x2 x3 σ = some (r, σ')) (hM : wt_St D tI tII B σ s H locs) (hl : lv_has ls 4 [(0, .ref (B + h)), (1, .int x1), (2, .int x2), (3, .int x3)]) : W p l e rm_X0_timesShown s m args below meth c H locs 0 0 (MQ below (wt_Qi D tI tII B r σ') args s 0 0 (fun q => B ≤ q)) (F0 m 24 ls []) := by
  obtain ⟨hx, hb, hts, hown, hml, hr, hlk, hK⟩ := id C
  replace hf := Eq.trans j_X0_timesShown_24_e.symm hf
  refine lv_iinc (v := (x3 + (1 : Int32))) (lv' := [(3, .int (x3 + (1 : Int32))), (0, .ref (B + h)), (1, .int x1), (2, .int x2)]) hx hb dX0_timesShown_24 hl (k := 3) rfl rfl (by decide) rfl (fun ls hl => ?_)
  refine lv_goto (tgt := 4) hx hb dX0_timesShown_27 (by decide) ?_
  exact hk4 _ _ _ _ _ _ hf hM (lv_sub hl [1, 2, 3, 0] rfl)
set_option maxHeartbeats 4000000 in
set_option maxRecDepth 100000 in
theorem w_X0_timesShown_4 (C : wt_C p s m args meth c RX0 cX0_timesShown 4 (some .int) D tI tII) {F : Nat} {h : Nat} {x1 : Int32} {r : Int32} {σ' : Mem} (hh : wt_isH h) : ∀ (N : Nat) (x2 : Int32) (x3 : Int32) (σ : Mem) (H : Heap) (locs : List Loc) (ls : Array Slot), lp_X0_timesShown_4 F h x1 N x2 x3 σ = some (r, σ') → wt_St D tI tII B σ s H locs → lv_has ls 4 [(0, .ref (B + h)), (1, .int x1), (2, .int x2), (3, .int x3)] → W p l e rm_X0_timesShown s m args below meth c H locs 0 0 (MQ below (wt_Qi D tI tII B r σ') args s 0 0 (fun q => B ≤ q)) (F0 m 4 ls []) := by
  obtain ⟨hx, hb, hts, hown, hml, hr, hlk, hK⟩ := id C
  intro N
  induction N with
  | zero => intro x2 x3 σ H locs ls hf; exact wt_none (show (none : Option (Int32 × Mem)) = some (r, σ') from hf)
  | succ N ih =>
    intro x2 x3 σ H locs ls hf hM hl
    replace hf := Eq.trans lp_X0_timesShown_4_s.symm hf
    refine lv_iload_n hx hb dX0_timesShown_4 rfl (lv_at hl 3 rfl) ?_
    refine lv_aload_n hx hb dX0_timesShown_5 rfl (lv_at hl 0 rfl) ?_
    refine gf_X0_paneCount hh hx hb hts hown hK hM tw_25 dX0_timesShown_6 ?_
    refine wq_icmp_ge (tgt := 30) hx hb dX0_timesShown_9 (by decide) hf (fun hf => ?_) (fun hf => ?_)
    · refine lv_iload_n hx hb dX0_timesShown_30 rfl (lv_at hl 2 rfl) ?_
      exact wt_iret hx hb hr hlk hK hM hf dX0_timesShown_31
    refine lv_aload_n hx hb dX0_timesShown_12 rfl (lv_at hl 0 rfl) ?_
    refine lv_iload_n hx hb dX0_timesShown_13 rfl (lv_at hl 3 rfl) ?_
    refine lv_iload_n hx hb dX0_timesShown_14 rfl (lv_at hl 1 rfl) ?_
    refine wt_callVi (As := [.int x3, .int x1]) (rest := []) hx hb hml hts hown hK hM (wt_rc_X0 hh) cw_X0_78 hd_X0_shows rfl ⟨qz_b rfl, qz_b rfl⟩ ⟨rfl, rfl⟩ hl.1 rfl (qz_b rfl) dX0_timesShown_15 hf (fun _ _ h9 => c_X0_shows hh h9) (fun r1 s2 H locs hf hM => ?_)
    refine wq_if_eq (tgt := 24) hx hb dX0_timesShown_18 (by decide) hf (fun hf => ?_) (fun hf => ?_)
    · exact w_X0_timesShown_24 C hh ih hf hM hl
    refine lv_iinc (v := (x2 + (1 : Int32))) (lv' := [(2, .int (x2 + (1 : Int32))), (0, .ref (B + h)), (1, .int x1), (3, .int x3)]) hx hb dX0_timesShown_21 hl (k := 2) rfl rfl (by decide) rfl (fun ls hl => ?_)
    exact w_X0_timesShown_24 C hh ih hf hM (lv_sub hl [1, 2, 0, 3] rfl)
set_option maxHeartbeats 4000000 in
set_option maxRecDepth 100000 in
theorem w_X0_timesShown_0 (C : wt_C p s m args meth c RX0 cX0_timesShown 4 (some .int) D tI tII) {F : Nat} {h : Nat} {x1 : Int32} {σ : Mem} {r : Int32} {σ' : Mem} {H : Heap} {locs : List Loc} {ls : Array Slot} (hh : wt_isH h) (hf : f_X0_timesShown F h x1 σ = some (r, σ')) (hM : wt_St D tI tII B σ s H locs) (hl : lv_has ls 4 [(0, .ref (B + h)), (1, .int x1)]) : W p l e rm_X0_timesShown s m args below meth c H locs 0 0 (MQ below (wt_Qi D tI tII B r σ') args s 0 0 (fun q => B ≤ q)) (F0 m 0 ls []) := by
  obtain ⟨hx, hb, hts, hown, hml, hr, hlk, hK⟩ := id C
  replace hf := Eq.trans f_X0_timesShown_e.symm hf
  refine lv_iconst (v := 0) hx hb dX0_timesShown_0 (by decide) ?_
  refine lv_istore_n (lv' := [(2, .int (0 : Int32)), (0, .ref (B + h)), (1, .int x1)]) hx hb dX0_timesShown_1 rfl hl (by decide) rfl (fun ls hl => ?_)
  refine lv_iconst (v := 0) hx hb dX0_timesShown_2 (by decide) ?_
  refine lv_istore_n (lv' := [(3, .int (0 : Int32)), (2, .int (0 : Int32)), (0, .ref (B + h)), (1, .int x1)]) hx hb dX0_timesShown_3 rfl hl (by decide) rfl (fun ls hl => ?_)
  exact w_X0_timesShown_4 C hh _ _ _ _ _ _ _ hf hM (lv_sub hl [2, 3, 1, 0] rfl)
end
set_option maxHeartbeats 4000000 in
set_option maxRecDepth 100000 in
theorem c_X0_timesShown {l : Launch} {D : va_G} {tI tII : ClassId} {B F : Nat} {h : Nat} {x1 : Int32} {σ σ' : Mem} {r : Int32} (hh : wt_isH h) (hf : f_X0_timesShown F h x1 σ = some (r, σ')) : wt_Mi l yX0_timesShown cX0_timesShown 4 (some .int) rm_X0_timesShown [.ref (B + h), .int x1] D tI tII B σ r σ' := by
  refine Met.ofW (cc := cX0_timesShown) (maxL := 4) (ret := (some .int)) (by decide) rfl ?_
  intro p e s m args below meth c s₁ B9 hml hv
  obtain ⟨rfl, hP, hK⟩ := hv
  have hl := lv_entry ([.ref (B + h), .int x1]) (n := 4) (qz_b rfl)
  rw [lg_entry_eq]
  generalize (lg_sl ([.ref (B + h), .int x1]) ++ List.replicate (4 - (lg_sl ([.ref (B + h), .int x1])).length) Slot.unset).toArray = ls at hl ⊢
  exact w_X0_timesShown_0 (wt_C_of B9 hml hK) hh hf ⟨hP, va_S.rf⟩ hl
section
variable {p : Program} {l : Launch} {e : Env} {s : State} {m : MethodId} {args : Array Value} {below : List Frame} {meth : Method} {c : Code} {D : va_G} {tI tII : ClassId} {B : Nat}
set_option maxHeartbeats 4000000 in
set_option maxRecDepth 100000 in
theorem w_X0_hoursAt_38 (C : wt_C p s m args meth c RX0 cX0_hoursAt 5 (some .int) D tI tII) {F : Nat} {k4 : Int32 → Int32 → Mem → Option (Int32 × Mem)} {k15 : Int32 → Int32 → Mem → Option (Int32 × Mem)} {h : Nat} {x1 : Int32} {x2 : Int32} {x3 : Int32} {x4 : Int32} {σ : Mem} {r : Int32} {σ' : Mem} {H : Heap} {locs : List Loc} {ls : Array Slot} (hh : wt_isH h) (hk4 : ∀ (x2 : Int32) (x3 : Int32) (σ : Mem) (H : Heap) (locs : List Loc) (ls : Array Slot), k4 x2 x3 σ = some (r, σ') → wt_St D tI tII B σ s H locs → lv_has ls 5 [(0, .ref (B + h)), (1, .int x1), (2, .int x2), (3, .int x3)] → W p l e rm_X0_hoursAt s m args below meth c H locs 0 0 (MQ below (wt_Qi D tI tII B r σ') args s 0 0 (fun q => B ≤ q)) (F0 m 4 ls [])) (hk15 : ∀ (x2 : Int32) (x4 : Int32) (σ : Mem) (H : Heap) (locs : List Loc) (ls : Array Slot), k15 x2 x4 σ = some (r, σ') → wt_St D tI tII B σ s H locs → lv_has ls 5 [(0, .ref (B + h)), (1, .int x1), (2, .int x2), (3, .int x3), (4, .int x4)] → W p l e rm_X0_hoursAt s m args below meth c H locs 0 0 (MQ below (wt_Qi D tI tII B r σ') args s 0 0 (fun q => B ≤ q)) (F0 m 15 ls [])) (hf : j_X0_hoursAt_38 F k4 k15 h x1 x2 x3 x4 σ = some (r, σ')) (hM : wt_St D tI tII B σ s H locs) (hl : lv_has ls 5 [(0, .ref (B + h)), (1, .int x1), (2, .int x2), (3, .int x3), (4, .int x4)]) : W p l e rm_X0_hoursAt s m args below meth c H locs 0 0 (MQ below (wt_Qi D tI tII B r σ') args s 0 0 (fun q => B ≤ q)) (F0 m 38 ls []) := by
  obtain ⟨hx, hb, hts, hown, hml, hr, hlk, hK⟩ := id C
  replace hf := Eq.trans j_X0_hoursAt_38_e.symm hf
  refine lv_iinc (v := (x4 + (1 : Int32))) (lv' := [(4, .int (x4 + (1 : Int32))), (0, .ref (B + h)), (1, .int x1), (2, .int x2), (3, .int x3)]) hx hb dX0_hoursAt_38 hl (k := 4) rfl rfl (by decide) rfl (fun ls hl => ?_)
  refine lv_goto (tgt := 15) hx hb dX0_hoursAt_41 (by decide) ?_
  exact hk15 _ _ _ _ _ _ hf hM (lv_sub hl [1, 2, 3, 4, 0] rfl)
set_option maxHeartbeats 4000000 in
set_option maxRecDepth 100000 in
theorem w_X0_hoursAt_15 (C : wt_C p s m args meth c RX0 cX0_hoursAt 5 (some .int) D tI tII) {F : Nat} {k4 : Int32 → Int32 → Mem → Option (Int32 × Mem)} {h : Nat} {x1 : Int32} {x3 : Int32} {r : Int32} {σ' : Mem} (hh : wt_isH h) (hk4 : ∀ (x2 : Int32) (x3 : Int32) (σ : Mem) (H : Heap) (locs : List Loc) (ls : Array Slot), k4 x2 x3 σ = some (r, σ') → wt_St D tI tII B σ s H locs → lv_has ls 5 [(0, .ref (B + h)), (1, .int x1), (2, .int x2), (3, .int x3)] → W p l e rm_X0_hoursAt s m args below meth c H locs 0 0 (MQ below (wt_Qi D tI tII B r σ') args s 0 0 (fun q => B ≤ q)) (F0 m 4 ls [])) : ∀ (N : Nat) (x2 : Int32) (x4 : Int32) (σ : Mem) (H : Heap) (locs : List Loc) (ls : Array Slot), lp_X0_hoursAt_15 F k4 h x1 x3 N x2 x4 σ = some (r, σ') → wt_St D tI tII B σ s H locs → lv_has ls 5 [(0, .ref (B + h)), (1, .int x1), (2, .int x2), (3, .int x3), (4, .int x4)] → W p l e rm_X0_hoursAt s m args below meth c H locs 0 0 (MQ below (wt_Qi D tI tII B r σ') args s 0 0 (fun q => B ≤ q)) (F0 m 15 ls []) := by
  obtain ⟨hx, hb, hts, hown, hml, hr, hlk, hK⟩ := id C
  intro N
  induction N with
  | zero => intro x2 x4 σ H locs ls hf; exact wt_none (show (none : Option (Int32 × Mem)) = some (r, σ') from hf)
  | succ N ih =>
    intro x2 x4 σ H locs ls hf hM hl
    replace hf := Eq.trans lp_X0_hoursAt_15_s.symm hf
    refine lv_iload hx hb dX0_hoursAt_15 (lv_at hl 4 rfl) ?_
    refine lv_bipush (v := 24) hx hb dX0_hoursAt_17 (by decide) ?_
    refine wq_icmp_ge (tgt := 44) hx hb dX0_hoursAt_19 (by decide) hf (fun hf => ?_) (fun hf => ?_)
    · refine lv_iinc (v := (x3 + (1 : Int32))) (lv' := [(3, .int (x3 + (1 : Int32))), (0, .ref (B + h)), (1, .int x1), (2, .int x2), (4, .int x4)]) hx hb dX0_hoursAt_44 hl (k := 3) rfl rfl (by decide) rfl (fun ls hl => ?_)
      refine lv_goto (tgt := 4) hx hb dX0_hoursAt_47 (by decide) ?_
      exact hk4 _ _ _ _ _ _ hf hM (lv_sub hl [1, 2, 3, 0] rfl)
    refine lv_aload_n hx hb dX0_hoursAt_22 rfl (lv_at hl 0 rfl) ?_
    refine gf_X0_rosters hh hx hb hts hown hK hM tw_36 dX0_hoursAt_23 ?_
    refine lv_iload_n hx hb dX0_hoursAt_26 rfl (lv_at hl 3 rfl) ?_
    obtain ⟨i1, hf⟩ := wt_chk_of hf
    refine wt_ald hx hb hK hM (wt_aaH_4 hh) i1 dX0_hoursAt_27 ?_
    refine lv_iload hx hb dX0_hoursAt_28 (lv_at hl 4 rfl) ?_
    obtain ⟨i2, hf⟩ := wt_chk_of hf
    refine wt_ild hx hb hK hM (wt_rH_4 hh i1) i2 dX0_hoursAt_30 ?_
    refine lv_iload_n hx hb dX0_hoursAt_31 rfl (lv_at hl 1 rfl) ?_
    refine wq_icmp_ne (tgt := 38) hx hb dX0_hoursAt_32 (by decide) hf (fun hf => ?_) (fun hf => ?_)
    · exact w_X0_hoursAt_38 C hh hk4 ih hf hM hl
    refine lv_iinc (v := (x2 + (1 : Int32))) (lv' := [(2, .int (x2 + (1 : Int32))), (0, .ref (B + h)), (1, .int x1), (3, .int x3), (4, .int x4)]) hx hb dX0_hoursAt_35 hl (k := 2) rfl rfl (by decide) rfl (fun ls hl => ?_)
    exact w_X0_hoursAt_38 C hh hk4 ih hf hM (lv_sub hl [1, 2, 0, 3, 4] rfl)
set_option maxHeartbeats 4000000 in
set_option maxRecDepth 100000 in
theorem w_X0_hoursAt_4 (C : wt_C p s m args meth c RX0 cX0_hoursAt 5 (some .int) D tI tII) {F : Nat} {h : Nat} {x1 : Int32} {r : Int32} {σ' : Mem} (hh : wt_isH h) : ∀ (N : Nat) (x2 : Int32) (x3 : Int32) (σ : Mem) (H : Heap) (locs : List Loc) (ls : Array Slot), lp_X0_hoursAt_4 F h x1 N x2 x3 σ = some (r, σ') → wt_St D tI tII B σ s H locs → lv_has ls 5 [(0, .ref (B + h)), (1, .int x1), (2, .int x2), (3, .int x3)] → W p l e rm_X0_hoursAt s m args below meth c H locs 0 0 (MQ below (wt_Qi D tI tII B r σ') args s 0 0 (fun q => B ≤ q)) (F0 m 4 ls []) := by
  obtain ⟨hx, hb, hts, hown, hml, hr, hlk, hK⟩ := id C
  intro N
  induction N with
  | zero => intro x2 x3 σ H locs ls hf; exact wt_none (show (none : Option (Int32 × Mem)) = some (r, σ') from hf)
  | succ N ih =>
    intro x2 x3 σ H locs ls hf hM hl
    replace hf := Eq.trans lp_X0_hoursAt_4_s.symm hf
    refine lv_iload_n hx hb dX0_hoursAt_4 rfl (lv_at hl 3 rfl) ?_
    refine lv_aload_n hx hb dX0_hoursAt_5 rfl (lv_at hl 0 rfl) ?_
    refine gf_X0_lookerCount hh hx hb hts hown hK hM tw_30 dX0_hoursAt_6 ?_
    refine wq_icmp_ge (tgt := 50) hx hb dX0_hoursAt_9 (by decide) hf (fun hf => ?_) (fun hf => ?_)
    · refine lv_iload_n hx hb dX0_hoursAt_50 rfl (lv_at hl 2 rfl) ?_
      exact wt_iret hx hb hr hlk hK hM hf dX0_hoursAt_51
    refine lv_iconst (v := 0) hx hb dX0_hoursAt_12 (by decide) ?_
    refine lv_istore (lv' := [(4, .int (0 : Int32)), (0, .ref (B + h)), (1, .int x1), (2, .int x2), (3, .int x3)]) hx hb dX0_hoursAt_13 hl (by decide) rfl (fun ls hl => ?_)
    exact w_X0_hoursAt_15 C hh ih _ _ _ _ _ _ _ hf hM (lv_sub hl [1, 2, 3, 4, 0] rfl)
set_option maxHeartbeats 4000000 in
set_option maxRecDepth 100000 in
theorem w_X0_hoursAt_0 (C : wt_C p s m args meth c RX0 cX0_hoursAt 5 (some .int) D tI tII) {F : Nat} {h : Nat} {x1 : Int32} {σ : Mem} {r : Int32} {σ' : Mem} {H : Heap} {locs : List Loc} {ls : Array Slot} (hh : wt_isH h) (hf : f_X0_hoursAt F h x1 σ = some (r, σ')) (hM : wt_St D tI tII B σ s H locs) (hl : lv_has ls 5 [(0, .ref (B + h)), (1, .int x1)]) : W p l e rm_X0_hoursAt s m args below meth c H locs 0 0 (MQ below (wt_Qi D tI tII B r σ') args s 0 0 (fun q => B ≤ q)) (F0 m 0 ls []) := by
  obtain ⟨hx, hb, hts, hown, hml, hr, hlk, hK⟩ := id C
  replace hf := Eq.trans f_X0_hoursAt_e.symm hf
  refine lv_iconst (v := 0) hx hb dX0_hoursAt_0 (by decide) ?_
  refine lv_istore_n (lv' := [(2, .int (0 : Int32)), (0, .ref (B + h)), (1, .int x1)]) hx hb dX0_hoursAt_1 rfl hl (by decide) rfl (fun ls hl => ?_)
  refine lv_iconst (v := 0) hx hb dX0_hoursAt_2 (by decide) ?_
  refine lv_istore_n (lv' := [(3, .int (0 : Int32)), (2, .int (0 : Int32)), (0, .ref (B + h)), (1, .int x1)]) hx hb dX0_hoursAt_3 rfl hl (by decide) rfl (fun ls hl => ?_)
  exact w_X0_hoursAt_4 C hh _ _ _ _ _ _ _ hf hM (lv_sub hl [2, 3, 1, 0] rfl)
end
set_option maxHeartbeats 4000000 in
set_option maxRecDepth 100000 in
theorem c_X0_hoursAt {l : Launch} {D : va_G} {tI tII : ClassId} {B F : Nat} {h : Nat} {x1 : Int32} {σ σ' : Mem} {r : Int32} (hh : wt_isH h) (hf : f_X0_hoursAt F h x1 σ = some (r, σ')) : wt_Mi l yX0_hoursAt cX0_hoursAt 5 (some .int) rm_X0_hoursAt [.ref (B + h), .int x1] D tI tII B σ r σ' := by
  refine Met.ofW (cc := cX0_hoursAt) (maxL := 5) (ret := (some .int)) (by decide) rfl ?_
  intro p e s m args below meth c s₁ B9 hml hv
  obtain ⟨rfl, hP, hK⟩ := hv
  have hl := lv_entry ([.ref (B + h), .int x1]) (n := 5) (qz_b rfl)
  rw [lg_entry_eq]
  generalize (lg_sl ([.ref (B + h), .int x1]) ++ List.replicate (5 - (lg_sl ([.ref (B + h), .int x1])).length) Slot.unset).toArray = ls at hl ⊢
  exact w_X0_hoursAt_0 (wt_C_of B9 hml hK) hh hf ⟨hP, va_S.rf⟩ hl
