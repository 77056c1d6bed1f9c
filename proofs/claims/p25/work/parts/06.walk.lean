theorem dX0_hoursOf_0 : decode cX0_hoursOf 0 = .ok (.iconst 0, 1) := qd_p qo_3 (by decide +kernel)
theorem dX0_hoursOf_1 : decode cX0_hoursOf 1 = .ok (.istore_n 2, 1) := qd_p qo_61 (by decide +kernel)
theorem dX0_hoursOf_2 : decode cX0_hoursOf 2 = .ok (.iconst 0, 1) := qd_p qo_3 (by decide +kernel)
theorem dX0_hoursOf_3 : decode cX0_hoursOf 3 = .ok (.istore_n 3, 1) := qd_p qo_62 (by decide +kernel)
theorem dX0_hoursOf_4 : decode cX0_hoursOf 4 = .ok (.iload_n 3, 1) := qd_p qo_29 (by decide +kernel)
theorem dX0_hoursOf_5 : decode cX0_hoursOf 5 = .ok (.bipush 24, 2) := qz_s1 .bipush 24 qo_16 (by decide +kernel) rfl
theorem dX0_hoursOf_7 : decode cX0_hoursOf 7 = .ok (.if_icmp .ge 25, 3) := qz_s2 (.if_icmp .ge) 0 25 qo_162 (by decide +kernel) rfl
theorem dX0_hoursOf_10 : decode cX0_hoursOf 10 = .ok (.aload_n 0, 1) := qd_p qo_42 (by decide +kernel)
theorem dX0_hoursOf_11 : decode cX0_hoursOf 11 = .ok (.getfield 30, 3) := qz_2 .getfield 0 30 qo_180 (by decide +kernel) rfl
theorem dX0_hoursOf_14 : decode cX0_hoursOf 14 = .ok (.iload_n 1, 1) := qd_p qo_27 (by decide +kernel)
theorem dX0_hoursOf_15 : decode cX0_hoursOf 15 = .ok (.aaload, 1) := qd_p qo_50 (by decide +kernel)
theorem dX0_hoursOf_16 : decode cX0_hoursOf 16 = .ok (.iload_n 3, 1) := qd_p qo_29 (by decide +kernel)
theorem dX0_hoursOf_17 : decode cX0_hoursOf 17 = .ok (.iaload, 1) := qd_p qo_46 (by decide +kernel)
theorem dX0_hoursOf_18 : decode cX0_hoursOf 18 = .ok (.bipush 9, 2) := qz_s1 .bipush 9 qo_16 (by decide +kernel) rfl
theorem dX0_hoursOf_20 : decode cX0_hoursOf 20 = .ok (.if_icmp .eq 6, 3) := qz_s2 (.if_icmp .eq) 0 6 qo_159 (by decide +kernel) rfl
theorem dX0_hoursOf_23 : decode cX0_hoursOf 23 = .ok (.iinc 2 1, 3) := qd_i (x := 2) (y := 1) qo_132 (by decide +kernel) rfl
theorem dX0_hoursOf_26 : decode cX0_hoursOf 26 = .ok (.iinc 3 1, 3) := qd_i (x := 3) (y := 1) qo_132 (by decide +kernel) rfl
theorem dX0_hoursOf_29 : decode cX0_hoursOf 29 = .ok (.goto (-25), 3) := qz_s2 .goto 255 231 qo_167 (by decide +kernel) rfl
theorem dX0_hoursOf_32 : decode cX0_hoursOf 32 = .ok (.iload_n 2, 1) := qd_p qo_28 (by decide +kernel)
theorem dX0_hoursOf_33 : decode cX0_hoursOf 33 = .ok (.ireturn, 1) := qd_p qo_172 (by decide +kernel)
theorem dX0_hoursOfAll_0 : decode cX0_hoursOfAll 0 = .ok (.iconst 0, 1) := qd_p qo_3 (by decide +kernel)
theorem dX0_hoursOfAll_1 : decode cX0_hoursOfAll 1 = .ok (.istore_n 1, 1) := qd_p qo_60 (by decide +kernel)
theorem dX0_hoursOfAll_2 : decode cX0_hoursOfAll 2 = .ok (.iconst 0, 1) := qd_p qo_3 (by decide +kernel)
theorem dX0_hoursOfAll_3 : decode cX0_hoursOfAll 3 = .ok (.istore_n 2, 1) := qd_p qo_61 (by decide +kernel)
theorem dX0_hoursOfAll_4 : decode cX0_hoursOfAll 4 = .ok (.iload_n 2, 1) := qd_p qo_28 (by decide +kernel)
theorem dX0_hoursOfAll_5 : decode cX0_hoursOfAll 5 = .ok (.aload_n 0, 1) := qd_p qo_42 (by decide +kernel)
theorem dX0_hoursOfAll_6 : decode cX0_hoursOfAll 6 = .ok (.getfield 19, 3) := qz_2 .getfield 0 19 qo_180 (by decide +kernel) rfl
theorem dX0_hoursOfAll_9 : decode cX0_hoursOfAll 9 = .ok (.if_icmp .ge 17, 3) := qz_s2 (.if_icmp .ge) 0 17 qo_162 (by decide +kernel) rfl
theorem dX0_hoursOfAll_12 : decode cX0_hoursOfAll 12 = .ok (.iload_n 1, 1) := qd_p qo_27 (by decide +kernel)
theorem dX0_hoursOfAll_13 : decode cX0_hoursOfAll 13 = .ok (.aload_n 0, 1) := qd_p qo_42 (by decide +kernel)
theorem dX0_hoursOfAll_14 : decode cX0_hoursOfAll 14 = .ok (.iload_n 2, 1) := qd_p qo_28 (by decide +kernel)
theorem dX0_hoursOfAll_15 : decode cX0_hoursOfAll 15 = .ok (.invokevirtual 82, 3) := qz_2 .invokevirtual 0 82 qo_182 (by decide +kernel) rfl
theorem dX0_hoursOfAll_18 : decode cX0_hoursOfAll 18 = .ok (.iadd, 1) := qd_p qo_96 (by decide +kernel)
theorem dX0_hoursOfAll_19 : decode cX0_hoursOfAll 19 = .ok (.istore_n 1, 1) := qd_p qo_60 (by decide +kernel)
theorem dX0_hoursOfAll_20 : decode cX0_hoursOfAll 20 = .ok (.iinc 2 1, 3) := qd_i (x := 2) (y := 1) qo_132 (by decide +kernel) rfl
theorem dX0_hoursOfAll_23 : decode cX0_hoursOfAll 23 = .ok (.goto (-19), 3) := qz_s2 .goto 255 237 qo_167 (by decide +kernel) rfl
theorem dX0_hoursOfAll_26 : decode cX0_hoursOfAll 26 = .ok (.iload_n 1, 1) := qd_p qo_27 (by decide +kernel)
theorem dX0_hoursOfAll_27 : decode cX0_hoursOfAll 27 = .ok (.ireturn, 1) := qd_p qo_172 (by decide +kernel)
theorem dX0_standingIn_0 : decode cX0_standingIn 0 = .ok (.iconst 0, 1) := qd_p qo_3 (by decide +kernel)
theorem dX0_standingIn_1 : decode cX0_standingIn 1 = .ok (.istore_n 2, 1) := qd_p qo_61 (by decide +kernel)
theorem dX0_standingIn_2 : decode cX0_standingIn 2 = .ok (.iconst 0, 1) := qd_p qo_3 (by decide +kernel)
theorem dX0_standingIn_3 : decode cX0_standingIn 3 = .ok (.istore_n 3, 1) := qd_p qo_62 (by decide +kernel)
theorem dX0_standingIn_4 : decode cX0_standingIn 4 = .ok (.iload_n 3, 1) := qd_p qo_29 (by decide +kernel)
theorem dX0_standingIn_5 : decode cX0_standingIn 5 = .ok (.aload_n 0, 1) := qd_p qo_42 (by decide +kernel)
theorem dX0_standingIn_6 : decode cX0_standingIn 6 = .ok (.getfield 19, 3) := qz_2 .getfield 0 19 qo_180 (by decide +kernel) rfl
theorem dX0_standingIn_9 : decode cX0_standingIn 9 = .ok (.if_icmp .ge 25, 3) := qz_s2 (.if_icmp .ge) 0 25 qo_162 (by decide +kernel) rfl
theorem dX0_standingIn_12 : decode cX0_standingIn 12 = .ok (.aload_n 0, 1) := qd_p qo_42 (by decide +kernel)
theorem dX0_standingIn_13 : decode cX0_standingIn 13 = .ok (.getfield 30, 3) := qz_2 .getfield 0 30 qo_180 (by decide +kernel) rfl
theorem dX0_standingIn_16 : decode cX0_standingIn 16 = .ok (.iload_n 3, 1) := qd_p qo_29 (by decide +kernel)
theorem dX0_standingIn_17 : decode cX0_standingIn 17 = .ok (.aaload, 1) := qd_p qo_50 (by decide +kernel)
theorem dX0_standingIn_18 : decode cX0_standingIn 18 = .ok (.iload_n 1, 1) := qd_p qo_27 (by decide +kernel)
theorem dX0_standingIn_19 : decode cX0_standingIn 19 = .ok (.iaload, 1) := qd_p qo_46 (by decide +kernel)
theorem dX0_standingIn_20 : decode cX0_standingIn 20 = .ok (.bipush 9, 2) := qz_s1 .bipush 9 qo_16 (by decide +kernel) rfl
theorem dX0_standingIn_22 : decode cX0_standingIn 22 = .ok (.if_icmp .eq 6, 3) := qz_s2 (.if_icmp .eq) 0 6 qo_159 (by decide +kernel) rfl
theorem dX0_standingIn_25 : decode cX0_standingIn 25 = .ok (.iinc 2 1, 3) := qd_i (x := 2) (y := 1) qo_132 (by decide +kernel) rfl
theorem dX0_standingIn_28 : decode cX0_standingIn 28 = .ok (.iinc 3 1, 3) := qd_i (x := 3) (y := 1) qo_132 (by decide +kernel) rfl
theorem dX0_standingIn_31 : decode cX0_standingIn 31 = .ok (.goto (-27), 3) := qz_s2 .goto 255 229 qo_167 (by decide +kernel) rfl
theorem dX0_standingIn_34 : decode cX0_standingIn 34 = .ok (.iload_n 2, 1) := qd_p qo_28 (by decide +kernel)
theorem dX0_standingIn_35 : decode cX0_standingIn 35 = .ok (.ireturn, 1) := qd_p qo_172 (by decide +kernel)
theorem dX0_gainOfAll_0 : decode cX0_gainOfAll 0 = .ok (.iconst 0, 1) := qd_p qo_3 (by decide +kernel)
theorem dX0_gainOfAll_1 : decode cX0_gainOfAll 1 = .ok (.istore_n 2, 1) := qd_p qo_61 (by decide +kernel)
theorem dX0_gainOfAll_2 : decode cX0_gainOfAll 2 = .ok (.iconst 0, 1) := qd_p qo_3 (by decide +kernel)
theorem dX0_gainOfAll_3 : decode cX0_gainOfAll 3 = .ok (.istore_n 3, 1) := qd_p qo_62 (by decide +kernel)
theorem dX0_gainOfAll_4 : decode cX0_gainOfAll 4 = .ok (.iload_n 3, 1) := qd_p qo_29 (by decide +kernel)
theorem dX0_gainOfAll_5 : decode cX0_gainOfAll 5 = .ok (.aload_n 0, 1) := qd_p qo_42 (by decide +kernel)
theorem dX0_gainOfAll_6 : decode cX0_gainOfAll 6 = .ok (.getfield 19, 3) := qz_2 .getfield 0 19 qo_180 (by decide +kernel) rfl
theorem dX0_gainOfAll_9 : decode cX0_gainOfAll 9 = .ok (.if_icmp .ge 20, 3) := qz_s2 (.if_icmp .ge) 0 20 qo_162 (by decide +kernel) rfl
theorem dX0_gainOfAll_12 : decode cX0_gainOfAll 12 = .ok (.iload_n 2, 1) := qd_p qo_28 (by decide +kernel)
theorem dX0_gainOfAll_13 : decode cX0_gainOfAll 13 = .ok (.aload_n 0, 1) := qd_p qo_42 (by decide +kernel)
theorem dX0_gainOfAll_14 : decode cX0_gainOfAll 14 = .ok (.getfield 45, 3) := qz_2 .getfield 0 45 qo_180 (by decide +kernel) rfl
theorem dX0_gainOfAll_17 : decode cX0_gainOfAll 17 = .ok (.iload_n 3, 1) := qd_p qo_29 (by decide +kernel)
theorem dX0_gainOfAll_18 : decode cX0_gainOfAll 18 = .ok (.aaload, 1) := qd_p qo_50 (by decide +kernel)
theorem dX0_gainOfAll_19 : decode cX0_gainOfAll 19 = .ok (.iload_n 1, 1) := qd_p qo_27 (by decide +kernel)
theorem dX0_gainOfAll_20 : decode cX0_gainOfAll 20 = .ok (.iaload, 1) := qd_p qo_46 (by decide +kernel)
theorem dX0_gainOfAll_21 : decode cX0_gainOfAll 21 = .ok (.iadd, 1) := qd_p qo_96 (by decide +kernel)
theorem dX0_gainOfAll_22 : decode cX0_gainOfAll 22 = .ok (.istore_n 2, 1) := qd_p qo_61 (by decide +kernel)
theorem dX0_gainOfAll_23 : decode cX0_gainOfAll 23 = .ok (.iinc 3 1, 3) := qd_i (x := 3) (y := 1) qo_132 (by decide +kernel) rfl
theorem dX0_gainOfAll_26 : decode cX0_gainOfAll 26 = .ok (.goto (-22), 3) := qz_s2 .goto 255 234 qo_167 (by decide +kernel) rfl
theorem dX0_gainOfAll_29 : decode cX0_gainOfAll 29 = .ok (.iload_n 2, 1) := qd_p qo_28 (by decide +kernel)
theorem dX0_gainOfAll_30 : decode cX0_gainOfAll 30 = .ok (.ireturn, 1) := qd_p qo_172 (by decide +kernel)
theorem dX0_holder_0 : decode cX0_holder 0 = .ok (.bipush (-9), 2) := qz_s1 .bipush 247 qo_16 (by decide +kernel) rfl
theorem dX0_holder_2 : decode cX0_holder 2 = .ok (.istore_n 3, 1) := qd_p qo_62 (by decide +kernel)
theorem dX0_holder_3 : decode cX0_holder 3 = .ok (.iconst 0, 1) := qd_p qo_3 (by decide +kernel)
theorem dX0_holder_4 : decode cX0_holder 4 = .ok (.istore 4, 2) := qz_1 .istore 4 qo_54 (by decide +kernel)
theorem dX0_holder_6 : decode cX0_holder 6 = .ok (.iconst 0, 1) := qd_p qo_3 (by decide +kernel)
theorem dX0_holder_7 : decode cX0_holder 7 = .ok (.istore 5, 2) := qz_1 .istore 5 qo_54 (by decide +kernel)
theorem dX0_holder_9 : decode cX0_holder 9 = .ok (.iconst 0, 1) := qd_p qo_3 (by decide +kernel)
theorem dX0_holder_10 : decode cX0_holder 10 = .ok (.istore 6, 2) := qz_1 .istore 6 qo_54 (by decide +kernel)
theorem dX0_holder_12 : decode cX0_holder 12 = .ok (.iconst 0, 1) := qd_p qo_3 (by decide +kernel)
theorem dX0_holder_13 : decode cX0_holder 13 = .ok (.istore 7, 2) := qz_1 .istore 7 qo_54 (by decide +kernel)
theorem dX0_holder_15 : decode cX0_holder 15 = .ok (.iload 7, 2) := qz_1 .iload 7 qo_21 (by decide +kernel)
theorem dX0_holder_17 : decode cX0_holder 17 = .ok (.aload_n 0, 1) := qd_p qo_42 (by decide +kernel)
theorem dX0_holder_18 : decode cX0_holder 18 = .ok (.getfield 19, 3) := qz_2 .getfield 0 19 qo_180 (by decide +kernel) rfl
theorem dX0_holder_21 : decode cX0_holder 21 = .ok (.if_icmp .ge 56, 3) := qz_s2 (.if_icmp .ge) 0 56 qo_162 (by decide +kernel) rfl
theorem dX0_holder_24 : decode cX0_holder 24 = .ok (.aload_n 0, 1) := qd_p qo_42 (by decide +kernel)
theorem dX0_holder_25 : decode cX0_holder 25 = .ok (.iload 7, 2) := qz_1 .iload 7 qo_21 (by decide +kernel)
theorem dX0_holder_27 : decode cX0_holder 27 = .ok (.iload_n 1, 1) := qd_p qo_27 (by decide +kernel)
theorem dX0_holder_28 : decode cX0_holder 28 = .ok (.iload_n 2, 1) := qd_p qo_28 (by decide +kernel)
theorem dX0_holder_29 : decode cX0_holder 29 = .ok (.invokevirtual 70, 3) := qz_2 .invokevirtual 0 70 qo_182 (by decide +kernel) rfl
theorem dX0_holder_32 : decode cX0_holder 32 = .ok (.istore 8, 2) := qz_1 .istore 8 qo_54 (by decide +kernel)
theorem dX0_holder_34 : decode cX0_holder 34 = .ok (.iload 5, 2) := qz_1 .iload 5 qo_21 (by decide +kernel)
theorem dX0_holder_36 : decode cX0_holder 36 = .ok (.iload 8, 2) := qz_1 .iload 8 qo_21 (by decide +kernel)
theorem dX0_holder_38 : decode cX0_holder 38 = .ok (.iadd, 1) := qd_p qo_96 (by decide +kernel)
theorem dX0_holder_39 : decode cX0_holder 39 = .ok (.istore 5, 2) := qz_1 .istore 5 qo_54 (by decide +kernel)
theorem dX0_holder_41 : decode cX0_holder 41 = .ok (.iload 8, 2) := qz_1 .iload 8 qo_21 (by decide +kernel)
theorem dX0_holder_43 : decode cX0_holder 43 = .ok (.iload 4, 2) := qz_1 .iload 4 qo_21 (by decide +kernel)
theorem dX0_holder_45 : decode cX0_holder 45 = .ok (.if_icmp .le 16, 3) := qz_s2 (.if_icmp .le) 0 16 qo_164 (by decide +kernel) rfl
theorem dX0_holder_48 : decode cX0_holder 48 = .ok (.iload 8, 2) := qz_1 .iload 8 qo_21 (by decide +kernel)
theorem dX0_holder_50 : decode cX0_holder 50 = .ok (.istore 4, 2) := qz_1 .istore 4 qo_54 (by decide +kernel)
theorem dX0_holder_52 : decode cX0_holder 52 = .ok (.iload 7, 2) := qz_1 .iload 7 qo_21 (by decide +kernel)
theorem dX0_holder_54 : decode cX0_holder 54 = .ok (.istore_n 3, 1) := qd_p qo_62 (by decide +kernel)
theorem dX0_holder_55 : decode cX0_holder 55 = .ok (.iconst 0, 1) := qd_p qo_3 (by decide +kernel)
theorem dX0_holder_56 : decode cX0_holder 56 = .ok (.istore 6, 2) := qz_1 .istore 6 qo_54 (by decide +kernel)
theorem dX0_holder_58 : decode cX0_holder 58 = .ok (.goto 13, 3) := qz_s2 .goto 0 13 qo_167 (by decide +kernel) rfl
theorem dX0_holder_61 : decode cX0_holder 61 = .ok (.iload 8, 2) := qz_1 .iload 8 qo_21 (by decide +kernel)
theorem dX0_holder_63 : decode cX0_holder 63 = .ok (.iload 4, 2) := qz_1 .iload 4 qo_21 (by decide +kernel)
theorem dX0_holder_65 : decode cX0_holder 65 = .ok (.if_icmp .ne 6, 3) := qz_s2 (.if_icmp .ne) 0 6 qo_160 (by decide +kernel) rfl
theorem dX0_holder_68 : decode cX0_holder 68 = .ok (.iconst 1, 1) := qd_p qo_4 (by decide +kernel)
theorem dX0_holder_69 : decode cX0_holder 69 = .ok (.istore 6, 2) := qz_1 .istore 6 qo_54 (by decide +kernel)
theorem dX0_holder_71 : decode cX0_holder 71 = .ok (.iinc 7 1, 3) := qd_i (x := 7) (y := 1) qo_132 (by decide +kernel) rfl
theorem dX0_holder_74 : decode cX0_holder 74 = .ok (.goto (-59), 3) := qz_s2 .goto 255 197 qo_167 (by decide +kernel) rfl
theorem dX0_holder_77 : decode cX0_holder 77 = .ok (.aload_n 0, 1) := qd_p qo_42 (by decide +kernel)
theorem dX0_holder_78 : decode cX0_holder 78 = .ok (.getfield 39, 3) := qz_2 .getfield 0 39 qo_180 (by decide +kernel) rfl
theorem dX0_holder_81 : decode cX0_holder 81 = .ok (.iconst 1, 1) := qd_p qo_4 (by decide +kernel)
theorem dX0_holder_82 : decode cX0_holder 82 = .ok (.if_icmp .ne 8, 3) := qz_s2 (.if_icmp .ne) 0 8 qo_160 (by decide +kernel) rfl
theorem dX0_holder_85 : decode cX0_holder 85 = .ok (.iload 6, 2) := qz_1 .iload 6 qo_21 (by decide +kernel)
theorem dX0_holder_87 : decode cX0_holder 87 = .ok (.ifCond .ne 21, 3) := qz_s2 (.ifCond .ne) 0 21 qo_154 (by decide +kernel) rfl
theorem dX0_holder_90 : decode cX0_holder 90 = .ok (.aload_n 0, 1) := qd_p qo_42 (by decide +kernel)
theorem dX0_holder_91 : decode cX0_holder 91 = .ok (.getfield 39, 3) := qz_2 .getfield 0 39 qo_180 (by decide +kernel) rfl
theorem dX0_holder_94 : decode cX0_holder 94 = .ok (.iconst 2, 1) := qd_p qo_5 (by decide +kernel)
theorem dX0_holder_95 : decode cX0_holder 95 = .ok (.if_icmp .ne 16, 3) := qz_s2 (.if_icmp .ne) 0 16 qo_160 (by decide +kernel) rfl
theorem dX0_holder_98 : decode cX0_holder 98 = .ok (.iload 4, 2) := qz_1 .iload 4 qo_21 (by decide +kernel)
theorem dX0_holder_100 : decode cX0_holder 100 = .ok (.iload 5, 2) := qz_1 .iload 5 qo_21 (by decide +kernel)
theorem dX0_holder_102 : decode cX0_holder 102 = .ok (.iload 4, 2) := qz_1 .iload 4 qo_21 (by decide +kernel)
theorem dX0_holder_104 : decode cX0_holder 104 = .ok (.isub, 1) := qd_p qo_100 (by decide +kernel)
theorem dX0_holder_105 : decode cX0_holder 105 = .ok (.if_icmp .gt 6, 3) := qz_s2 (.if_icmp .gt) 0 6 qo_163 (by decide +kernel) rfl
theorem dX0_holder_108 : decode cX0_holder 108 = .ok (.bipush (-9), 2) := qz_s1 .bipush 247 qo_16 (by decide +kernel) rfl
theorem dX0_holder_110 : decode cX0_holder 110 = .ok (.ireturn, 1) := qd_p qo_172 (by decide +kernel)
theorem dX0_holder_111 : decode cX0_holder 111 = .ok (.iload_n 3, 1) := qd_p qo_29 (by decide +kernel)
theorem dX0_holder_112 : decode cX0_holder 112 = .ok (.ireturn, 1) := qd_p qo_172 (by decide +kernel)
theorem dX0_holdings_0 : decode cX0_holdings 0 = .ok (.iconst 0, 1) := qd_p qo_3 (by decide +kernel)
theorem dX0_holdings_1 : decode cX0_holdings 1 = .ok (.istore_n 3, 1) := qd_p qo_62 (by decide +kernel)
theorem dX0_holdings_2 : decode cX0_holdings 2 = .ok (.iconst 0, 1) := qd_p qo_3 (by decide +kernel)
theorem dX0_holdings_3 : decode cX0_holdings 3 = .ok (.istore 4, 2) := qz_1 .istore 4 qo_54 (by decide +kernel)
theorem dX0_holdings_5 : decode cX0_holdings 5 = .ok (.iload 4, 2) := qz_1 .iload 4 qo_21 (by decide +kernel)
theorem dX0_holdings_7 : decode cX0_holdings 7 = .ok (.bipush 8, 2) := qz_s1 .bipush 8 qo_16 (by decide +kernel) rfl
theorem dX0_holdings_9 : decode cX0_holdings 9 = .ok (.if_icmp .ge 27, 3) := qz_s2 (.if_icmp .ge) 0 27 qo_162 (by decide +kernel) rfl
theorem dX0_holdings_12 : decode cX0_holdings 12 = .ok (.aload_n 0, 1) := qd_p qo_42 (by decide +kernel)
theorem dX0_holdings_13 : decode cX0_holdings 13 = .ok (.iload 4, 2) := qz_1 .iload 4 qo_21 (by decide +kernel)
theorem dX0_holdings_15 : decode cX0_holdings 15 = .ok (.iload_n 2, 1) := qd_p qo_28 (by decide +kernel)
theorem dX0_holdings_16 : decode cX0_holdings 16 = .ok (.invokevirtual 109, 3) := qz_2 .invokevirtual 0 109 qo_182 (by decide +kernel) rfl
theorem dX0_holdings_19 : decode cX0_holdings 19 = .ok (.iload_n 1, 1) := qd_p qo_27 (by decide +kernel)
theorem dX0_holdings_20 : decode cX0_holdings 20 = .ok (.if_icmp .ne 10, 3) := qz_s2 (.if_icmp .ne) 0 10 qo_160 (by decide +kernel) rfl
theorem dX0_holdings_23 : decode cX0_holdings 23 = .ok (.iload_n 3, 1) := qd_p qo_29 (by decide +kernel)
theorem dX0_holdings_24 : decode cX0_holdings 24 = .ok (.iconst 1, 1) := qd_p qo_4 (by decide +kernel)
theorem dX0_holdings_25 : decode cX0_holdings 25 = .ok (.iload 4, 2) := qz_1 .iload 4 qo_21 (by decide +kernel)
theorem dX0_holdings_27 : decode cX0_holdings 27 = .ok (.ishl, 1) := qd_p qo_120 (by decide +kernel)
theorem dX0_holdings_28 : decode cX0_holdings 28 = .ok (.ior, 1) := qd_p qo_128 (by decide +kernel)
theorem dX0_holdings_29 : decode cX0_holdings 29 = .ok (.istore_n 3, 1) := qd_p qo_62 (by decide +kernel)
theorem dX0_holdings_30 : decode cX0_holdings 30 = .ok (.iinc 4 1, 3) := qd_i (x := 4) (y := 1) qo_132 (by decide +kernel) rfl
theorem dX0_holdings_33 : decode cX0_holdings 33 = .ok (.goto (-28), 3) := qz_s2 .goto 255 228 qo_167 (by decide +kernel) rfl
theorem dX0_holdings_36 : decode cX0_holdings 36 = .ok (.iload_n 3, 1) := qd_p qo_29 (by decide +kernel)
theorem dX0_holdings_37 : decode cX0_holdings 37 = .ok (.ireturn, 1) := qd_p qo_172 (by decide +kernel)
theorem dX0_firstHolding_0 : decode cX0_firstHolding 0 = .ok (.iconst 0, 1) := qd_p qo_3 (by decide +kernel)
theorem dX0_firstHolding_1 : decode cX0_firstHolding 1 = .ok (.istore_n 3, 1) := qd_p qo_62 (by decide +kernel)
theorem dX0_firstHolding_2 : decode cX0_firstHolding 2 = .ok (.iload_n 3, 1) := qd_p qo_29 (by decide +kernel)
theorem dX0_firstHolding_3 : decode cX0_firstHolding 3 = .ok (.bipush 8, 2) := qz_s1 .bipush 8 qo_16 (by decide +kernel) rfl
theorem dX0_firstHolding_5 : decode cX0_firstHolding 5 = .ok (.if_icmp .ge 21, 3) := qz_s2 (.if_icmp .ge) 0 21 qo_162 (by decide +kernel) rfl
theorem dX0_firstHolding_8 : decode cX0_firstHolding 8 = .ok (.aload_n 0, 1) := qd_p qo_42 (by decide +kernel)
theorem dX0_firstHolding_9 : decode cX0_firstHolding 9 = .ok (.iload_n 3, 1) := qd_p qo_29 (by decide +kernel)
theorem dX0_firstHolding_10 : decode cX0_firstHolding 10 = .ok (.iload_n 2, 1) := qd_p qo_28 (by decide +kernel)
theorem dX0_firstHolding_11 : decode cX0_firstHolding 11 = .ok (.invokevirtual 109, 3) := qz_2 .invokevirtual 0 109 qo_182 (by decide +kernel) rfl
theorem dX0_firstHolding_14 : decode cX0_firstHolding 14 = .ok (.iload_n 1, 1) := qd_p qo_27 (by decide +kernel)
theorem dX0_firstHolding_15 : decode cX0_firstHolding 15 = .ok (.if_icmp .ne 5, 3) := qz_s2 (.if_icmp .ne) 0 5 qo_160 (by decide +kernel) rfl
theorem dX0_firstHolding_18 : decode cX0_firstHolding 18 = .ok (.iload_n 3, 1) := qd_p qo_29 (by decide +kernel)
theorem dX0_firstHolding_19 : decode cX0_firstHolding 19 = .ok (.ireturn, 1) := qd_p qo_172 (by decide +kernel)
theorem dX0_firstHolding_20 : decode cX0_firstHolding 20 = .ok (.iinc 3 1, 3) := qd_i (x := 3) (y := 1) qo_132 (by decide +kernel) rfl
theorem dX0_firstHolding_23 : decode cX0_firstHolding 23 = .ok (.goto (-21), 3) := qz_s2 .goto 255 235 qo_167 (by decide +kernel) rfl
theorem dX0_firstHolding_26 : decode cX0_firstHolding 26 = .ok (.bipush (-9), 2) := qz_s1 .bipush 247 qo_16 (by decide +kernel) rfl
theorem dX0_firstHolding_28 : decode cX0_firstHolding 28 = .ok (.ireturn, 1) := qd_p qo_172 (by decide +kernel)
theorem dX0_held_0 : decode cX0_held 0 = .ok (.sipush 255, 3) := qz_s2 .sipush 0 255 qo_17 (by decide +kernel) rfl
theorem dX0_held_3 : decode cX0_held 3 = .ok (.aload_n 0, 1) := qd_p qo_42 (by decide +kernel)
theorem dX0_held_4 : decode cX0_held 4 = .ok (.bipush (-9), 2) := qz_s1 .bipush 247 qo_16 (by decide +kernel) rfl
theorem dX0_held_6 : decode cX0_held 6 = .ok (.iload_n 1, 1) := qd_p qo_27 (by decide +kernel)
theorem dX0_held_7 : decode cX0_held 7 = .ok (.invokevirtual 112, 3) := qz_2 .invokevirtual 0 112 qo_182 (by decide +kernel) rfl
theorem dX0_held_10 : decode cX0_held 10 = .ok (.isub, 1) := qd_p qo_100 (by decide +kernel)
theorem dX0_held_11 : decode cX0_held 11 = .ok (.ireturn, 1) := qd_p qo_172 (by decide +kernel)
theorem dX0_wealth_0 : decode cX0_wealth 0 = .ok (.iconst 0, 1) := qd_p qo_3 (by decide +kernel)
theorem dX0_wealth_1 : decode cX0_wealth 1 = .ok (.istore_n 3, 1) := qd_p qo_62 (by decide +kernel)
theorem dX0_wealth_2 : decode cX0_wealth 2 = .ok (.iconst 0, 1) := qd_p qo_3 (by decide +kernel)
theorem dX0_wealth_3 : decode cX0_wealth 3 = .ok (.istore 4, 2) := qz_1 .istore 4 qo_54 (by decide +kernel)
theorem dX0_wealth_5 : decode cX0_wealth 5 = .ok (.iload 4, 2) := qz_1 .iload 4 qo_21 (by decide +kernel)
theorem dX0_wealth_7 : decode cX0_wealth 7 = .ok (.bipush 8, 2) := qz_s1 .bipush 8 qo_16 (by decide +kernel) rfl
theorem dX0_wealth_9 : decode cX0_wealth 9 = .ok (.if_icmp .ge 30, 3) := qz_s2 (.if_icmp .ge) 0 30 qo_162 (by decide +kernel) rfl
theorem dX0_wealth_12 : decode cX0_wealth 12 = .ok (.aload_n 0, 1) := qd_p qo_42 (by decide +kernel)
theorem dX0_wealth_13 : decode cX0_wealth 13 = .ok (.iload 4, 2) := qz_1 .iload 4 qo_21 (by decide +kernel)
theorem dX0_wealth_15 : decode cX0_wealth 15 = .ok (.iload_n 2, 1) := qd_p qo_28 (by decide +kernel)
theorem dX0_wealth_16 : decode cX0_wealth 16 = .ok (.invokevirtual 109, 3) := qz_2 .invokevirtual 0 109 qo_182 (by decide +kernel) rfl
theorem dX0_wealth_19 : decode cX0_wealth 19 = .ok (.iload_n 1, 1) := qd_p qo_27 (by decide +kernel)
theorem dX0_wealth_20 : decode cX0_wealth 20 = .ok (.if_icmp .ne 13, 3) := qz_s2 (.if_icmp .ne) 0 13 qo_160 (by decide +kernel) rfl
theorem dX0_wealth_23 : decode cX0_wealth 23 = .ok (.iload_n 3, 1) := qd_p qo_29 (by decide +kernel)
theorem dX0_wealth_24 : decode cX0_wealth 24 = .ok (.aload_n 0, 1) := qd_p qo_42 (by decide +kernel)
theorem dX0_wealth_25 : decode cX0_wealth 25 = .ok (.getfield 36, 3) := qz_2 .getfield 0 36 qo_180 (by decide +kernel) rfl
theorem dX0_wealth_28 : decode cX0_wealth 28 = .ok (.iload 4, 2) := qz_1 .iload 4 qo_21 (by decide +kernel)
theorem dX0_wealth_30 : decode cX0_wealth 30 = .ok (.iaload, 1) := qd_p qo_46 (by decide +kernel)
theorem dX0_wealth_31 : decode cX0_wealth 31 = .ok (.iadd, 1) := qd_p qo_96 (by decide +kernel)
theorem dX0_wealth_32 : decode cX0_wealth 32 = .ok (.istore_n 3, 1) := qd_p qo_62 (by decide +kernel)
theorem dX0_wealth_33 : decode cX0_wealth 33 = .ok (.iinc 4 1, 3) := qd_i (x := 4) (y := 1) qo_132 (by decide +kernel) rfl
theorem dX0_wealth_36 : decode cX0_wealth 36 = .ok (.goto (-31), 3) := qz_s2 .goto 255 225 qo_167 (by decide +kernel) rfl
theorem dX0_wealth_39 : decode cX0_wealth 39 = .ok (.iload_n 3, 1) := qd_p qo_29 (by decide +kernel)
theorem dX0_wealth_40 : decode cX0_wealth 40 = .ok (.ireturn, 1) := qd_p qo_172 (by decide +kernel)
theorem dX0_wealthiest_0 : decode cX0_wealthiest 0 = .ok (.bipush (-9), 2) := qz_s1 .bipush 247 qo_16 (by decide +kernel) rfl
theorem dX0_wealthiest_2 : decode cX0_wealthiest 2 = .ok (.istore_n 2, 1) := qd_p qo_61 (by decide +kernel)
theorem dX0_wealthiest_3 : decode cX0_wealthiest 3 = .ok (.iconst (-1), 1) := qd_p qo_2 (by decide +kernel)
theorem dX0_wealthiest_4 : decode cX0_wealthiest 4 = .ok (.istore_n 3, 1) := qd_p qo_62 (by decide +kernel)
theorem dX0_wealthiest_5 : decode cX0_wealthiest 5 = .ok (.iconst 0, 1) := qd_p qo_3 (by decide +kernel)
theorem dX0_wealthiest_6 : decode cX0_wealthiest 6 = .ok (.istore 4, 2) := qz_1 .istore 4 qo_54 (by decide +kernel)
theorem dX0_wealthiest_8 : decode cX0_wealthiest 8 = .ok (.iload 4, 2) := qz_1 .iload 4 qo_21 (by decide +kernel)
theorem dX0_wealthiest_10 : decode cX0_wealthiest 10 = .ok (.aload_n 0, 1) := qd_p qo_42 (by decide +kernel)
theorem dX0_wealthiest_11 : decode cX0_wealthiest 11 = .ok (.getfield 19, 3) := qz_2 .getfield 0 19 qo_180 (by decide +kernel) rfl
theorem dX0_wealthiest_14 : decode cX0_wealthiest 14 = .ok (.if_icmp .ge 30, 3) := qz_s2 (.if_icmp .ge) 0 30 qo_162 (by decide +kernel) rfl
theorem dX0_wealthiest_17 : decode cX0_wealthiest 17 = .ok (.aload_n 0, 1) := qd_p qo_42 (by decide +kernel)
theorem dX0_wealthiest_18 : decode cX0_wealthiest 18 = .ok (.iload 4, 2) := qz_1 .iload 4 qo_21 (by decide +kernel)
theorem dX0_wealthiest_20 : decode cX0_wealthiest 20 = .ok (.iload_n 1, 1) := qd_p qo_27 (by decide +kernel)
theorem dX0_wealthiest_21 : decode cX0_wealthiest 21 = .ok (.invokevirtual 115, 3) := qz_2 .invokevirtual 0 115 qo_182 (by decide +kernel) rfl
theorem dX0_wealthiest_24 : decode cX0_wealthiest 24 = .ok (.istore 5, 2) := qz_1 .istore 5 qo_54 (by decide +kernel)
theorem dX0_wealthiest_26 : decode cX0_wealthiest 26 = .ok (.iload 5, 2) := qz_1 .iload 5 qo_21 (by decide +kernel)
theorem dX0_wealthiest_28 : decode cX0_wealthiest 28 = .ok (.iload_n 3, 1) := qd_p qo_29 (by decide +kernel)
theorem dX0_wealthiest_29 : decode cX0_wealthiest 29 = .ok (.if_icmp .le 9, 3) := qz_s2 (.if_icmp .le) 0 9 qo_164 (by decide +kernel) rfl
theorem dX0_wealthiest_32 : decode cX0_wealthiest 32 = .ok (.iload 5, 2) := qz_1 .iload 5 qo_21 (by decide +kernel)
theorem dX0_wealthiest_34 : decode cX0_wealthiest 34 = .ok (.istore_n 3, 1) := qd_p qo_62 (by decide +kernel)
theorem dX0_wealthiest_35 : decode cX0_wealthiest 35 = .ok (.iload 4, 2) := qz_1 .iload 4 qo_21 (by decide +kernel)
theorem dX0_wealthiest_37 : decode cX0_wealthiest 37 = .ok (.istore_n 2, 1) := qd_p qo_61 (by decide +kernel)
theorem dX0_wealthiest_38 : decode cX0_wealthiest 38 = .ok (.iinc 4 1, 3) := qd_i (x := 4) (y := 1) qo_132 (by decide +kernel) rfl
theorem dX0_wealthiest_41 : decode cX0_wealthiest 41 = .ok (.goto (-33), 3) := qz_s2 .goto 255 223 qo_167 (by decide +kernel) rfl
theorem dX0_wealthiest_44 : decode cX0_wealthiest 44 = .ok (.iload_n 2, 1) := qd_p qo_28 (by decide +kernel)
theorem dX0_wealthiest_45 : decode cX0_wealthiest 45 = .ok (.ireturn, 1) := qd_p qo_172 (by decide +kernel)
theorem dX0_lead_0 : decode cX0_lead 0 = .ok (.iconst 0, 1) := qd_p qo_3 (by decide +kernel)
theorem dX0_lead_1 : decode cX0_lead 1 = .ok (.istore 4, 2) := qz_1 .istore 4 qo_54 (by decide +kernel)
theorem dX0_lead_3 : decode cX0_lead 3 = .ok (.iconst 0, 1) := qd_p qo_3 (by decide +kernel)
theorem dX0_lead_4 : decode cX0_lead 4 = .ok (.istore 5, 2) := qz_1 .istore 5 qo_54 (by decide +kernel)
theorem dX0_lead_6 : decode cX0_lead 6 = .ok (.iload 5, 2) := qz_1 .iload 5 qo_21 (by decide +kernel)
theorem dX0_lead_8 : decode cX0_lead 8 = .ok (.bipush 8, 2) := qz_s1 .bipush 8 qo_16 (by decide +kernel) rfl
theorem dX0_lead_10 : decode cX0_lead 10 = .ok (.if_icmp .ge 57, 3) := qz_s2 (.if_icmp .ge) 0 57 qo_162 (by decide +kernel) rfl
theorem dX0_lead_13 : decode cX0_lead 13 = .ok (.aload_n 0, 1) := qd_p qo_42 (by decide +kernel)
theorem dX0_lead_14 : decode cX0_lead 14 = .ok (.iload 5, 2) := qz_1 .iload 5 qo_21 (by decide +kernel)
theorem dX0_lead_16 : decode cX0_lead 16 = .ok (.iload_n 3, 1) := qd_p qo_29 (by decide +kernel)
theorem dX0_lead_17 : decode cX0_lead 17 = .ok (.invokevirtual 109, 3) := qz_2 .invokevirtual 0 109 qo_182 (by decide +kernel) rfl
theorem dX0_lead_20 : decode cX0_lead 20 = .ok (.istore 6, 2) := qz_1 .istore 6 qo_54 (by decide +kernel)
theorem dX0_lead_22 : decode cX0_lead 22 = .ok (.iload 6, 2) := qz_1 .iload 6 qo_21 (by decide +kernel)
theorem dX0_lead_24 : decode cX0_lead 24 = .ok (.iload_n 1, 1) := qd_p qo_27 (by decide +kernel)
theorem dX0_lead_25 : decode cX0_lead 25 = .ok (.if_icmp .ne 18, 3) := qz_s2 (.if_icmp .ne) 0 18 qo_160 (by decide +kernel) rfl
theorem dX0_lead_28 : decode cX0_lead 28 = .ok (.iload 4, 2) := qz_1 .iload 4 qo_21 (by decide +kernel)
theorem dX0_lead_30 : decode cX0_lead 30 = .ok (.aload_n 0, 1) := qd_p qo_42 (by decide +kernel)
theorem dX0_lead_31 : decode cX0_lead 31 = .ok (.getfield 36, 3) := qz_2 .getfield 0 36 qo_180 (by decide +kernel) rfl
theorem dX0_lead_34 : decode cX0_lead 34 = .ok (.iload 5, 2) := qz_1 .iload 5 qo_21 (by decide +kernel)
theorem dX0_lead_36 : decode cX0_lead 36 = .ok (.iaload, 1) := qd_p qo_46 (by decide +kernel)
theorem dX0_lead_37 : decode cX0_lead 37 = .ok (.iadd, 1) := qd_p qo_96 (by decide +kernel)
theorem dX0_lead_38 : decode cX0_lead 38 = .ok (.istore 4, 2) := qz_1 .istore 4 qo_54 (by decide +kernel)
theorem dX0_lead_40 : decode cX0_lead 40 = .ok (.goto 21, 3) := qz_s2 .goto 0 21 qo_167 (by decide +kernel) rfl
theorem dX0_lead_43 : decode cX0_lead 43 = .ok (.iload 6, 2) := qz_1 .iload 6 qo_21 (by decide +kernel)
theorem dX0_lead_45 : decode cX0_lead 45 = .ok (.iload_n 2, 1) := qd_p qo_28 (by decide +kernel)
theorem dX0_lead_46 : decode cX0_lead 46 = .ok (.if_icmp .ne 15, 3) := qz_s2 (.if_icmp .ne) 0 15 qo_160 (by decide +kernel) rfl
theorem dX0_lead_49 : decode cX0_lead 49 = .ok (.iload 4, 2) := qz_1 .iload 4 qo_21 (by decide +kernel)
theorem dX0_lead_51 : decode cX0_lead 51 = .ok (.aload_n 0, 1) := qd_p qo_42 (by decide +kernel)
theorem dX0_lead_52 : decode cX0_lead 52 = .ok (.getfield 36, 3) := qz_2 .getfield 0 36 qo_180 (by decide +kernel) rfl
theorem dX0_lead_55 : decode cX0_lead 55 = .ok (.iload 5, 2) := qz_1 .iload 5 qo_21 (by decide +kernel)
theorem dX0_lead_57 : decode cX0_lead 57 = .ok (.iaload, 1) := qd_p qo_46 (by decide +kernel)
theorem dX0_lead_58 : decode cX0_lead 58 = .ok (.isub, 1) := qd_p qo_100 (by decide +kernel)
theorem dX0_lead_59 : decode cX0_lead 59 = .ok (.istore 4, 2) := qz_1 .istore 4 qo_54 (by decide +kernel)
theorem dX0_lead_61 : decode cX0_lead 61 = .ok (.iinc 5 1, 3) := qd_i (x := 5) (y := 1) qo_132 (by decide +kernel) rfl
theorem dX0_lead_64 : decode cX0_lead 64 = .ok (.goto (-58), 3) := qz_s2 .goto 255 198 qo_167 (by decide +kernel) rfl
theorem dX0_lead_67 : decode cX0_lead 67 = .ok (.iload 4, 2) := qz_1 .iload 4 qo_21 (by decide +kernel)
theorem dX0_lead_69 : decode cX0_lead 69 = .ok (.ireturn, 1) := qd_p qo_172 (by decide +kernel)
theorem dX0_outdo_0 : decode cX0_outdo 0 = .ok (.aload_n 0, 1) := qd_p qo_42 (by decide +kernel)
theorem dX0_outdo_1 : decode cX0_outdo 1 = .ok (.iload_n 1, 1) := qd_p qo_27 (by decide +kernel)
theorem dX0_outdo_2 : decode cX0_outdo 2 = .ok (.iload_n 3, 1) := qd_p qo_29 (by decide +kernel)
theorem dX0_outdo_3 : decode cX0_outdo 3 = .ok (.iload 4, 2) := qz_1 .iload 4 qo_21 (by decide +kernel)
theorem dX0_outdo_5 : decode cX0_outdo 5 = .ok (.invokevirtual 70, 3) := qz_2 .invokevirtual 0 70 qo_182 (by decide +kernel) rfl
theorem dX0_outdo_8 : decode cX0_outdo 8 = .ok (.aload_n 0, 1) := qd_p qo_42 (by decide +kernel)
theorem dX0_outdo_9 : decode cX0_outdo 9 = .ok (.iload_n 2, 1) := qd_p qo_28 (by decide +kernel)
theorem dX0_outdo_10 : decode cX0_outdo 10 = .ok (.iload_n 3, 1) := qd_p qo_29 (by decide +kernel)
theorem dX0_outdo_11 : decode cX0_outdo 11 = .ok (.iload 4, 2) := qz_1 .iload 4 qo_21 (by decide +kernel)
theorem dX0_outdo_13 : decode cX0_outdo 13 = .ok (.invokevirtual 70, 3) := qz_2 .invokevirtual 0 70 qo_182 (by decide +kernel) rfl
theorem dX0_outdo_16 : decode cX0_outdo 16 = .ok (.iadd, 1) := qd_p qo_96 (by decide +kernel)
theorem dX0_outdo_17 : decode cX0_outdo 17 = .ok (.istore 5, 2) := qz_1 .istore 5 qo_54 (by decide +kernel)
theorem dX0_outdo_19 : decode cX0_outdo 19 = .ok (.iconst 0, 1) := qd_p qo_3 (by decide +kernel)
theorem dX0_outdo_20 : decode cX0_outdo 20 = .ok (.istore 6, 2) := qz_1 .istore 6 qo_54 (by decide +kernel)
theorem dX0_outdo_22 : decode cX0_outdo 22 = .ok (.iload 6, 2) := qz_1 .iload 6 qo_21 (by decide +kernel)
theorem dX0_outdo_24 : decode cX0_outdo 24 = .ok (.aload_n 0, 1) := qd_p qo_42 (by decide +kernel)
theorem dX0_outdo_25 : decode cX0_outdo 25 = .ok (.getfield 19, 3) := qz_2 .getfield 0 19 qo_180 (by decide +kernel) rfl
theorem dX0_outdo_28 : decode cX0_outdo 28 = .ok (.if_icmp .ge 37, 3) := qz_s2 (.if_icmp .ge) 0 37 qo_162 (by decide +kernel) rfl
theorem dX0_outdo_31 : decode cX0_outdo 31 = .ok (.iload 6, 2) := qz_1 .iload 6 qo_21 (by decide +kernel)
theorem dX0_outdo_33 : decode cX0_outdo 33 = .ok (.iload_n 1, 1) := qd_p qo_27 (by decide +kernel)
theorem dX0_outdo_34 : decode cX0_outdo 34 = .ok (.if_icmp .eq 25, 3) := qz_s2 (.if_icmp .eq) 0 25 qo_159 (by decide +kernel) rfl
theorem dX0_outdo_37 : decode cX0_outdo 37 = .ok (.iload 6, 2) := qz_1 .iload 6 qo_21 (by decide +kernel)
theorem dX0_outdo_39 : decode cX0_outdo 39 = .ok (.iload_n 2, 1) := qd_p qo_28 (by decide +kernel)
theorem dX0_outdo_40 : decode cX0_outdo 40 = .ok (.if_icmp .eq 19, 3) := qz_s2 (.if_icmp .eq) 0 19 qo_159 (by decide +kernel) rfl
theorem dX0_outdo_43 : decode cX0_outdo 43 = .ok (.aload_n 0, 1) := qd_p qo_42 (by decide +kernel)
theorem dX0_outdo_44 : decode cX0_outdo 44 = .ok (.iload 6, 2) := qz_1 .iload 6 qo_21 (by decide +kernel)
theorem dX0_outdo_46 : decode cX0_outdo 46 = .ok (.iload_n 3, 1) := qd_p qo_29 (by decide +kernel)
theorem dX0_outdo_47 : decode cX0_outdo 47 = .ok (.iload 4, 2) := qz_1 .iload 4 qo_21 (by decide +kernel)
theorem dX0_outdo_49 : decode cX0_outdo 49 = .ok (.invokevirtual 70, 3) := qz_2 .invokevirtual 0 70 qo_182 (by decide +kernel) rfl
theorem dX0_outdo_52 : decode cX0_outdo 52 = .ok (.iload 5, 2) := qz_1 .iload 5 qo_21 (by decide +kernel)
theorem dX0_outdo_54 : decode cX0_outdo 54 = .ok (.if_icmp .lt 5, 3) := qz_s2 (.if_icmp .lt) 0 5 qo_161 (by decide +kernel) rfl
theorem dX0_outdo_57 : decode cX0_outdo 57 = .ok (.iconst 0, 1) := qd_p qo_3 (by decide +kernel)
theorem dX0_outdo_58 : decode cX0_outdo 58 = .ok (.ireturn, 1) := qd_p qo_172 (by decide +kernel)
theorem dX0_outdo_59 : decode cX0_outdo 59 = .ok (.iinc 6 1, 3) := qd_i (x := 6) (y := 1) qo_132 (by decide +kernel) rfl
theorem dX0_outdo_62 : decode cX0_outdo 62 = .ok (.goto (-40), 3) := qz_s2 .goto 255 216 qo_167 (by decide +kernel) rfl
theorem dX0_outdo_65 : decode cX0_outdo 65 = .ok (.iconst 1, 1) := qd_p qo_4 (by decide +kernel)
theorem dX0_outdo_66 : decode cX0_outdo 66 = .ok (.ireturn, 1) := qd_p qo_172 (by decide +kernel)
theorem dX0_placeOf_0 : decode cX0_placeOf 0 = .ok (.iconst 0, 1) := qd_p qo_3 (by decide +kernel)
theorem dX0_placeOf_1 : decode cX0_placeOf 1 = .ok (.istore_n 3, 1) := qd_p qo_62 (by decide +kernel)
theorem dX0_placeOf_2 : decode cX0_placeOf 2 = .ok (.aload_n 0, 1) := qd_p qo_42 (by decide +kernel)
theorem dX0_placeOf_3 : decode cX0_placeOf 3 = .ok (.getfield 33, 3) := qz_2 .getfield 0 33 qo_180 (by decide +kernel) rfl
theorem dX0_placeOf_6 : decode cX0_placeOf 6 = .ok (.iload_n 1, 1) := qd_p qo_27 (by decide +kernel)
theorem dX0_placeOf_7 : decode cX0_placeOf 7 = .ok (.aaload, 1) := qd_p qo_50 (by decide +kernel)
theorem dX0_placeOf_8 : decode cX0_placeOf 8 = .ok (.iload_n 2, 1) := qd_p qo_28 (by decide +kernel)
theorem dX0_placeOf_9 : decode cX0_placeOf 9 = .ok (.iaload, 1) := qd_p qo_46 (by decide +kernel)
theorem dX0_placeOf_10 : decode cX0_placeOf 10 = .ok (.istore 4, 2) := qz_1 .istore 4 qo_54 (by decide +kernel)
theorem dX0_placeOf_12 : decode cX0_placeOf 12 = .ok (.iconst 0, 1) := qd_p qo_3 (by decide +kernel)
theorem dX0_placeOf_13 : decode cX0_placeOf 13 = .ok (.istore 5, 2) := qz_1 .istore 5 qo_54 (by decide +kernel)
theorem dX0_placeOf_15 : decode cX0_placeOf 15 = .ok (.iload 5, 2) := qz_1 .iload 5 qo_21 (by decide +kernel)
theorem dX0_placeOf_17 : decode cX0_placeOf 17 = .ok (.aload_n 0, 1) := qd_p qo_42 (by decide +kernel)
theorem dX0_placeOf_18 : decode cX0_placeOf 18 = .ok (.getfield 19, 3) := qz_2 .getfield 0 19 qo_180 (by decide +kernel) rfl
theorem dX0_placeOf_21 : decode cX0_placeOf 21 = .ok (.if_icmp .ge 43, 3) := qz_s2 (.if_icmp .ge) 0 43 qo_162 (by decide +kernel) rfl
theorem dX0_placeOf_24 : decode cX0_placeOf 24 = .ok (.aload_n 0, 1) := qd_p qo_42 (by decide +kernel)
theorem dX0_placeOf_25 : decode cX0_placeOf 25 = .ok (.getfield 33, 3) := qz_2 .getfield 0 33 qo_180 (by decide +kernel) rfl
theorem dX0_placeOf_28 : decode cX0_placeOf 28 = .ok (.iload 5, 2) := qz_1 .iload 5 qo_21 (by decide +kernel)
theorem dX0_placeOf_30 : decode cX0_placeOf 30 = .ok (.aaload, 1) := qd_p qo_50 (by decide +kernel)
theorem dX0_placeOf_31 : decode cX0_placeOf 31 = .ok (.iload_n 2, 1) := qd_p qo_28 (by decide +kernel)
theorem dX0_placeOf_32 : decode cX0_placeOf 32 = .ok (.iaload, 1) := qd_p qo_46 (by decide +kernel)
theorem dX0_placeOf_33 : decode cX0_placeOf 33 = .ok (.istore 6, 2) := qz_1 .istore 6 qo_54 (by decide +kernel)
theorem dX0_placeOf_35 : decode cX0_placeOf 35 = .ok (.iload 6, 2) := qz_1 .iload 6 qo_21 (by decide +kernel)
theorem dX0_placeOf_37 : decode cX0_placeOf 37 = .ok (.iload 4, 2) := qz_1 .iload 4 qo_21 (by decide +kernel)
theorem dX0_placeOf_39 : decode cX0_placeOf 39 = .ok (.if_icmp .gt 16, 3) := qz_s2 (.if_icmp .gt) 0 16 qo_163 (by decide +kernel) rfl
theorem dX0_placeOf_42 : decode cX0_placeOf 42 = .ok (.iload 6, 2) := qz_1 .iload 6 qo_21 (by decide +kernel)
theorem dX0_placeOf_44 : decode cX0_placeOf 44 = .ok (.iload 4, 2) := qz_1 .iload 4 qo_21 (by decide +kernel)
theorem dX0_placeOf_46 : decode cX0_placeOf 46 = .ok (.if_icmp .ne 12, 3) := qz_s2 (.if_icmp .ne) 0 12 qo_160 (by decide +kernel) rfl
theorem dX0_placeOf_49 : decode cX0_placeOf 49 = .ok (.iload 5, 2) := qz_1 .iload 5 qo_21 (by decide +kernel)
theorem dX0_placeOf_51 : decode cX0_placeOf 51 = .ok (.iload_n 1, 1) := qd_p qo_27 (by decide +kernel)
theorem dX0_placeOf_52 : decode cX0_placeOf 52 = .ok (.if_icmp .ge 6, 3) := qz_s2 (.if_icmp .ge) 0 6 qo_162 (by decide +kernel) rfl
theorem dX0_placeOf_55 : decode cX0_placeOf 55 = .ok (.iinc 3 1, 3) := qd_i (x := 3) (y := 1) qo_132 (by decide +kernel) rfl
theorem dX0_placeOf_58 : decode cX0_placeOf 58 = .ok (.iinc 5 1, 3) := qd_i (x := 5) (y := 1) qo_132 (by decide +kernel) rfl
theorem dX0_placeOf_61 : decode cX0_placeOf 61 = .ok (.goto (-46), 3) := qz_s2 .goto 255 210 qo_167 (by decide +kernel) rfl
theorem dX0_placeOf_64 : decode cX0_placeOf 64 = .ok (.iload_n 3, 1) := qd_p qo_29 (by decide +kernel)
theorem dX0_placeOf_65 : decode cX0_placeOf 65 = .ok (.ireturn, 1) := qd_p qo_172 (by decide +kernel)
theorem dX1_add_0 : decode cX1_add 0 = .ok (.aload_n 0, 1) := qd_p qo_42 (by decide +kernel)
theorem dX1_add_1 : decode cX1_add 1 = .ok (.getfield 15, 3) := qz_2 .getfield 0 15 qo_180 (by decide +kernel) rfl
theorem dX1_add_4 : decode cX1_add 4 = .ok (.ifCond .lt 32, 3) := qz_s2 (.ifCond .lt) 0 32 qo_155 (by decide +kernel) rfl
theorem dX1_add_7 : decode cX1_add 7 = .ok (.aload_n 0, 1) := qd_p qo_42 (by decide +kernel)
theorem dX1_add_8 : decode cX1_add 8 = .ok (.getfield 15, 3) := qz_2 .getfield 0 15 qo_180 (by decide +kernel) rfl
theorem dX1_add_11 : decode cX1_add 11 = .ok (.bipush 96, 2) := qz_s1 .bipush 96 qo_16 (by decide +kernel) rfl
theorem dX1_add_13 : decode cX1_add 13 = .ok (.if_icmp .ge 23, 3) := qz_s2 (.if_icmp .ge) 0 23 qo_162 (by decide +kernel) rfl
theorem dX1_add_16 : decode cX1_add 16 = .ok (.aload_n 0, 1) := qd_p qo_42 (by decide +kernel)
theorem dX1_add_17 : decode cX1_add 17 = .ok (.getfield 9, 3) := qz_2 .getfield 0 9 qo_180 (by decide +kernel) rfl
theorem dX1_add_20 : decode cX1_add 20 = .ok (.aload_n 0, 1) := qd_p qo_42 (by decide +kernel)
theorem dX1_add_21 : decode cX1_add 21 = .ok (.getfield 15, 3) := qz_2 .getfield 0 15 qo_180 (by decide +kernel) rfl
theorem dX1_add_24 : decode cX1_add 24 = .ok (.iload_n 1, 1) := qd_p qo_27 (by decide +kernel)
theorem dX1_add_25 : decode cX1_add 25 = .ok (.iastore, 1) := qd_p qo_79 (by decide +kernel)
theorem dX1_add_26 : decode cX1_add 26 = .ok (.aload_n 0, 1) := qd_p qo_42 (by decide +kernel)
theorem dX1_add_27 : decode cX1_add 27 = .ok (.dup, 1) := qd_p qo_89 (by decide +kernel)
theorem dX1_add_28 : decode cX1_add 28 = .ok (.getfield 15, 3) := qz_2 .getfield 0 15 qo_180 (by decide +kernel) rfl
theorem dX1_add_31 : decode cX1_add 31 = .ok (.iconst 1, 1) := qd_p qo_4 (by decide +kernel)
theorem dX1_add_32 : decode cX1_add 32 = .ok (.iadd, 1) := qd_p qo_96 (by decide +kernel)
theorem dX1_add_33 : decode cX1_add 33 = .ok (.putfield 15, 3) := qz_2 .putfield 0 15 qo_181 (by decide +kernel) rfl
theorem dX1_add_36 : decode cX1_add 36 = .ok (.return_, 1) := qd_p qo_177 (by decide +kernel)
theorem dX1_digitsOf_0 : decode cX1_digitsOf 0 = .ok (.iload_n 0, 1) := qd_p qo_26 (by decide +kernel)
theorem dX1_digitsOf_1 : decode cX1_digitsOf 1 = .ok (.tableswitch 104 100 119 #[100, 104, 104, 104, 104, 104, 104, 104, 100, 104, 104, 104, 95, 104, 104, 97, 104, 102, 100, 100], 95) := by decide +kernel
theorem dX1_digitsOf_96 : decode cX1_digitsOf 96 = .ok (.iconst 3, 1) := qd_p qo_6 (by decide +kernel)
theorem dX1_digitsOf_97 : decode cX1_digitsOf 97 = .ok (.ireturn, 1) := qd_p qo_172 (by decide +kernel)
theorem dX1_digitsOf_98 : decode cX1_digitsOf 98 = .ok (.bipush 6, 2) := qz_s1 .bipush 6 qo_16 (by decide +kernel) rfl
theorem dX1_digitsOf_100 : decode cX1_digitsOf 100 = .ok (.ireturn, 1) := qd_p qo_172 (by decide +kernel)
theorem dX1_digitsOf_101 : decode cX1_digitsOf 101 = .ok (.iconst 2, 1) := qd_p qo_5 (by decide +kernel)
theorem dX1_digitsOf_102 : decode cX1_digitsOf 102 = .ok (.ireturn, 1) := qd_p qo_172 (by decide +kernel)
theorem dX1_digitsOf_103 : decode cX1_digitsOf 103 = .ok (.iconst 1, 1) := qd_p qo_4 (by decide +kernel)
theorem dX1_digitsOf_104 : decode cX1_digitsOf 104 = .ok (.ireturn, 1) := qd_p qo_172 (by decide +kernel)
theorem dX1_digitsOf_105 : decode cX1_digitsOf 105 = .ok (.bipush (-9), 2) := qz_s1 .bipush 247 qo_16 (by decide +kernel) rfl
theorem dX1_digitsOf_107 : decode cX1_digitsOf 107 = .ok (.ireturn, 1) := qd_p qo_172 (by decide +kernel)
theorem dX1_isDigit_0 : decode cX1_isDigit 0 = .ok (.iload_n 1, 1) := qd_p qo_27 (by decide +kernel)
theorem dX1_isDigit_1 : decode cX1_isDigit 1 = .ok (.ifCond .lt 37, 3) := qz_s2 (.ifCond .lt) 0 37 qo_155 (by decide +kernel) rfl
theorem dX1_isDigit_4 : decode cX1_isDigit 4 = .ok (.iload_n 1, 1) := qd_p qo_27 (by decide +kernel)
theorem dX1_isDigit_5 : decode cX1_isDigit 5 = .ok (.aload_n 0, 1) := qd_p qo_42 (by decide +kernel)
theorem dX1_isDigit_6 : decode cX1_isDigit 6 = .ok (.getfield 15, 3) := qz_2 .getfield 0 15 qo_180 (by decide +kernel) rfl
theorem dX1_isDigit_9 : decode cX1_isDigit 9 = .ok (.if_icmp .ge 29, 3) := qz_s2 (.if_icmp .ge) 0 29 qo_162 (by decide +kernel) rfl
theorem dX1_isDigit_12 : decode cX1_isDigit 12 = .ok (.aload_n 0, 1) := qd_p qo_42 (by decide +kernel)
theorem dX1_isDigit_13 : decode cX1_isDigit 13 = .ok (.getfield 9, 3) := qz_2 .getfield 0 9 qo_180 (by decide +kernel) rfl
theorem dX1_isDigit_16 : decode cX1_isDigit 16 = .ok (.iload_n 1, 1) := qd_p qo_27 (by decide +kernel)
theorem dX1_isDigit_17 : decode cX1_isDigit 17 = .ok (.iaload, 1) := qd_p qo_46 (by decide +kernel)
theorem dX1_isDigit_18 : decode cX1_isDigit 18 = .ok (.bipush 48, 2) := qz_s1 .bipush 48 qo_16 (by decide +kernel) rfl
theorem dX1_isDigit_20 : decode cX1_isDigit 20 = .ok (.if_icmp .lt 18, 3) := qz_s2 (.if_icmp .lt) 0 18 qo_161 (by decide +kernel) rfl
theorem dX1_isDigit_23 : decode cX1_isDigit 23 = .ok (.aload_n 0, 1) := qd_p qo_42 (by decide +kernel)
theorem dX1_isDigit_24 : decode cX1_isDigit 24 = .ok (.getfield 9, 3) := qz_2 .getfield 0 9 qo_180 (by decide +kernel) rfl
theorem dX1_isDigit_27 : decode cX1_isDigit 27 = .ok (.iload_n 1, 1) := qd_p qo_27 (by decide +kernel)
theorem dX1_isDigit_28 : decode cX1_isDigit 28 = .ok (.iaload, 1) := qd_p qo_46 (by decide +kernel)
theorem dX1_isDigit_29 : decode cX1_isDigit 29 = .ok (.bipush 57, 2) := qz_s1 .bipush 57 qo_16 (by decide +kernel) rfl
theorem dX1_isDigit_31 : decode cX1_isDigit 31 = .ok (.if_icmp .gt 7, 3) := qz_s2 (.if_icmp .gt) 0 7 qo_163 (by decide +kernel) rfl
theorem dX1_isDigit_34 : decode cX1_isDigit 34 = .ok (.iconst 1, 1) := qd_p qo_4 (by decide +kernel)
theorem dX1_isDigit_35 : decode cX1_isDigit 35 = .ok (.goto 4, 3) := qz_s2 .goto 0 4 qo_167 (by decide +kernel) rfl
theorem dX1_isDigit_38 : decode cX1_isDigit 38 = .ok (.iconst 0, 1) := qd_p qo_3 (by decide +kernel)
theorem dX1_isDigit_39 : decode cX1_isDigit 39 = .ok (.ireturn, 1) := qd_p qo_172 (by decide +kernel)
theorem dX1_behind_0 : decode cX1_behind 0 = .ok (.iload_n 1, 1) := qd_p qo_27 (by decide +kernel)
theorem dX1_behind_1 : decode cX1_behind 1 = .ok (.ifCond .lt 11, 3) := qz_s2 (.ifCond .lt) 0 11 qo_155 (by decide +kernel) rfl
theorem dX1_behind_4 : decode cX1_behind 4 = .ok (.iload_n 1, 1) := qd_p qo_27 (by decide +kernel)
theorem dX1_behind_5 : decode cX1_behind 5 = .ok (.aload_n 0, 1) := qd_p qo_42 (by decide +kernel)
theorem dX1_behind_6 : decode cX1_behind 6 = .ok (.getfield 15, 3) := qz_2 .getfield 0 15 qo_180 (by decide +kernel) rfl
theorem dX1_behind_9 : decode cX1_behind 9 = .ok (.if_icmp .lt 6, 3) := qz_s2 (.if_icmp .lt) 0 6 qo_161 (by decide +kernel) rfl
theorem dX1_behind_12 : decode cX1_behind 12 = .ok (.bipush 96, 2) := qz_s1 .bipush 96 qo_16 (by decide +kernel) rfl
theorem dX1_behind_14 : decode cX1_behind 14 = .ok (.ireturn, 1) := qd_p qo_172 (by decide +kernel)
theorem dX1_behind_15 : decode cX1_behind 15 = .ok (.iload_n 1, 1) := qd_p qo_27 (by decide +kernel)
theorem dX1_behind_16 : decode cX1_behind 16 = .ok (.aload_n 0, 1) := qd_p qo_42 (by decide +kernel)
theorem dX1_behind_17 : decode cX1_behind 17 = .ok (.getfield 9, 3) := qz_2 .getfield 0 9 qo_180 (by decide +kernel) rfl
theorem dX1_behind_20 : decode cX1_behind 20 = .ok (.iload_n 1, 1) := qd_p qo_27 (by decide +kernel)
theorem dX1_behind_21 : decode cX1_behind 21 = .ok (.iaload, 1) := qd_p qo_46 (by decide +kernel)
theorem dX1_behind_22 : decode cX1_behind 22 = .ok (.invokestatic 19, 3) := qz_2 .invokestatic 0 19 qo_184 (by decide +kernel) rfl
theorem dX1_behind_25 : decode cX1_behind 25 = .ok (.iconst 0, 1) := qd_p qo_3 (by decide +kernel)
theorem dX1_behind_26 : decode cX1_behind 26 = .ok (.invokestatic 23, 3) := qz_2 .invokestatic 0 23 qo_184 (by decide +kernel) rfl
theorem dX1_behind_29 : decode cX1_behind 29 = .ok (.iadd, 1) := qd_p qo_96 (by decide +kernel)
theorem dX1_behind_30 : decode cX1_behind 30 = .ok (.iconst 2, 1) := qd_p qo_5 (by decide +kernel)
theorem dX1_behind_31 : decode cX1_behind 31 = .ok (.iadd, 1) := qd_p qo_96 (by decide +kernel)
theorem dX1_behind_32 : decode cX1_behind 32 = .ok (.ireturn, 1) := qd_p qo_172 (by decide +kernel)
theorem dX1_faultOfForm_0 : decode cX1_faultOfForm 0 = .ok (.aload_n 0, 1) := qd_p qo_42 (by decide +kernel)
theorem dX1_faultOfForm_1 : decode cX1_faultOfForm 1 = .ok (.getfield 15, 3) := qz_2 .getfield 0 15 qo_180 (by decide +kernel) rfl
theorem dX1_faultOfForm_4 : decode cX1_faultOfForm 4 = .ok (.ifCond .ne 5, 3) := qz_s2 (.ifCond .ne) 0 5 qo_154 (by decide +kernel) rfl
theorem dX1_faultOfForm_7 : decode cX1_faultOfForm 7 = .ok (.iconst 0, 1) := qd_p qo_3 (by decide +kernel)
theorem dX1_faultOfForm_8 : decode cX1_faultOfForm 8 = .ok (.ireturn, 1) := qd_p qo_172 (by decide +kernel)
theorem dX1_faultOfForm_9 : decode cX1_faultOfForm 9 = .ok (.iconst 0, 1) := qd_p qo_3 (by decide +kernel)
theorem dX1_faultOfForm_10 : decode cX1_faultOfForm 10 = .ok (.istore_n 1, 1) := qd_p qo_60 (by decide +kernel)
theorem dX1_faultOfForm_11 : decode cX1_faultOfForm 11 = .ok (.iconst 0, 1) := qd_p qo_3 (by decide +kernel)
theorem dX1_faultOfForm_12 : decode cX1_faultOfForm 12 = .ok (.istore_n 2, 1) := qd_p qo_61 (by decide +kernel)
theorem dX1_faultOfForm_13 : decode cX1_faultOfForm 13 = .ok (.iconst 0, 1) := qd_p qo_3 (by decide +kernel)
theorem dX1_faultOfForm_14 : decode cX1_faultOfForm 14 = .ok (.istore_n 3, 1) := qd_p qo_62 (by decide +kernel)
theorem dX1_faultOfForm_15 : decode cX1_faultOfForm 15 = .ok (.iload_n 3, 1) := qd_p qo_29 (by decide +kernel)
theorem dX1_faultOfForm_16 : decode cX1_faultOfForm 16 = .ok (.aload_n 0, 1) := qd_p qo_42 (by decide +kernel)
theorem dX1_faultOfForm_17 : decode cX1_faultOfForm 17 = .ok (.getfield 15, 3) := qz_2 .getfield 0 15 qo_180 (by decide +kernel) rfl
theorem dX1_faultOfForm_20 : decode cX1_faultOfForm 20 = .ok (.if_icmp .ge 76, 3) := qz_s2 (.if_icmp .ge) 0 76 qo_162 (by decide +kernel) rfl
theorem dX1_faultOfForm_23 : decode cX1_faultOfForm 23 = .ok (.iload_n 2, 1) := qd_p qo_28 (by decide +kernel)
theorem dX1_faultOfForm_24 : decode cX1_faultOfForm 24 = .ok (.ifCond .ne 31, 3) := qz_s2 (.ifCond .ne) 0 31 qo_154 (by decide +kernel) rfl
theorem dX1_faultOfForm_27 : decode cX1_faultOfForm 27 = .ok (.aload_n 0, 1) := qd_p qo_42 (by decide +kernel)
theorem dX1_faultOfForm_28 : decode cX1_faultOfForm 28 = .ok (.getfield 9, 3) := qz_2 .getfield 0 9 qo_180 (by decide +kernel) rfl
theorem dX1_faultOfForm_31 : decode cX1_faultOfForm 31 = .ok (.iload_n 3, 1) := qd_p qo_29 (by decide +kernel)
theorem dX1_faultOfForm_32 : decode cX1_faultOfForm 32 = .ok (.iaload, 1) := qd_p qo_46 (by decide +kernel)
theorem dX1_faultOfForm_33 : decode cX1_faultOfForm 33 = .ok (.invokestatic 19, 3) := qz_2 .invokestatic 0 19 qo_184 (by decide +kernel) rfl
theorem dX1_faultOfForm_36 : decode cX1_faultOfForm 36 = .ok (.istore_n 1, 1) := qd_p qo_60 (by decide +kernel)
theorem dX1_faultOfForm_37 : decode cX1_faultOfForm 37 = .ok (.iload_n 1, 1) := qd_p qo_27 (by decide +kernel)
theorem dX1_faultOfForm_38 : decode cX1_faultOfForm 38 = .ok (.bipush (-9), 2) := qz_s1 .bipush 247 qo_16 (by decide +kernel) rfl
theorem dX1_faultOfForm_40 : decode cX1_faultOfForm 40 = .ok (.if_icmp .eq 7, 3) := qz_s2 (.if_icmp .eq) 0 7 qo_159 (by decide +kernel) rfl
theorem dX1_faultOfForm_43 : decode cX1_faultOfForm 43 = .ok (.iconst 1, 1) := qd_p qo_4 (by decide +kernel)
theorem dX1_faultOfForm_44 : decode cX1_faultOfForm 44 = .ok (.goto 4, 3) := qz_s2 .goto 0 4 qo_167 (by decide +kernel) rfl
theorem dX1_faultOfForm_47 : decode cX1_faultOfForm 47 = .ok (.iconst 0, 1) := qd_p qo_3 (by decide +kernel)
theorem dX1_faultOfForm_48 : decode cX1_faultOfForm 48 = .ok (.istore_n 2, 1) := qd_p qo_61 (by decide +kernel)
theorem dX1_faultOfForm_49 : decode cX1_faultOfForm 49 = .ok (.iload_n 2, 1) := qd_p qo_28 (by decide +kernel)
theorem dX1_faultOfForm_50 : decode cX1_faultOfForm 50 = .ok (.ifCond .ne 40, 3) := qz_s2 (.ifCond .ne) 0 40 qo_154 (by decide +kernel) rfl
theorem dX1_faultOfForm_53 : decode cX1_faultOfForm 53 = .ok (.iload_n 3, 1) := qd_p qo_29 (by decide +kernel)
theorem dX1_faultOfForm_54 : decode cX1_faultOfForm 54 = .ok (.ireturn, 1) := qd_p qo_172 (by decide +kernel)
theorem dX1_faultOfForm_55 : decode cX1_faultOfForm 55 = .ok (.iload_n 1, 1) := qd_p qo_27 (by decide +kernel)
theorem dX1_faultOfForm_56 : decode cX1_faultOfForm 56 = .ok (.ifCond .le 19, 3) := qz_s2 (.ifCond .le) 0 19 qo_158 (by decide +kernel) rfl
theorem dX1_faultOfForm_59 : decode cX1_faultOfForm 59 = .ok (.aload_n 0, 1) := qd_p qo_42 (by decide +kernel)
theorem dX1_faultOfForm_60 : decode cX1_faultOfForm 60 = .ok (.iload_n 3, 1) := qd_p qo_29 (by decide +kernel)
theorem dX1_faultOfForm_61 : decode cX1_faultOfForm 61 = .ok (.invokevirtual 29, 3) := qz_2 .invokevirtual 0 29 qo_182 (by decide +kernel) rfl
theorem dX1_faultOfForm_64 : decode cX1_faultOfForm 64 = .ok (.ifCond .ne 5, 3) := qz_s2 (.ifCond .ne) 0 5 qo_154 (by decide +kernel) rfl
theorem dX1_faultOfForm_67 : decode cX1_faultOfForm 67 = .ok (.iload_n 3, 1) := qd_p qo_29 (by decide +kernel)
theorem dX1_faultOfForm_68 : decode cX1_faultOfForm 68 = .ok (.ireturn, 1) := qd_p qo_172 (by decide +kernel)
theorem dX1_faultOfForm_69 : decode cX1_faultOfForm 69 = .ok (.iinc 1 (-1), 3) := qd_i (x := 1) (y := 255) qo_132 (by decide +kernel) rfl
theorem dX1_faultOfForm_72 : decode cX1_faultOfForm 72 = .ok (.goto 18, 3) := qz_s2 .goto 0 18 qo_167 (by decide +kernel) rfl
theorem dX1_faultOfForm_75 : decode cX1_faultOfForm 75 = .ok (.aload_n 0, 1) := qd_p qo_42 (by decide +kernel)
theorem dX1_faultOfForm_76 : decode cX1_faultOfForm 76 = .ok (.getfield 9, 3) := qz_2 .getfield 0 9 qo_180 (by decide +kernel) rfl
theorem dX1_faultOfForm_79 : decode cX1_faultOfForm 79 = .ok (.iload_n 3, 1) := qd_p qo_29 (by decide +kernel)
theorem dX1_faultOfForm_80 : decode cX1_faultOfForm 80 = .ok (.iaload, 1) := qd_p qo_46 (by decide +kernel)
theorem dX1_faultOfForm_81 : decode cX1_faultOfForm 81 = .ok (.bipush 59, 2) := qz_s1 .bipush 59 qo_16 (by decide +kernel) rfl
theorem dX1_faultOfForm_83 : decode cX1_faultOfForm 83 = .ok (.if_icmp .eq 5, 3) := qz_s2 (.if_icmp .eq) 0 5 qo_159 (by decide +kernel) rfl
theorem dX1_faultOfForm_86 : decode cX1_faultOfForm 86 = .ok (.iload_n 3, 1) := qd_p qo_29 (by decide +kernel)
theorem dX1_faultOfForm_87 : decode cX1_faultOfForm 87 = .ok (.ireturn, 1) := qd_p qo_172 (by decide +kernel)
theorem dX1_faultOfForm_88 : decode cX1_faultOfForm 88 = .ok (.iconst 0, 1) := qd_p qo_3 (by decide +kernel)
theorem dX1_faultOfForm_89 : decode cX1_faultOfForm 89 = .ok (.istore_n 2, 1) := qd_p qo_61 (by decide +kernel)
theorem dX1_faultOfForm_90 : decode cX1_faultOfForm 90 = .ok (.iinc 3 1, 3) := qd_i (x := 3) (y := 1) qo_132 (by decide +kernel) rfl
theorem dX1_faultOfForm_93 : decode cX1_faultOfForm 93 = .ok (.goto (-78), 3) := qz_s2 .goto 255 178 qo_167 (by decide +kernel) rfl
theorem dX1_faultOfForm_96 : decode cX1_faultOfForm 96 = .ok (.iload_n 2, 1) := qd_p qo_28 (by decide +kernel)
theorem dX1_faultOfForm_97 : decode cX1_faultOfForm 97 = .ok (.ifCond .eq 10, 3) := qz_s2 (.ifCond .eq) 0 10 qo_153 (by decide +kernel) rfl
theorem dX1_faultOfForm_100 : decode cX1_faultOfForm 100 = .ok (.aload_n 0, 1) := qd_p qo_42 (by decide +kernel)
theorem dX1_faultOfForm_101 : decode cX1_faultOfForm 101 = .ok (.getfield 15, 3) := qz_2 .getfield 0 15 qo_180 (by decide +kernel) rfl
theorem dX1_faultOfForm_104 : decode cX1_faultOfForm 104 = .ok (.goto 5, 3) := qz_s2 .goto 0 5 qo_167 (by decide +kernel) rfl
theorem dX1_faultOfForm_107 : decode cX1_faultOfForm 107 = .ok (.bipush (-9), 2) := qz_s1 .bipush 247 qo_16 (by decide +kernel) rfl
theorem dX1_faultOfForm_109 : decode cX1_faultOfForm 109 = .ok (.ireturn, 1) := qd_p qo_172 (by decide +kernel)
theorem dX1_number_0 : decode cX1_number 0 = .ok (.iconst 0, 1) := qd_p qo_3 (by decide +kernel)
theorem dX1_number_1 : decode cX1_number 1 = .ok (.istore_n 3, 1) := qd_p qo_62 (by decide +kernel)
theorem dX1_number_2 : decode cX1_number 2 = .ok (.iload_n 1, 1) := qd_p qo_27 (by decide +kernel)
theorem dX1_number_3 : decode cX1_number 3 = .ok (.istore 4, 2) := qz_1 .istore 4 qo_54 (by decide +kernel)
theorem dX1_number_5 : decode cX1_number 5 = .ok (.iload 4, 2) := qz_1 .iload 4 qo_21 (by decide +kernel)
theorem dX1_number_7 : decode cX1_number 7 = .ok (.iload_n 1, 1) := qd_p qo_27 (by decide +kernel)
theorem dX1_number_8 : decode cX1_number 8 = .ok (.iload_n 2, 1) := qd_p qo_28 (by decide +kernel)
theorem dX1_number_9 : decode cX1_number 9 = .ok (.iadd, 1) := qd_p qo_96 (by decide +kernel)
theorem dX1_number_10 : decode cX1_number 10 = .ok (.if_icmp .ge 38, 3) := qz_s2 (.if_icmp .ge) 0 38 qo_162 (by decide +kernel) rfl
theorem dX1_number_13 : decode cX1_number 13 = .ok (.iload_n 3, 1) := qd_p qo_29 (by decide +kernel)
theorem dX1_number_14 : decode cX1_number 14 = .ok (.bipush 10, 2) := qz_s1 .bipush 10 qo_16 (by decide +kernel) rfl
theorem dX1_number_16 : decode cX1_number 16 = .ok (.imul, 1) := qd_p qo_104 (by decide +kernel)
theorem dX1_number_17 : decode cX1_number 17 = .ok (.aload_n 0, 1) := qd_p qo_42 (by decide +kernel)
theorem dX1_number_18 : decode cX1_number 18 = .ok (.iload 4, 2) := qz_1 .iload 4 qo_21 (by decide +kernel)
theorem dX1_number_20 : decode cX1_number 20 = .ok (.invokevirtual 29, 3) := qz_2 .invokevirtual 0 29 qo_182 (by decide +kernel) rfl
theorem dX1_number_23 : decode cX1_number 23 = .ok (.ifCond .eq 16, 3) := qz_s2 (.ifCond .eq) 0 16 qo_153 (by decide +kernel) rfl
theorem dX1_number_26 : decode cX1_number 26 = .ok (.aload_n 0, 1) := qd_p qo_42 (by decide +kernel)
theorem dX1_number_27 : decode cX1_number 27 = .ok (.getfield 9, 3) := qz_2 .getfield 0 9 qo_180 (by decide +kernel) rfl
theorem dX1_number_30 : decode cX1_number 30 = .ok (.iload 4, 2) := qz_1 .iload 4 qo_21 (by decide +kernel)
theorem dX1_number_32 : decode cX1_number 32 = .ok (.iaload, 1) := qd_p qo_46 (by decide +kernel)
theorem dX1_number_33 : decode cX1_number 33 = .ok (.bipush 48, 2) := qz_s1 .bipush 48 qo_16 (by decide +kernel) rfl
theorem dX1_number_35 : decode cX1_number 35 = .ok (.isub, 1) := qd_p qo_100 (by decide +kernel)
theorem dX1_number_36 : decode cX1_number 36 = .ok (.goto 4, 3) := qz_s2 .goto 0 4 qo_167 (by decide +kernel) rfl
theorem dX1_number_39 : decode cX1_number 39 = .ok (.iconst 0, 1) := qd_p qo_3 (by decide +kernel)
theorem dX1_number_40 : decode cX1_number 40 = .ok (.iadd, 1) := qd_p qo_96 (by decide +kernel)
theorem dX1_number_41 : decode cX1_number 41 = .ok (.istore_n 3, 1) := qd_p qo_62 (by decide +kernel)
theorem dX1_number_42 : decode cX1_number 42 = .ok (.iinc 4 1, 3) := qd_i (x := 4) (y := 1) qo_132 (by decide +kernel) rfl
theorem dX1_number_45 : decode cX1_number 45 = .ok (.goto (-40), 3) := qz_s2 .goto 255 216 qo_167 (by decide +kernel) rfl
theorem dX1_number_48 : decode cX1_number 48 = .ok (.iload_n 3, 1) := qd_p qo_29 (by decide +kernel)
theorem dX1_number_49 : decode cX1_number 49 = .ok (.ireturn, 1) := qd_p qo_172 (by decide +kernel)
theorem dX1_tell_0 : decode cX1_tell 0 = .ok (.iload_n 2, 1) := qd_p qo_28 (by decide +kernel)
theorem dX1_tell_1 : decode cX1_tell 1 = .ok (.ifCond .lt 11, 3) := qz_s2 (.ifCond .lt) 0 11 qo_155 (by decide +kernel) rfl
theorem dX1_tell_4 : decode cX1_tell 4 = .ok (.iload_n 2, 1) := qd_p qo_28 (by decide +kernel)
theorem dX1_tell_5 : decode cX1_tell 5 = .ok (.aload_n 0, 1) := qd_p qo_42 (by decide +kernel)
theorem dX1_tell_6 : decode cX1_tell 6 = .ok (.getfield 15, 3) := qz_2 .getfield 0 15 qo_180 (by decide +kernel) rfl
theorem dX1_tell_9 : decode cX1_tell 9 = .ok (.if_icmp .lt 5, 3) := qz_s2 (.if_icmp .lt) 0 5 qo_161 (by decide +kernel) rfl
theorem dX1_tell_12 : decode cX1_tell 12 = .ok (.iconst 0, 1) := qd_p qo_3 (by decide +kernel)
theorem dX1_tell_13 : decode cX1_tell 13 = .ok (.ireturn, 1) := qd_p qo_172 (by decide +kernel)
theorem dX1_tell_14 : decode cX1_tell 14 = .ok (.iload_n 2, 1) := qd_p qo_28 (by decide +kernel)
theorem dX1_tell_15 : decode cX1_tell 15 = .ok (.iconst 1, 1) := qd_p qo_4 (by decide +kernel)
theorem dX1_tell_16 : decode cX1_tell 16 = .ok (.iadd, 1) := qd_p qo_96 (by decide +kernel)
theorem dX1_tell_17 : decode cX1_tell 17 = .ok (.istore_n 3, 1) := qd_p qo_62 (by decide +kernel)
theorem dX1_tell_18 : decode cX1_tell 18 = .ok (.aload_n 0, 1) := qd_p qo_42 (by decide +kernel)
theorem dX1_tell_19 : decode cX1_tell 19 = .ok (.getfield 9, 3) := qz_2 .getfield 0 9 qo_180 (by decide +kernel) rfl
theorem dX1_tell_22 : decode cX1_tell 22 = .ok (.iload_n 2, 1) := qd_p qo_28 (by decide +kernel)
theorem dX1_tell_23 : decode cX1_tell 23 = .ok (.iaload, 1) := qd_p qo_46 (by decide +kernel)
theorem dX1_tell_24 : decode cX1_tell 24 = .ok (.tableswitch 240 100 119 #[210, 240, 240, 240, 240, 240, 240, 240, 107, 240, 240, 240, 96, 240, 240, 126, 240, 199, 161, 180], 96) := by decide +kernel
theorem dX1_tell_120 : decode cX1_tell 120 = .ok (.aload_n 1, 1) := qd_p qo_43 (by decide +kernel)
theorem dX1_tell_121 : decode cX1_tell 121 = .ok (.aload_n 0, 1) := qd_p qo_42 (by decide +kernel)
theorem dX1_tell_122 : decode cX1_tell 122 = .ok (.iload_n 3, 1) := qd_p qo_29 (by decide +kernel)
theorem dX1_tell_123 : decode cX1_tell 123 = .ok (.iconst 3, 1) := qd_p qo_6 (by decide +kernel)
theorem dX1_tell_124 : decode cX1_tell 124 = .ok (.invokevirtual 33, 3) := qz_2 .invokevirtual 0 33 qo_182 (by decide +kernel) rfl
theorem dX1_tell_127 : decode cX1_tell 127 = .ok (.invokevirtual 36, 3) := qz_2 .invokevirtual 0 36 qo_182 (by decide +kernel) rfl
theorem dX1_tell_130 : decode cX1_tell 130 = .ok (.ireturn, 1) := qd_p qo_172 (by decide +kernel)
theorem dX1_tell_131 : decode cX1_tell 131 = .ok (.aload_n 1, 1) := qd_p qo_43 (by decide +kernel)
theorem dX1_tell_132 : decode cX1_tell 132 = .ok (.aload_n 0, 1) := qd_p qo_42 (by decide +kernel)
theorem dX1_tell_133 : decode cX1_tell 133 = .ok (.iload_n 3, 1) := qd_p qo_29 (by decide +kernel)
theorem dX1_tell_134 : decode cX1_tell 134 = .ok (.iconst 1, 1) := qd_p qo_4 (by decide +kernel)
theorem dX1_tell_135 : decode cX1_tell 135 = .ok (.invokevirtual 33, 3) := qz_2 .invokevirtual 0 33 qo_182 (by decide +kernel) rfl
theorem dX1_tell_138 : decode cX1_tell 138 = .ok (.aload_n 0, 1) := qd_p qo_42 (by decide +kernel)
theorem dX1_tell_139 : decode cX1_tell 139 = .ok (.iload_n 3, 1) := qd_p qo_29 (by decide +kernel)
theorem dX1_tell_140 : decode cX1_tell 140 = .ok (.iconst 1, 1) := qd_p qo_4 (by decide +kernel)
theorem dX1_tell_141 : decode cX1_tell 141 = .ok (.iadd, 1) := qd_p qo_96 (by decide +kernel)
theorem dX1_tell_142 : decode cX1_tell 142 = .ok (.iconst 1, 1) := qd_p qo_4 (by decide +kernel)
theorem dX1_tell_143 : decode cX1_tell 143 = .ok (.invokevirtual 33, 3) := qz_2 .invokevirtual 0 33 qo_182 (by decide +kernel) rfl
theorem dX1_tell_146 : decode cX1_tell 146 = .ok (.invokevirtual 41, 3) := qz_2 .invokevirtual 0 41 qo_182 (by decide +kernel) rfl
theorem dX1_tell_149 : decode cX1_tell 149 = .ok (.ireturn, 1) := qd_p qo_172 (by decide +kernel)
theorem dX1_tell_150 : decode cX1_tell 150 = .ok (.aload_n 1, 1) := qd_p qo_43 (by decide +kernel)
theorem dX1_tell_151 : decode cX1_tell 151 = .ok (.aload_n 0, 1) := qd_p qo_42 (by decide +kernel)
theorem dX1_tell_152 : decode cX1_tell 152 = .ok (.iload_n 3, 1) := qd_p qo_29 (by decide +kernel)
theorem dX1_tell_153 : decode cX1_tell 153 = .ok (.iconst 1, 1) := qd_p qo_4 (by decide +kernel)
theorem dX1_tell_154 : decode cX1_tell 154 = .ok (.invokevirtual 33, 3) := qz_2 .invokevirtual 0 33 qo_182 (by decide +kernel) rfl
theorem dX1_tell_157 : decode cX1_tell 157 = .ok (.aload_n 0, 1) := qd_p qo_42 (by decide +kernel)
theorem dX1_tell_158 : decode cX1_tell 158 = .ok (.iload_n 3, 1) := qd_p qo_29 (by decide +kernel)
theorem dX1_tell_159 : decode cX1_tell 159 = .ok (.iconst 1, 1) := qd_p qo_4 (by decide +kernel)
theorem dX1_tell_160 : decode cX1_tell 160 = .ok (.iadd, 1) := qd_p qo_96 (by decide +kernel)
theorem dX1_tell_161 : decode cX1_tell 161 = .ok (.iconst 2, 1) := qd_p qo_5 (by decide +kernel)
theorem dX1_tell_162 : decode cX1_tell 162 = .ok (.invokevirtual 33, 3) := qz_2 .invokevirtual 0 33 qo_182 (by decide +kernel) rfl
theorem dX1_tell_165 : decode cX1_tell 165 = .ok (.aload_n 0, 1) := qd_p qo_42 (by decide +kernel)
theorem dX1_tell_166 : decode cX1_tell 166 = .ok (.iload_n 3, 1) := qd_p qo_29 (by decide +kernel)
theorem dX1_tell_167 : decode cX1_tell 167 = .ok (.iconst 3, 1) := qd_p qo_6 (by decide +kernel)
theorem dX1_tell_168 : decode cX1_tell 168 = .ok (.iadd, 1) := qd_p qo_96 (by decide +kernel)
theorem dX1_tell_169 : decode cX1_tell 169 = .ok (.iconst 2, 1) := qd_p qo_5 (by decide +kernel)
theorem dX1_tell_170 : decode cX1_tell 170 = .ok (.invokevirtual 33, 3) := qz_2 .invokevirtual 0 33 qo_182 (by decide +kernel) rfl
theorem dX1_tell_173 : decode cX1_tell 173 = .ok (.aload_n 0, 1) := qd_p qo_42 (by decide +kernel)
theorem dX1_tell_174 : decode cX1_tell 174 = .ok (.iload_n 3, 1) := qd_p qo_29 (by decide +kernel)
theorem dX1_tell_175 : decode cX1_tell 175 = .ok (.iconst 5, 1) := qd_p qo_8 (by decide +kernel)
theorem dX1_tell_176 : decode cX1_tell 176 = .ok (.iadd, 1) := qd_p qo_96 (by decide +kernel)
theorem dX1_tell_177 : decode cX1_tell 177 = .ok (.iconst 1, 1) := qd_p qo_4 (by decide +kernel)
theorem dX1_tell_178 : decode cX1_tell 178 = .ok (.invokevirtual 33, 3) := qz_2 .invokevirtual 0 33 qo_182 (by decide +kernel) rfl
theorem dX1_tell_181 : decode cX1_tell 181 = .ok (.invokevirtual 45, 3) := qz_2 .invokevirtual 0 45 qo_182 (by decide +kernel) rfl
theorem dX1_tell_184 : decode cX1_tell 184 = .ok (.ireturn, 1) := qd_p qo_172 (by decide +kernel)
theorem dX1_tell_185 : decode cX1_tell 185 = .ok (.aload_n 1, 1) := qd_p qo_43 (by decide +kernel)
theorem dX1_tell_186 : decode cX1_tell 186 = .ok (.aload_n 0, 1) := qd_p qo_42 (by decide +kernel)
theorem dX1_tell_187 : decode cX1_tell 187 = .ok (.iload_n 3, 1) := qd_p qo_29 (by decide +kernel)
theorem dX1_tell_188 : decode cX1_tell 188 = .ok (.iconst 1, 1) := qd_p qo_4 (by decide +kernel)
theorem dX1_tell_189 : decode cX1_tell 189 = .ok (.invokevirtual 33, 3) := qz_2 .invokevirtual 0 33 qo_182 (by decide +kernel) rfl
theorem dX1_tell_192 : decode cX1_tell 192 = .ok (.aload_n 0, 1) := qd_p qo_42 (by decide +kernel)
theorem dX1_tell_193 : decode cX1_tell 193 = .ok (.iload_n 3, 1) := qd_p qo_29 (by decide +kernel)
theorem dX1_tell_194 : decode cX1_tell 194 = .ok (.iconst 1, 1) := qd_p qo_4 (by decide +kernel)
theorem dX1_tell_195 : decode cX1_tell 195 = .ok (.iadd, 1) := qd_p qo_96 (by decide +kernel)
theorem dX1_tell_196 : decode cX1_tell 196 = .ok (.iconst 1, 1) := qd_p qo_4 (by decide +kernel)
theorem dX1_tell_197 : decode cX1_tell 197 = .ok (.invokevirtual 33, 3) := qz_2 .invokevirtual 0 33 qo_182 (by decide +kernel) rfl
theorem dX1_tell_200 : decode cX1_tell 200 = .ok (.invokevirtual 49, 3) := qz_2 .invokevirtual 0 49 qo_182 (by decide +kernel) rfl
theorem dX1_tell_203 : decode cX1_tell 203 = .ok (.ireturn, 1) := qd_p qo_172 (by decide +kernel)
theorem dX1_tell_204 : decode cX1_tell 204 = .ok (.aload_n 1, 1) := qd_p qo_43 (by decide +kernel)
theorem dX1_tell_205 : decode cX1_tell 205 = .ok (.aload_n 0, 1) := qd_p qo_42 (by decide +kernel)
theorem dX1_tell_206 : decode cX1_tell 206 = .ok (.iload_n 3, 1) := qd_p qo_29 (by decide +kernel)
theorem dX1_tell_207 : decode cX1_tell 207 = .ok (.iconst 1, 1) := qd_p qo_4 (by decide +kernel)
theorem dX1_tell_208 : decode cX1_tell 208 = .ok (.invokevirtual 33, 3) := qz_2 .invokevirtual 0 33 qo_182 (by decide +kernel) rfl
theorem dX1_tell_211 : decode cX1_tell 211 = .ok (.aload_n 0, 1) := qd_p qo_42 (by decide +kernel)
theorem dX1_tell_212 : decode cX1_tell 212 = .ok (.iload_n 3, 1) := qd_p qo_29 (by decide +kernel)
theorem dX1_tell_213 : decode cX1_tell 213 = .ok (.iconst 1, 1) := qd_p qo_4 (by decide +kernel)
theorem dX1_tell_214 : decode cX1_tell 214 = .ok (.iadd, 1) := qd_p qo_96 (by decide +kernel)
theorem dX1_tell_215 : decode cX1_tell 215 = .ok (.iconst 1, 1) := qd_p qo_4 (by decide +kernel)
theorem dX1_tell_216 : decode cX1_tell 216 = .ok (.invokevirtual 33, 3) := qz_2 .invokevirtual 0 33 qo_182 (by decide +kernel) rfl
theorem dX1_tell_219 : decode cX1_tell 219 = .ok (.invokevirtual 52, 3) := qz_2 .invokevirtual 0 52 qo_182 (by decide +kernel) rfl
theorem dX1_tell_222 : decode cX1_tell 222 = .ok (.ireturn, 1) := qd_p qo_172 (by decide +kernel)
theorem dX1_tell_223 : decode cX1_tell 223 = .ok (.aload_n 1, 1) := qd_p qo_43 (by decide +kernel)
theorem dX1_tell_224 : decode cX1_tell 224 = .ok (.aload_n 0, 1) := qd_p qo_42 (by decide +kernel)
theorem dX1_tell_225 : decode cX1_tell 225 = .ok (.iload_n 3, 1) := qd_p qo_29 (by decide +kernel)
theorem dX1_tell_226 : decode cX1_tell 226 = .ok (.iconst 1, 1) := qd_p qo_4 (by decide +kernel)
theorem dX1_tell_227 : decode cX1_tell 227 = .ok (.invokevirtual 33, 3) := qz_2 .invokevirtual 0 33 qo_182 (by decide +kernel) rfl
theorem dX1_tell_230 : decode cX1_tell 230 = .ok (.invokevirtual 55, 3) := qz_2 .invokevirtual 0 55 qo_182 (by decide +kernel) rfl
theorem dX1_tell_233 : decode cX1_tell 233 = .ok (.ireturn, 1) := qd_p qo_172 (by decide +kernel)
theorem dX1_tell_234 : decode cX1_tell 234 = .ok (.aload_n 0, 1) := qd_p qo_42 (by decide +kernel)
theorem dX1_tell_235 : decode cX1_tell 235 = .ok (.iload_n 3, 1) := qd_p qo_29 (by decide +kernel)
theorem dX1_tell_236 : decode cX1_tell 236 = .ok (.iconst 2, 1) := qd_p qo_5 (by decide +kernel)
theorem dX1_tell_237 : decode cX1_tell 237 = .ok (.invokevirtual 33, 3) := qz_2 .invokevirtual 0 33 qo_182 (by decide +kernel) rfl
theorem dX1_tell_240 : decode cX1_tell 240 = .ok (.bipush 60, 2) := qz_s1 .bipush 60 qo_16 (by decide +kernel) rfl
theorem dX1_tell_242 : decode cX1_tell 242 = .ok (.if_icmp .gt 20, 3) := qz_s2 (.if_icmp .gt) 0 20 qo_163 (by decide +kernel) rfl
theorem dX1_tell_245 : decode cX1_tell 245 = .ok (.aload_n 1, 1) := qd_p qo_43 (by decide +kernel)
theorem dX1_tell_246 : decode cX1_tell 246 = .ok (.aload_n 0, 1) := qd_p qo_42 (by decide +kernel)
theorem dX1_tell_247 : decode cX1_tell 247 = .ok (.iload_n 3, 1) := qd_p qo_29 (by decide +kernel)
theorem dX1_tell_248 : decode cX1_tell 248 = .ok (.iconst 2, 1) := qd_p qo_5 (by decide +kernel)
theorem dX1_tell_249 : decode cX1_tell 249 = .ok (.invokevirtual 33, 3) := qz_2 .invokevirtual 0 33 qo_182 (by decide +kernel) rfl
theorem dX1_tell_252 : decode cX1_tell 252 = .ok (.invokevirtual 58, 3) := qz_2 .invokevirtual 0 58 qo_182 (by decide +kernel) rfl
theorem dX1_tell_255 : decode cX1_tell 255 = .ok (.ifCond .eq 7, 3) := qz_s2 (.ifCond .eq) 0 7 qo_153 (by decide +kernel) rfl
theorem dX1_tell_258 : decode cX1_tell 258 = .ok (.iconst 1, 1) := qd_p qo_4 (by decide +kernel)
theorem dX1_tell_259 : decode cX1_tell 259 = .ok (.goto 4, 3) := qz_s2 .goto 0 4 qo_167 (by decide +kernel) rfl
theorem dX1_tell_262 : decode cX1_tell 262 = .ok (.iconst 0, 1) := qd_p qo_3 (by decide +kernel)
theorem dX1_tell_263 : decode cX1_tell 263 = .ok (.ireturn, 1) := qd_p qo_172 (by decide +kernel)
theorem dX1_tell_264 : decode cX1_tell 264 = .ok (.iconst 0, 1) := qd_p qo_3 (by decide +kernel)
theorem dX1_tell_265 : decode cX1_tell 265 = .ok (.ireturn, 1) := qd_p qo_172 (by decide +kernel)
theorem dX2_forget_0 : decode cX2_forget 0 = .ok (.aload_n 0, 1) := qd_p qo_42 (by decide +kernel)
theorem dX2_forget_1 : decode cX2_forget 1 = .ok (.iconst 0, 1) := qd_p qo_3 (by decide +kernel)
theorem dX2_forget_2 : decode cX2_forget 2 = .ok (.putfield 30, 3) := qz_2 .putfield 0 30 qo_181 (by decide +kernel) rfl
theorem dX2_forget_5 : decode cX2_forget 5 = .ok (.return_, 1) := qd_p qo_177 (by decide +kernel)
theorem dX2_nextSlot_0 : decode cX2_nextSlot 0 = .ok (.aload_n 0, 1) := qd_p qo_42 (by decide +kernel)
theorem dX2_nextSlot_1 : decode cX2_nextSlot 1 = .ok (.getfield 26, 3) := qz_2 .getfield 0 26 qo_180 (by decide +kernel) rfl
theorem dX2_nextSlot_4 : decode cX2_nextSlot 4 = .ok (.aload_n 0, 1) := qd_p qo_42 (by decide +kernel)
theorem dX2_nextSlot_5 : decode cX2_nextSlot 5 = .ok (.getfield 30, 3) := qz_2 .getfield 0 30 qo_180 (by decide +kernel) rfl
theorem dX2_nextSlot_8 : decode cX2_nextSlot 8 = .ok (.iadd, 1) := qd_p qo_96 (by decide +kernel)
theorem dX2_nextSlot_9 : decode cX2_nextSlot 9 = .ok (.bipush 8, 2) := qz_s1 .bipush 8 qo_16 (by decide +kernel) rfl
theorem dX2_nextSlot_11 : decode cX2_nextSlot 11 = .ok (.irem, 1) := qd_p qo_112 (by decide +kernel)
theorem dX2_nextSlot_12 : decode cX2_nextSlot 12 = .ok (.istore_n 1, 1) := qd_p qo_60 (by decide +kernel)
theorem dX2_nextSlot_13 : decode cX2_nextSlot 13 = .ok (.aload_n 0, 1) := qd_p qo_42 (by decide +kernel)
theorem dX2_nextSlot_14 : decode cX2_nextSlot 14 = .ok (.getfield 30, 3) := qz_2 .getfield 0 30 qo_180 (by decide +kernel) rfl
theorem dX2_nextSlot_17 : decode cX2_nextSlot 17 = .ok (.bipush 8, 2) := qz_s1 .bipush 8 qo_16 (by decide +kernel) rfl
theorem dX2_nextSlot_19 : decode cX2_nextSlot 19 = .ok (.if_icmp .ge 16, 3) := qz_s2 (.if_icmp .ge) 0 16 qo_162 (by decide +kernel) rfl
theorem dX2_nextSlot_22 : decode cX2_nextSlot 22 = .ok (.aload_n 0, 1) := qd_p qo_42 (by decide +kernel)
theorem dX2_nextSlot_23 : decode cX2_nextSlot 23 = .ok (.dup, 1) := qd_p qo_89 (by decide +kernel)
theorem dX2_nextSlot_24 : decode cX2_nextSlot 24 = .ok (.getfield 30, 3) := qz_2 .getfield 0 30 qo_180 (by decide +kernel) rfl
theorem dX2_nextSlot_27 : decode cX2_nextSlot 27 = .ok (.iconst 1, 1) := qd_p qo_4 (by decide +kernel)
theorem dX2_nextSlot_28 : decode cX2_nextSlot 28 = .ok (.iadd, 1) := qd_p qo_96 (by decide +kernel)
theorem dX2_nextSlot_29 : decode cX2_nextSlot 29 = .ok (.putfield 30, 3) := qz_2 .putfield 0 30 qo_181 (by decide +kernel) rfl
theorem dX2_nextSlot_32 : decode cX2_nextSlot 32 = .ok (.goto 16, 3) := qz_s2 .goto 0 16 qo_167 (by decide +kernel) rfl
theorem dX2_nextSlot_35 : decode cX2_nextSlot 35 = .ok (.aload_n 0, 1) := qd_p qo_42 (by decide +kernel)
theorem dX2_nextSlot_36 : decode cX2_nextSlot 36 = .ok (.aload_n 0, 1) := qd_p qo_42 (by decide +kernel)
theorem dX2_nextSlot_37 : decode cX2_nextSlot 37 = .ok (.getfield 26, 3) := qz_2 .getfield 0 26 qo_180 (by decide +kernel) rfl
theorem dX2_nextSlot_40 : decode cX2_nextSlot 40 = .ok (.iconst 1, 1) := qd_p qo_4 (by decide +kernel)
theorem dX2_nextSlot_41 : decode cX2_nextSlot 41 = .ok (.iadd, 1) := qd_p qo_96 (by decide +kernel)
theorem dX2_nextSlot_42 : decode cX2_nextSlot 42 = .ok (.bipush 8, 2) := qz_s1 .bipush 8 qo_16 (by decide +kernel) rfl
theorem dX2_nextSlot_44 : decode cX2_nextSlot 44 = .ok (.irem, 1) := qd_p qo_112 (by decide +kernel)
theorem dX2_nextSlot_45 : decode cX2_nextSlot 45 = .ok (.putfield 26, 3) := qz_2 .putfield 0 26 qo_181 (by decide +kernel) rfl
theorem dX2_nextSlot_48 : decode cX2_nextSlot 48 = .ok (.iload_n 1, 1) := qd_p qo_27 (by decide +kernel)
theorem dX2_nextSlot_49 : decode cX2_nextSlot 49 = .ok (.ireturn, 1) := qd_p qo_172 (by decide +kernel)
theorem dX2_keep_0 : decode cX2_keep 0 = .ok (.aload_n 0, 1) := qd_p qo_42 (by decide +kernel)
theorem dX2_keep_1 : decode cX2_keep 1 = .ok (.invokevirtual 33, 3) := qz_2 .invokevirtual 0 33 qo_182 (by decide +kernel) rfl
theorem dX2_keep_4 : decode cX2_keep 4 = .ok (.istore 4, 2) := qz_1 .istore 4 qo_54 (by decide +kernel)
theorem dX2_keep_6 : decode cX2_keep 6 = .ok (.aload_n 0, 1) := qd_p qo_42 (by decide +kernel)
theorem dX2_keep_7 : decode cX2_keep 7 = .ok (.getfield 9, 3) := qz_2 .getfield 0 9 qo_180 (by decide +kernel) rfl
theorem dX2_keep_10 : decode cX2_keep 10 = .ok (.iload 4, 2) := qz_1 .iload 4 qo_21 (by decide +kernel)
theorem dX2_keep_12 : decode cX2_keep 12 = .ok (.iload_n 1, 1) := qd_p qo_27 (by decide +kernel)
theorem dX2_keep_13 : decode cX2_keep 13 = .ok (.iastore, 1) := qd_p qo_79 (by decide +kernel)
theorem dX2_keep_14 : decode cX2_keep 14 = .ok (.aload_n 0, 1) := qd_p qo_42 (by decide +kernel)
theorem dX2_keep_15 : decode cX2_keep 15 = .ok (.getfield 15, 3) := qz_2 .getfield 0 15 qo_180 (by decide +kernel) rfl
theorem dX2_keep_18 : decode cX2_keep 18 = .ok (.iload 4, 2) := qz_1 .iload 4 qo_21 (by decide +kernel)
theorem dX2_keep_20 : decode cX2_keep 20 = .ok (.iload_n 2, 1) := qd_p qo_28 (by decide +kernel)
theorem dX2_keep_21 : decode cX2_keep 21 = .ok (.iastore, 1) := qd_p qo_79 (by decide +kernel)
theorem dX2_keep_22 : decode cX2_keep 22 = .ok (.aload_n 0, 1) := qd_p qo_42 (by decide +kernel)
theorem dX2_keep_23 : decode cX2_keep 23 = .ok (.getfield 18, 3) := qz_2 .getfield 0 18 qo_180 (by decide +kernel) rfl
theorem dX2_keep_26 : decode cX2_keep 26 = .ok (.iload 4, 2) := qz_1 .iload 4 qo_21 (by decide +kernel)
theorem dX2_keep_28 : decode cX2_keep 28 = .ok (.iload_n 3, 1) := qd_p qo_29 (by decide +kernel)
theorem dX2_keep_29 : decode cX2_keep 29 = .ok (.iastore, 1) := qd_p qo_79 (by decide +kernel)
theorem dX2_keep_30 : decode cX2_keep 30 = .ok (.return_, 1) := qd_p qo_177 (by decide +kernel)
section
variable {p : Program} {l : Launch} {e : Env} {s : State} {m : MethodId} {args : Array Value} {below : List Frame} {meth : Method} {c : Code} {D : va_G} {tI tII : ClassId} {B : Nat}
set_option maxHeartbeats 4000000 in
set_option maxRecDepth 100000 in
theorem w_X0_hoursOf_26 (C : wt_C p s m args meth c RX0 cX0_hoursOf 4 (some .int) D tI tII) {F : Nat} {k4 : Int32 → Int32 → Mem → Option (Int32 × Mem)} {h : Nat} {x1 : Int32} {x2 : Int32} {x3 : Int32} {σ : Mem} {r : Int32} {σ' : Mem} {H : Heap} {locs : List Loc} {ls : Array Slot} (hh : wt_isH h) (hk4 : ∀ (x2 : Int32) (x3 : Int32) (σ : Mem) (H : Heap) (locs : List Loc) (ls : Array Slot), k4 x2 x3 σ = some (r, σ') → wt_St D tI tII B σ s H locs → lv_has ls 4 [(0, .ref (B + h)), (1, .int x1), (2, .int x2), (3, .int x3)] → W p l e rm_X0_hoursOf s m args below meth c H locs 0 0 (MQ below (wt_Qi D tI tII B r σ') args s 0 0 (fun q => B ≤ q)) (F0 m 4 ls [])) (hf : j_X0_hoursOf_26 F k4 h x1 x2 x3 σ = some (r, σ')) (hM : wt_St D tI tII B σ s H locs) (hl : lv_has ls 4 [(0, .ref (B + h)), (1, .int x1), (2, .int x2), (3, .int x3)]) : W p l e rm_X0_hoursOf s m args below meth c H locs 0 0 (MQ below (wt_Qi D tI tII B r σ') args s 0 0 (fun q => B ≤ q)) (F0 m 26 ls []) := by
  obtain ⟨hx, hb, hts, hown, hml, hr, hlk, hK⟩ := id C
  replace hf := Eq.trans j_X0_hoursOf_26_e.symm hf
  refine lv_iinc (v := (x3 + (1 : Int32))) (lv' := [(3, .int (x3 + (1 : Int32))), (0, .ref (B + h)), (1, .int x1), (2, .int x2)]) hx hb dX0_hoursOf_26 hl (k := 3) rfl rfl (by decide) rfl (fun ls hl => ?_)
  refine lv_goto (tgt := 4) hx hb dX0_hoursOf_29 (by decide) ?_
  exact hk4 _ _ _ _ _ _ hf hM (lv_sub hl [1, 2, 3, 0] rfl)
set_option maxHeartbeats 4000000 in
set_option maxRecDepth 100000 in
theorem w_X0_hoursOf_4 (C : wt_C p s m args meth c RX0 cX0_hoursOf 4 (some .int) D tI tII) {F : Nat} {h : Nat} {x1 : Int32} {r : Int32} {σ' : Mem} (hh : wt_isH h) : ∀ (N : Nat) (x2 : Int32) (x3 : Int32) (σ : Mem) (H : Heap) (locs : List Loc) (ls : Array Slot), lp_X0_hoursOf_4 F h x1 N x2 x3 σ = some (r, σ') → wt_St D tI tII B σ s H locs → lv_has ls 4 [(0, .ref (B + h)), (1, .int x1), (2, .int x2), (3, .int x3)] → W p l e rm_X0_hoursOf s m args below meth c H locs 0 0 (MQ below (wt_Qi D tI tII B r σ') args s 0 0 (fun q => B ≤ q)) (F0 m 4 ls []) := by
  obtain ⟨hx, hb, hts, hown, hml, hr, hlk, hK⟩ := id C
  intro N
  induction N with
  | zero => intro x2 x3 σ H locs ls hf; exact wt_none (show (none : Option (Int32 × Mem)) = some (r, σ') from hf)
  | succ N ih =>
    intro x2 x3 σ H locs ls hf hM hl
    replace hf := Eq.trans lp_X0_hoursOf_4_s.symm hf
    refine lv_iload_n hx hb dX0_hoursOf_4 rfl (lv_at hl 3 rfl) ?_
    refine lv_bipush (v := 24) hx hb dX0_hoursOf_5 (by decide) ?_
    refine wq_icmp_ge (tgt := 32) hx hb dX0_hoursOf_7 (by decide) hf (fun hf => ?_) (fun hf => ?_)
    · refine lv_iload_n hx hb dX0_hoursOf_32 rfl (lv_at hl 2 rfl) ?_
      exact wt_iret hx hb hr hlk hK hM hf dX0_hoursOf_33
    refine lv_aload_n hx hb dX0_hoursOf_10 rfl (lv_at hl 0 rfl) ?_
    refine gf_X0_rosters hh hx hb hts hown hK hM tw_36 dX0_hoursOf_11 ?_
    refine lv_iload_n hx hb dX0_hoursOf_14 rfl (lv_at hl 1 rfl) ?_
    obtain ⟨i1, hf⟩ := wt_chk_of hf
    refine wt_ald hx hb hK hM (wt_aaH_4 hh) i1 dX0_hoursOf_15 ?_
    refine lv_iload_n hx hb dX0_hoursOf_16 rfl (lv_at hl 3 rfl) ?_
    obtain ⟨i2, hf⟩ := wt_chk_of hf
    refine wt_ild hx hb hK hM (wt_rH_4 hh i1) i2 dX0_hoursOf_17 ?_
    refine lv_bipush (v := 9) hx hb dX0_hoursOf_18 (by decide) ?_
    refine wq_icmp_eq (tgt := 26) hx hb dX0_hoursOf_20 (by decide) hf (fun hf => ?_) (fun hf => ?_)
    · exact w_X0_hoursOf_26 C hh ih hf hM hl
    refine lv_iinc (v := (x2 + (1 : Int32))) (lv' := [(2, .int (x2 + (1 : Int32))), (0, .ref (B + h)), (1, .int x1), (3, .int x3)]) hx hb dX0_hoursOf_23 hl (k := 2) rfl rfl (by decide) rfl (fun ls hl => ?_)
    exact w_X0_hoursOf_26 C hh ih hf hM (lv_sub hl [1, 2, 0, 3] rfl)
set_option maxHeartbeats 4000000 in
set_option maxRecDepth 100000 in
theorem w_X0_hoursOf_0 (C : wt_C p s m args meth c RX0 cX0_hoursOf 4 (some .int) D tI tII) {F : Nat} {h : Nat} {x1 : Int32} {σ : Mem} {r : Int32} {σ' : Mem} {H : Heap} {locs : List Loc} {ls : Array Slot} (hh : wt_isH h) (hf : f_X0_hoursOf F h x1 σ = some (r, σ')) (hM : wt_St D tI tII B σ s H locs) (hl : lv_has ls 4 [(0, .ref (B + h)), (1, .int x1)]) : W p l e rm_X0_hoursOf s m args below meth c H locs 0 0 (MQ below (wt_Qi D tI tII B r σ') args s 0 0 (fun q => B ≤ q)) (F0 m 0 ls []) := by
  obtain ⟨hx, hb, hts, hown, hml, hr, hlk, hK⟩ := id C
  replace hf := Eq.trans f_X0_hoursOf_e.symm hf
  refine lv_iconst (v := 0) hx hb dX0_hoursOf_0 (by decide) ?_
  refine lv_istore_n (lv' := [(2, .int (0 : Int32)), (0, .ref (B + h)), (1, .int x1)]) hx hb dX0_hoursOf_1 rfl hl (by decide) rfl (fun ls hl => ?_)
  refine lv_iconst (v := 0) hx hb dX0_hoursOf_2 (by decide) ?_
  refine lv_istore_n (lv' := [(3, .int (0 : Int32)), (2, .int (0 : Int32)), (0, .ref (B + h)), (1, .int x1)]) hx hb dX0_hoursOf_3 rfl hl (by decide) rfl (fun ls hl => ?_)
  exact w_X0_hoursOf_4 C hh _ _ _ _ _ _ _ hf hM (lv_sub hl [2, 3, 1, 0] rfl)
end
set_option maxHeartbeats 4000000 in
set_option maxRecDepth 100000 in
theorem c_X0_hoursOf {l : Launch} {D : va_G} {tI tII : ClassId} {B F : Nat} {h : Nat} {x1 : Int32} {σ σ' : Mem} {r : Int32} (hh : wt_isH h) (hf : f_X0_hoursOf F h x1 σ = some (r, σ')) : wt_Mi l yX0_hoursOf cX0_hoursOf 4 (some .int) rm_X0_hoursOf [.ref (B + h), .int x1] D tI tII B σ r σ' := by
  refine Met.ofW (cc := cX0_hoursOf) (maxL := 4) (ret := (some .int)) (by decide) rfl ?_
  intro p e s m args below meth c s₁ B9 hml hv
  obtain ⟨rfl, hP, hK⟩ := hv
  have hl := lv_entry ([.ref (B + h), .int x1]) (n := 4) (qz_b rfl)
  rw [lg_entry_eq]
  generalize (lg_sl ([.ref (B + h), .int x1]) ++ List.replicate (4 - (lg_sl ([.ref (B + h), .int x1])).length) Slot.unset).toArray = ls at hl ⊢
  exact w_X0_hoursOf_0 (wt_C_of B9 hml hK) hh hf ⟨hP, va_S.rf⟩ hl
section
variable {p : Program} {l : Launch} {e : Env} {s : State} {m : MethodId} {args : Array Value} {below : List Frame} {meth : Method} {c : Code} {D : va_G} {tI tII : ClassId} {B : Nat}
set_option maxHeartbeats 4000000 in
set_option maxRecDepth 100000 in
theorem w_X0_hoursOfAll_4 (C : wt_C p s m args meth c RX0 cX0_hoursOfAll 3 (some .int) D tI tII) {F : Nat} {h : Nat} {r : Int32} {σ' : Mem} (hh : wt_isH h) : ∀ (N : Nat) (x1 : Int32) (x2 : Int32) (σ : Mem) (H : Heap) (locs : List Loc) (ls : Array Slot), lp_X0_hoursOfAll_4 F h N x1 x2 σ = some (r, σ') → wt_St D tI tII B σ s H locs → lv_has ls 3 [(0, .ref (B + h)), (1, .int x1), (2, .int x2)] → W p l e rm_X0_hoursOfAll s m args below meth c H locs 0 0 (MQ below (wt_Qi D tI tII B r σ') args s 0 0 (fun q => B ≤ q)) (F0 m 4 ls []) := by
  obtain ⟨hx, hb, hts, hown, hml, hr, hlk, hK⟩ := id C
  intro N
  induction N with
  | zero => intro x1 x2 σ H locs ls hf; exact wt_none (show (none : Option (Int32 × Mem)) = some (r, σ') from hf)
  | succ N ih =>
    intro x1 x2 σ H locs ls hf hM hl
    replace hf := Eq.trans lp_X0_hoursOfAll_4_s.symm hf
    refine lv_iload_n hx hb dX0_hoursOfAll_4 rfl (lv_at hl 2 rfl) ?_
    refine lv_aload_n hx hb dX0_hoursOfAll_5 rfl (lv_at hl 0 rfl) ?_
    refine gf_X0_lookerCount hh hx hb hts hown hK hM tw_30 dX0_hoursOfAll_6 ?_
    refine wq_icmp_ge (tgt := 26) hx hb dX0_hoursOfAll_9 (by decide) hf (fun hf => ?_) (fun hf => ?_)
    · refine lv_iload_n hx hb dX0_hoursOfAll_26 rfl (lv_at hl 1 rfl) ?_
      exact wt_iret hx hb hr hlk hK hM hf dX0_hoursOfAll_27
    refine lv_iload_n hx hb dX0_hoursOfAll_12 rfl (lv_at hl 1 rfl) ?_
    refine lv_aload_n hx hb dX0_hoursOfAll_13 rfl (lv_at hl 0 rfl) ?_
    refine lv_iload_n hx hb dX0_hoursOfAll_14 rfl (lv_at hl 2 rfl) ?_
    refine wt_callVi (As := [.int x2]) (rest := [.int x1]) hx hb hml hts hown hK hM (wt_rc_X0 hh) cw_X0_82 hd_X0_hoursOf rfl ⟨qz_b rfl, qz_b rfl⟩ ⟨rfl, rfl⟩ hl.1 rfl (qz_b rfl) dX0_hoursOfAll_15 hf (fun _ _ h9 => c_X0_hoursOf hh h9) (fun r1 s2 H locs hf hM => ?_)
    refine lv_iadd hx hb dX0_hoursOfAll_18 ?_
    refine lv_istore_n (lv' := [(1, .int (x1 + r1)), (0, .ref (B + h)), (2, .int x2)]) hx hb dX0_hoursOfAll_19 rfl hl (by decide) rfl (fun ls hl => ?_)
    refine lv_iinc (v := (x2 + (1 : Int32))) (lv' := [(2, .int (x2 + (1 : Int32))), (1, .int (x1 + r1)), (0, .ref (B + h))]) hx hb dX0_hoursOfAll_20 hl (k := 2) rfl rfl (by decide) rfl (fun ls hl => ?_)
    refine lv_goto (tgt := 4) hx hb dX0_hoursOfAll_23 (by decide) ?_
    exact ih _ _ _ _ _ _ hf hM (lv_sub hl [2, 1, 0] rfl)
set_option maxHeartbeats 4000000 in
set_option maxRecDepth 100000 in
theorem w_X0_hoursOfAll_0 (C : wt_C p s m args meth c RX0 cX0_hoursOfAll 3 (some .int) D tI tII) {F : Nat} {h : Nat} {σ : Mem} {r : Int32} {σ' : Mem} {H : Heap} {locs : List Loc} {ls : Array Slot} (hh : wt_isH h) (hf : f_X0_hoursOfAll F h σ = some (r, σ')) (hM : wt_St D tI tII B σ s H locs) (hl : lv_has ls 3 [(0, .ref (B + h))]) : W p l e rm_X0_hoursOfAll s m args below meth c H locs 0 0 (MQ below (wt_Qi D tI tII B r σ') args s 0 0 (fun q => B ≤ q)) (F0 m 0 ls []) := by
  obtain ⟨hx, hb, hts, hown, hml, hr, hlk, hK⟩ := id C
  replace hf := Eq.trans f_X0_hoursOfAll_e.symm hf
  refine lv_iconst (v := 0) hx hb dX0_hoursOfAll_0 (by decide) ?_
  refine lv_istore_n (lv' := [(1, .int (0 : Int32)), (0, .ref (B + h))]) hx hb dX0_hoursOfAll_1 rfl hl (by decide) rfl (fun ls hl => ?_)
  refine lv_iconst (v := 0) hx hb dX0_hoursOfAll_2 (by decide) ?_
  refine lv_istore_n (lv' := [(2, .int (0 : Int32)), (1, .int (0 : Int32)), (0, .ref (B + h))]) hx hb dX0_hoursOfAll_3 rfl hl (by decide) rfl (fun ls hl => ?_)
  exact w_X0_hoursOfAll_4 C hh _ _ _ _ _ _ _ hf hM (lv_sub hl [2, 1, 0] rfl)
end
set_option maxHeartbeats 4000000 in
set_option maxRecDepth 100000 in
theorem c_X0_hoursOfAll {l : Launch} {D : va_G} {tI tII : ClassId} {B F : Nat} {h : Nat} {σ σ' : Mem} {r : Int32} (hh : wt_isH h) (hf : f_X0_hoursOfAll F h σ = some (r, σ')) : wt_Mi l yX0_hoursOfAll cX0_hoursOfAll 3 (some .int) rm_X0_hoursOfAll [.ref (B + h)] D tI tII B σ r σ' := by
  refine Met.ofW (cc := cX0_hoursOfAll) (maxL := 3) (ret := (some .int)) (by decide) rfl ?_
  intro p e s m args below meth c s₁ B9 hml hv
  obtain ⟨rfl, hP, hK⟩ := hv
  have hl := lv_entry ([.ref (B + h)]) (n := 3) (qz_b rfl)
  rw [lg_entry_eq]
  generalize (lg_sl ([.ref (B + h)]) ++ List.replicate (3 - (lg_sl ([.ref (B + h)])).length) Slot.unset).toArray = ls at hl ⊢
  exact w_X0_hoursOfAll_0 (wt_C_of B9 hml hK) hh hf ⟨hP, va_S.rf⟩ hl
section
variable {p : Program} {l : Launch} {e : Env} {s : State} {m : MethodId} {args : Array Value} {below : List Frame} {meth : Method} {c : Code} {D : va_G} {tI tII : ClassId} {B : Nat}
set_option maxHeartbeats 4000000 in
set_option maxRecDepth 100000 in
theorem w_X0_standingIn_28 (C : wt_C p s m args meth c RX0 cX0_standingIn 4 (some .int) D tI tII) {F : Nat} {k4 : Int32 → Int32 → Mem → Option (Int32 × Mem)} {h : Nat} {x1 : Int32} {x2 : Int32} {x3 : Int32} {σ : Mem} {r : Int32} {σ' : Mem} {H : Heap} {locs : List Loc} {ls : Array Slot} (hh : wt_isH h) (hk4 : ∀ (x2 : Int32) (x3 : Int32) (σ : Mem) (H : Heap) (locs : List Loc) (ls : Array Slot), k4 x2 x3 σ = some (r, σ') → wt_St D tI tII B σ s H locs → lv_has ls 4 [(0, .ref (B + h)), (1, .int x1), (2, .int x2), (3, .int x3)] → W p l e rm_X0_standingIn s m args below meth c H locs 0 0 (MQ below (wt_Qi D tI tII B r σ') args s 0 0 (fun q => B ≤ q)) (F0 m 4 ls [])) (hf : j_X0_standingIn_28 F k4 h x1 x2 x3 σ = some (r, σ')) (hM : wt_St D tI tII B σ s H locs) (hl : lv_has ls 4 [(0, .ref (B + h)), (1, .int x1), (2, .int x2), (3, .int x3)]) : W p l e rm_X0_standingIn s m args below meth c H locs 0 0 (MQ below (wt_Qi D tI tII B r σ') args s 0 0 (fun q => B ≤ q)) (F0 m 28 ls []) := by
  obtain ⟨hx, hb, hts, hown, hml, hr, hlk, hK⟩ := id C
  replace hf := Eq.trans j_X0_standingIn_28_e.symm hf
  refine lv_iinc (v := (x3 + (1 : Int32))) (lv' := [(3, .int (x3 + (1 : Int32))), (0, .ref (B + h)), (1, .int x1), (2, .int x2)]) hx hb dX0_standingIn_28 hl (k := 3) rfl rfl (by decide) rfl (fun ls hl => ?_)
  refine lv_goto (tgt := 4) hx hb dX0_standingIn_31 (by decide) ?_
  exact hk4 _ _ _ _ _ _ hf hM (lv_sub hl [1, 2, 3, 0] rfl)
set_option maxHeartbeats 4000000 in
set_option maxRecDepth 100000 in
theorem w_X0_standingIn_4 (C : wt_C p s m args meth c RX0 cX0_standingIn 4 (some .int) D tI tII) {F : Nat} {h : Nat} {x1 : Int32} {r : Int32} {σ' : Mem} (hh : wt_isH h) : ∀ (N : Nat) (x2 : Int32) (x3 : Int32) (σ : Mem) (H : Heap) (locs : List Loc) (ls : Array Slot), lp_X0_standingIn_4 F h x1 N x2 x3 σ = some (r, σ') → wt_St D tI tII B σ s H locs → lv_has ls 4 [(0, .ref (B + h)), (1, .int x1), (2, .int x2), (3, .int x3)] → W p l e rm_X0_standingIn s m args below meth c H locs 0 0 (MQ below (wt_Qi D tI tII B r σ') args s 0 0 (fun q => B ≤ q)) (F0 m 4 ls []) := by
  obtain ⟨hx, hb, hts, hown, hml, hr, hlk, hK⟩ := id C
  intro N
  induction N with
  | zero => intro x2 x3 σ H locs ls hf; exact wt_none (show (none : Option (Int32 × Mem)) = some (r, σ') from hf)
  | succ N ih =>
    intro x2 x3 σ H locs ls hf hM hl
    replace hf := Eq.trans lp_X0_standingIn_4_s.symm hf
    refine lv_iload_n hx hb dX0_standingIn_4 rfl (lv_at hl 3 rfl) ?_
    refine lv_aload_n hx hb dX0_standingIn_5 rfl (lv_at hl 0 rfl) ?_
    refine gf_X0_lookerCount hh hx hb hts hown hK hM tw_30 dX0_standingIn_6 ?_
    refine wq_icmp_ge (tgt := 34) hx hb dX0_standingIn_9 (by decide) hf (fun hf => ?_) (fun hf => ?_)
    · refine lv_iload_n hx hb dX0_standingIn_34 rfl (lv_at hl 2 rfl) ?_
      exact wt_iret hx hb hr hlk hK hM hf dX0_standingIn_35
    refine lv_aload_n hx hb dX0_standingIn_12 rfl (lv_at hl 0 rfl) ?_
    refine gf_X0_rosters hh hx hb hts hown hK hM tw_36 dX0_standingIn_13 ?_
    refine lv_iload_n hx hb dX0_standingIn_16 rfl (lv_at hl 3 rfl) ?_
    obtain ⟨i1, hf⟩ := wt_chk_of hf
    refine wt_ald hx hb hK hM (wt_aaH_4 hh) i1 dX0_standingIn_17 ?_
    refine lv_iload_n hx hb dX0_standingIn_18 rfl (lv_at hl 1 rfl) ?_
    obtain ⟨i2, hf⟩ := wt_chk_of hf
    refine wt_ild hx hb hK hM (wt_rH_4 hh i1) i2 dX0_standingIn_19 ?_
    refine lv_bipush (v := 9) hx hb dX0_standingIn_20 (by decide) ?_
    refine wq_icmp_eq (tgt := 28) hx hb dX0_standingIn_22 (by decide) hf (fun hf => ?_) (fun hf => ?_)
    · exact w_X0_standingIn_28 C hh ih hf hM hl
    refine lv_iinc (v := (x2 + (1 : Int32))) (lv' := [(2, .int (x2 + (1 : Int32))), (0, .ref (B + h)), (1, .int x1), (3, .int x3)]) hx hb dX0_standingIn_25 hl (k := 2) rfl rfl (by decide) rfl (fun ls hl => ?_)
    exact w_X0_standingIn_28 C hh ih hf hM (lv_sub hl [1, 2, 0, 3] rfl)
set_option maxHeartbeats 4000000 in
set_option maxRecDepth 100000 in
theorem w_X0_standingIn_0 (C : wt_C p s m args meth c RX0 cX0_standingIn 4 (some .int) D tI tII) {F : Nat} {h : Nat} {x1 : Int32} {σ : Mem} {r : Int32} {σ' : Mem} {H : Heap} {locs : List Loc} {ls : Array Slot} (hh : wt_isH h) (hf : f_X0_standingIn F h x1 σ = some (r, σ')) (hM : wt_St D tI tII B σ s H locs) (hl : lv_has ls 4 [(0, .ref (B + h)), (1, .int x1)]) : W p l e rm_X0_standingIn s m args below meth c H locs 0 0 (MQ below (wt_Qi D tI tII B r σ') args s 0 0 (fun q => B ≤ q)) (F0 m 0 ls []) := by
  obtain ⟨hx, hb, hts, hown, hml, hr, hlk, hK⟩ := id C
  replace hf := Eq.trans f_X0_standingIn_e.symm hf
  refine lv_iconst (v := 0) hx hb dX0_standingIn_0 (by decide) ?_
  refine lv_istore_n (lv' := [(2, .int (0 : Int32)), (0, .ref (B + h)), (1, .int x1)]) hx hb dX0_standingIn_1 rfl hl (by decide) rfl (fun ls hl => ?_)
  refine lv_iconst (v := 0) hx hb dX0_standingIn_2 (by decide) ?_
  refine lv_istore_n (lv' := [(3, .int (0 : Int32)), (2, .int (0 : Int32)), (0, .ref (B + h)), (1, .int x1)]) hx hb dX0_standingIn_3 rfl hl (by decide) rfl (fun ls hl => ?_)
  exact w_X0_standingIn_4 C hh _ _ _ _ _ _ _ hf hM (lv_sub hl [2, 3, 1, 0] rfl)
end
set_option maxHeartbeats 4000000 in
set_option maxRecDepth 100000 in
theorem c_X0_standingIn {l : Launch} {D : va_G} {tI tII : ClassId} {B F : Nat} {h : Nat} {x1 : Int32} {σ σ' : Mem} {r : Int32} (hh : wt_isH h) (hf : f_X0_standingIn F h x1 σ = some (r, σ')) : wt_Mi l yX0_standingIn cX0_standingIn 4 (some .int) rm_X0_standingIn [.ref (B + h), .int x1] D tI tII B σ r σ' := by
  refine Met.ofW (cc := cX0_standingIn) (maxL := 4) (ret := (some .int)) (by decide) rfl ?_
  intro p e s m args below meth c s₁ B9 hml hv
  obtain ⟨rfl, hP, hK⟩ := hv
  have hl := lv_entry ([.ref (B + h), .int x1]) (n := 4) (qz_b rfl)
  rw [lg_entry_eq]
  generalize (lg_sl ([.ref (B + h), .int x1]) ++ List.replicate (4 - (lg_sl ([.ref (B + h), .int x1])).length) Slot.unset).toArray = ls at hl ⊢
  exact w_X0_standingIn_0 (wt_C_of B9 hml hK) hh hf ⟨hP, va_S.rf⟩ hl
section
variable {p : Program} {l : Launch} {e : Env} {s : State} {m : MethodId} {args : Array Value} {below : List Frame} {meth : Method} {c : Code} {D : va_G} {tI tII : ClassId} {B : Nat}
set_option maxHeartbeats 4000000 in
set_option maxRecDepth 100000 in
theorem w_X0_gainOfAll_4 (C : wt_C p s m args meth c RX0 cX0_gainOfAll 4 (some .int) D tI tII) {F : Nat} {h : Nat} {x1 : Int32} {r : Int32} {σ' : Mem} (hh : wt_isH h) : ∀ (N : Nat) (x2 : Int32) (x3 : Int32) (σ : Mem) (H : Heap) (locs : List Loc) (ls : Array Slot), lp_X0_gainOfAll_4 F h x1 N x2 x3 σ = some (r, σ') → wt_St D tI tII B σ s H locs → lv_has ls 4 [(0, .ref (B + h)), (1, .int x1), (2, .int x2), (3, .int x3)] → W p l e rm_X0_gainOfAll s m args below meth c H locs 0 0 (MQ below (wt_Qi D tI tII B r σ') args s 0 0 (fun q => B ≤ q)) (F0 m 4 ls []) := by
  obtain ⟨hx, hb, hts, hown, hml, hr, hlk, hK⟩ := id C
  intro N
  induction N with
  | zero => intro x2 x3 σ H locs ls hf; exact wt_none (show (none : Option (Int32 × Mem)) = some (r, σ') from hf)
  | succ N ih =>
    intro x2 x3 σ H locs ls hf hM hl
    replace hf := Eq.trans lp_X0_gainOfAll_4_s.symm hf
    refine lv_iload_n hx hb dX0_gainOfAll_4 rfl (lv_at hl 3 rfl) ?_
    refine lv_aload_n hx hb dX0_gainOfAll_5 rfl (lv_at hl 0 rfl) ?_
    refine gf_X0_lookerCount hh hx hb hts hown hK hM tw_30 dX0_gainOfAll_6 ?_
    refine wq_icmp_ge (tgt := 29) hx hb dX0_gainOfAll_9 (by decide) hf (fun hf => ?_) (fun hf => ?_)
    · refine lv_iload_n hx hb dX0_gainOfAll_29 rfl (lv_at hl 2 rfl) ?_
      exact wt_iret hx hb hr hlk hK hM hf dX0_gainOfAll_30
    refine lv_iload_n hx hb dX0_gainOfAll_12 rfl (lv_at hl 2 rfl) ?_
    refine lv_aload_n hx hb dX0_gainOfAll_13 rfl (lv_at hl 0 rfl) ?_
    refine gf_X0_gains hh hx hb hts hown hK hM tw_46 dX0_gainOfAll_14 ?_
    refine lv_iload_n hx hb dX0_gainOfAll_17 rfl (lv_at hl 3 rfl) ?_
    obtain ⟨i1, hf⟩ := wt_chk_of hf
    refine wt_ald hx hb hK hM (wt_aaH_17 hh) i1 dX0_gainOfAll_18 ?_
    refine lv_iload_n hx hb dX0_gainOfAll_19 rfl (lv_at hl 1 rfl) ?_
    obtain ⟨i2, hf⟩ := wt_chk_of hf
    refine wt_ild hx hb hK hM (wt_rH_17 hh i1) i2 dX0_gainOfAll_20 ?_
    refine lv_iadd hx hb dX0_gainOfAll_21 ?_
    refine wt_leti hf (fun z3 hf => ?_)
    refine lv_istore_n (lv' := [(2, .int z3), (0, .ref (B + h)), (1, .int x1), (3, .int x3)]) hx hb dX0_gainOfAll_22 rfl hl (by decide) rfl (fun ls hl => ?_)
    refine lv_iinc (v := (x3 + (1 : Int32))) (lv' := [(3, .int (x3 + (1 : Int32))), (2, .int z3), (0, .ref (B + h)), (1, .int x1)]) hx hb dX0_gainOfAll_23 hl (k := 3) rfl rfl (by decide) rfl (fun ls hl => ?_)
    refine lv_goto (tgt := 4) hx hb dX0_gainOfAll_26 (by decide) ?_
    exact ih _ _ _ _ _ _ hf hM (lv_sub hl [2, 3, 1, 0] rfl)
set_option maxHeartbeats 4000000 in
set_option maxRecDepth 100000 in
theorem w_X0_gainOfAll_0 (C : wt_C p s m args meth c RX0 cX0_gainOfAll 4 (some .int) D tI tII) {F : Nat} {h : Nat} {x1 : Int32} {σ : Mem} {r : Int32} {σ' : Mem} {H : Heap} {locs : List Loc} {ls : Array Slot} (hh : wt_isH h) (hf : f_X0_gainOfAll F h x1 σ = some (r, σ')) (hM : wt_St D tI tII B σ s H locs) (hl : lv_has ls 4 [(0, .ref (B + h)), (1, .int x1)]) : W p l e rm_X0_gainOfAll s m args below meth c H locs 0 0 (MQ below (wt_Qi D tI tII B r σ') args s 0 0 (fun q => B ≤ q)) (F0 m 0 ls []) := by
  obtain ⟨hx, hb, hts, hown, hml, hr, hlk, hK⟩ := id C
  replace hf := Eq.trans f_X0_gainOfAll_e.symm hf
  refine lv_iconst (v := 0) hx hb dX0_gainOfAll_0 (by decide) ?_
  refine lv_istore_n (lv' := [(2, .int (0 : Int32)), (0, .ref (B + h)), (1, .int x1)]) hx hb dX0_gainOfAll_1 rfl hl (by decide) rfl (fun ls hl => ?_)
  refine lv_iconst (v := 0) hx hb dX0_gainOfAll_2 (by decide) ?_
  refine lv_istore_n (lv' := [(3, .int (0 : Int32)), (2, .int (0 : Int32)), (0, .ref (B + h)), (1, .int x1)]) hx hb dX0_gainOfAll_3 rfl hl (by decide) rfl (fun ls hl => ?_)
  exact w_X0_gainOfAll_4 C hh _ _ _ _ _ _ _ hf hM (lv_sub hl [2, 3, 1, 0] rfl)
end
set_option maxHeartbeats 4000000 in
set_option maxRecDepth 100000 in
theorem c_X0_gainOfAll {l : Launch} {D : va_G} {tI tII : ClassId} {B F : Nat} {h : Nat} {x1 : Int32} {σ σ' : Mem} {r : Int32} (hh : wt_isH h) (hf : f_X0_gainOfAll F h x1 σ = some (r, σ')) : wt_Mi l yX0_gainOfAll cX0_gainOfAll 4 (some .int) rm_X0_gainOfAll [.ref (B + h), .int x1] D tI tII B σ r σ' := by
  refine Met.ofW (cc := cX0_gainOfAll) (maxL := 4) (ret := (some .int)) (by decide) rfl ?_
  intro p e s m args below meth c s₁ B9 hml hv
  obtain ⟨rfl, hP, hK⟩ := hv
  have hl := lv_entry ([.ref (B + h), .int x1]) (n := 4) (qz_b rfl)
  rw [lg_entry_eq]
  generalize (lg_sl ([.ref (B + h), .int x1]) ++ List.replicate (4 - (lg_sl ([.ref (B + h), .int x1])).length) Slot.unset).toArray = ls at hl ⊢
  exact w_X0_gainOfAll_0 (wt_C_of B9 hml hK) hh hf ⟨hP, va_S.rf⟩ hl
section
variable {p : Program} {l : Launch} {e : Env} {s : State} {m : MethodId} {args : Array Value} {below : List Frame} {meth : Method} {c : Code} {D : va_G} {tI tII : ClassId} {B : Nat}
set_option maxHeartbeats 4000000 in
set_option maxRecDepth 100000 in
theorem w_X0_holder_71 (C : wt_C p s m args meth c RX0 cX0_holder 9 (some .int) D tI tII) {F : Nat} {k15 : Int32 → Int32 → Int32 → Int32 → Int32 → Mem → Option (Int32 × Mem)} {h : Nat} {x1 : Int32} {x2 : Int32} {x3 : Int32} {x4 : Int32} {x5 : Int32} {x6 : Int32} {x7 : Int32} {σ : Mem} {r : Int32} {σ' : Mem} {H : Heap} {locs : List Loc} {ls : Array Slot} (hh : wt_isH h) (hk15 : ∀ (x3 : Int32) (x4 : Int32) (x5 : Int32) (x6 : Int32) (x7 : Int32) (σ : Mem) (H : Heap) (locs : List Loc) (ls : Array Slot), k15 x3 x4 x5 x6 x7 σ = some (r, σ') → wt_St D tI tII B σ s H locs → lv_has ls 9 [(0, .ref (B + h)), (1, .int x1), (2, .int x2), (3, .int x3), (4, .int x4), (5, .int x5), (6, .int x6), (7, .int x7)] → W p l e rm_X0_holder s m args below meth c H locs 0 0 (MQ below (wt_Qi D tI tII B r σ') args s 0 0 (fun q => B ≤ q)) (F0 m 15 ls [])) (hf : j_X0_holder_71 F k15 h x1 x2 x3 x4 x5 x6 x7 σ = some (r, σ')) (hM : wt_St D tI tII B σ s H locs) (hl : lv_has ls 9 [(0, .ref (B + h)), (1, .int x1), (2, .int x2), (3, .int x3), (4, .int x4), (5, .int x5), (6, .int x6), (7, .int x7)]) : W p l e rm_X0_holder s m args below meth c H locs 0 0 (MQ below (wt_Qi D tI tII B r σ') args s 0 0 (fun q => B ≤ q)) (F0 m 71 ls []) := by
  obtain ⟨hx, hb, hts, hown, hml, hr, hlk, hK⟩ := id C
  replace hf := Eq.trans j_X0_holder_71_e.symm hf
  refine lv_iinc (v := (x7 + (1 : Int32))) (lv' := [(7, .int (x7 + (1 : Int32))), (0, .ref (B + h)), (1, .int x1), (2, .int x2), (3, .int x3), (4, .int x4), (5, .int x5), (6, .int x6)]) hx hb dX0_holder_71 hl (k := 7) rfl rfl (by decide) rfl (fun ls hl => ?_)
  refine lv_goto (tgt := 15) hx hb dX0_holder_74 (by decide) ?_
  exact hk15 _ _ _ _ _ _ _ _ _ hf hM (lv_sub hl [1, 2, 3, 4, 5, 6, 7, 0] rfl)
set_option maxHeartbeats 4000000 in
set_option maxRecDepth 100000 in
theorem w_X0_holder_108 (C : wt_C p s m args meth c RX0 cX0_holder 9 (some .int) D tI tII) {F : Nat} {σ : Mem} {r : Int32} {σ' : Mem} {H : Heap} {locs : List Loc} {ls : Array Slot} (hf : j_X0_holder_108 F σ = some (r, σ')) (hM : wt_St D tI tII B σ s H locs) (hl : lv_has ls 9 []) : W p l e rm_X0_holder s m args below meth c H locs 0 0 (MQ below (wt_Qi D tI tII B r σ') args s 0 0 (fun q => B ≤ q)) (F0 m 108 ls []) := by
  obtain ⟨hx, hb, hts, hown, hml, hr, hlk, hK⟩ := id C
  replace hf := Eq.trans j_X0_holder_108_e.symm hf
  refine lv_bipush (v := -9) hx hb dX0_holder_108 (by decide) ?_
  exact wt_iret hx hb hr hlk hK hM hf dX0_holder_110
set_option maxHeartbeats 4000000 in
set_option maxRecDepth 100000 in
theorem w_X0_holder_111 (C : wt_C p s m args meth c RX0 cX0_holder 9 (some .int) D tI tII) {F : Nat} {x3 : Int32} {σ : Mem} {r : Int32} {σ' : Mem} {H : Heap} {locs : List Loc} {ls : Array Slot} (hf : j_X0_holder_111 F x3 σ = some (r, σ')) (hM : wt_St D tI tII B σ s H locs) (hl : lv_has ls 9 [(3, .int x3)]) : W p l e rm_X0_holder s m args below meth c H locs 0 0 (MQ below (wt_Qi D tI tII B r σ') args s 0 0 (fun q => B ≤ q)) (F0 m 111 ls []) := by
  obtain ⟨hx, hb, hts, hown, hml, hr, hlk, hK⟩ := id C
  replace hf := Eq.trans j_X0_holder_111_e.symm hf
  refine lv_iload_n hx hb dX0_holder_111 rfl (lv_at hl 0 rfl) ?_
  exact wt_iret hx hb hr hlk hK hM hf dX0_holder_112
set_option maxHeartbeats 4000000 in
set_option maxRecDepth 100000 in
theorem w_X0_holder_90 (C : wt_C p s m args meth c RX0 cX0_holder 9 (some .int) D tI tII) {F : Nat} {h : Nat} {x3 : Int32} {x4 : Int32} {x5 : Int32} {σ : Mem} {r : Int32} {σ' : Mem} {H : Heap} {locs : List Loc} {ls : Array Slot} (hh : wt_isH h) (hf : j_X0_holder_90 F h x3 x4 x5 σ = some (r, σ')) (hM : wt_St D tI tII B σ s H locs) (hl : lv_has ls 9 [(0, .ref (B + h)), (3, .int x3), (4, .int x4), (5, .int x5)]) : W p l e rm_X0_holder s m args below meth c H locs 0 0 (MQ below (wt_Qi D tI tII B r σ') args s 0 0 (fun q => B ≤ q)) (F0 m 90 ls []) := by
  obtain ⟨hx, hb, hts, hown, hml, hr, hlk, hK⟩ := id C
  replace hf := Eq.trans j_X0_holder_90_e.symm hf
  refine lv_aload_n hx hb dX0_holder_90 rfl (lv_at hl 0 rfl) ?_
  refine gf_X0_law hh hx hb hts hown hK hM tw_42 dX0_holder_91 ?_
  refine lv_iconst (v := 2) hx hb dX0_holder_94 (by decide) ?_
  refine wq_icmp_ne (tgt := 111) hx hb dX0_holder_95 (by decide) hf (fun hf => ?_) (fun hf => ?_)
  · exact w_X0_holder_111 C hf hM (lv_sub hl [1] rfl)
  refine lv_iload hx hb dX0_holder_98 (lv_at hl 2 rfl) ?_
  refine lv_iload hx hb dX0_holder_100 (lv_at hl 3 rfl) ?_
  refine lv_iload hx hb dX0_holder_102 (lv_at hl 2 rfl) ?_
  refine lv_isub hx hb dX0_holder_104 ?_
  refine wq_icmp_gt (tgt := 111) hx hb dX0_holder_105 (by decide) hf (fun hf => ?_) (fun hf => ?_)
  · exact w_X0_holder_111 C hf hM (lv_sub hl [1] rfl)
  exact w_X0_holder_108 C hf hM (lv_sub hl [] rfl)
set_option maxHeartbeats 4000000 in
set_option maxRecDepth 100000 in
theorem w_X0_holder_15 (C : wt_C p s m args meth c RX0 cX0_holder 9 (some .int) D tI tII) {F : Nat} {h : Nat} {x1 : Int32} {x2 : Int32} {r : Int32} {σ' : Mem} (hh : wt_isH h) : ∀ (N : Nat) (x3 : Int32) (x4 : Int32) (x5 : Int32) (x6 : Int32) (x7 : Int32) (σ : Mem) (H : Heap) (locs : List Loc) (ls : Array Slot), lp_X0_holder_15 F h x1 x2 N x3 x4 x5 x6 x7 σ = some (r, σ') → wt_St D tI tII B σ s H locs → lv_has ls 9 [(0, .ref (B + h)), (1, .int x1), (2, .int x2), (3, .int x3), (4, .int x4), (5, .int x5), (6, .int x6), (7, .int x7)] → W p l e rm_X0_holder s m args below meth c H locs 0 0 (MQ below (wt_Qi D tI tII B r σ') args s 0 0 (fun q => B ≤ q)) (F0 m 15 ls []) := by
  obtain ⟨hx, hb, hts, hown, hml, hr, hlk, hK⟩ := id C
  intro N
  induction N with
  | zero => intro x3 x4 x5 x6 x7 σ H locs ls hf; exact wt_none (show (none : Option (Int32 × Mem)) = some (r, σ') from hf)
  | succ N ih =>
    intro x3 x4 x5 x6 x7 σ H locs ls hf hM hl
    replace hf := Eq.trans lp_X0_holder_15_s.symm hf
    refine lv_iload hx hb dX0_holder_15 (lv_at hl 7 rfl) ?_
    refine lv_aload_n hx hb dX0_holder_17 rfl (lv_at hl 0 rfl) ?_
    refine gf_X0_lookerCount hh hx hb hts hown hK hM tw_30 dX0_holder_18 ?_
    refine wq_icmp_ge (tgt := 77) hx hb dX0_holder_21 (by decide) hf (fun hf => ?_) (fun hf => ?_)
    · refine lv_aload_n hx hb dX0_holder_77 rfl (lv_at hl 0 rfl) ?_
      refine gf_X0_law hh hx hb hts hown hK hM tw_42 dX0_holder_78 ?_
      refine lv_iconst (v := 1) hx hb dX0_holder_81 (by decide) ?_
      refine wq_icmp_ne (tgt := 90) hx hb dX0_holder_82 (by decide) hf (fun hf => ?_) (fun hf => ?_)
      · exact w_X0_holder_90 C hh hf hM (lv_sub hl [0, 3, 4, 5] rfl)
      refine lv_iload hx hb dX0_holder_85 (lv_at hl 6 rfl) ?_
      refine wq_if_ne (tgt := 108) hx hb dX0_holder_87 (by decide) hf (fun hf => ?_) (fun hf => ?_)
      · exact w_X0_holder_108 C hf hM (lv_sub hl [] rfl)
      exact w_X0_holder_90 C hh hf hM (lv_sub hl [0, 3, 4, 5] rfl)
    refine lv_aload_n hx hb dX0_holder_24 rfl (lv_at hl 0 rfl) ?_
    refine lv_iload hx hb dX0_holder_25 (lv_at hl 7 rfl) ?_
    refine lv_iload_n hx hb dX0_holder_27 rfl (lv_at hl 1 rfl) ?_
    refine lv_iload_n hx hb dX0_holder_28 rfl (lv_at hl 2 rfl) ?_
    refine wt_callVi (As := [.int x7, .int x1, .int x2]) (rest := []) hx hb hml hts hown hK hM (wt_rc_X0 hh) cw_X0_70 hd_X0_behind rfl ⟨qz_b rfl, qz_b rfl⟩ ⟨rfl, rfl⟩ hl.1 rfl (qz_b rfl) dX0_holder_29 hf (fun _ _ h9 => c_X0_behind hh h9) (fun r1 s2 H locs hf hM => ?_)
    refine lv_istore (lv' := [(8, .int r1), (0, .ref (B + h)), (1, .int x1), (2, .int x2), (3, .int x3), (4, .int x4), (5, .int x5), (6, .int x6), (7, .int x7)]) hx hb dX0_holder_32 hl (by decide) rfl (fun ls hl => ?_)
    refine lv_iload hx hb dX0_holder_34 (lv_at hl 6 rfl) ?_
    refine lv_iload hx hb dX0_holder_36 (lv_at hl 0 rfl) ?_
    refine lv_iadd hx hb dX0_holder_38 ?_
    refine lv_istore (lv' := [(5, .int (x5 + r1)), (8, .int r1), (0, .ref (B + h)), (1, .int x1), (2, .int x2), (3, .int x3), (4, .int x4), (6, .int x6), (7, .int x7)]) hx hb dX0_holder_39 hl (by decide) rfl (fun ls hl => ?_)
    refine lv_iload hx hb dX0_holder_41 (lv_at hl 1 rfl) ?_
    refine lv_iload hx hb dX0_holder_43 (lv_at hl 6 rfl) ?_
    refine wq_icmp_le (tgt := 61) hx hb dX0_holder_45 (by decide) hf (fun hf => ?_) (fun hf => ?_)
    · refine lv_iload hx hb dX0_holder_61 (lv_at hl 1 rfl) ?_
      refine lv_iload hx hb dX0_holder_63 (lv_at hl 6 rfl) ?_
      refine wq_icmp_ne (tgt := 71) hx hb dX0_holder_65 (by decide) hf (fun hf => ?_) (fun hf => ?_)
      · exact w_X0_holder_71 C hh ih hf hM (lv_sub hl [2, 3, 4, 5, 6, 0, 7, 8] rfl)
      refine lv_iconst (v := 1) hx hb dX0_holder_68 (by decide) ?_
      refine lv_istore (lv' := [(6, .int (1 : Int32)), (5, .int (x5 + r1)), (8, .int r1), (0, .ref (B + h)), (1, .int x1), (2, .int x2), (3, .int x3), (4, .int x4), (7, .int x7)]) hx hb dX0_holder_69 hl (by decide) rfl (fun ls hl => ?_)
      exact w_X0_holder_71 C hh ih hf hM (lv_sub hl [3, 4, 5, 6, 7, 1, 0, 8] rfl)
    refine lv_iload hx hb dX0_holder_48 (lv_at hl 1 rfl) ?_
    refine lv_istore (lv' := [(4, .int r1), (5, .int (x5 + r1)), (8, .int r1), (0, .ref (B + h)), (1, .int x1), (2, .int x2), (3, .int x3), (6, .int x6), (7, .int x7)]) hx hb dX0_holder_50 hl (by decide) rfl (fun ls hl => ?_)
    refine lv_iload hx hb dX0_holder_52 (lv_at hl 8 rfl) ?_
    refine lv_istore_n (lv' := [(3, .int x7), (4, .int r1), (5, .int (x5 + r1)), (8, .int r1), (0, .ref (B + h)), (1, .int x1), (2, .int x2), (6, .int x6), (7, .int x7)]) hx hb dX0_holder_54 rfl hl (by decide) rfl (fun ls hl => ?_)
    refine lv_iconst (v := 0) hx hb dX0_holder_55 (by decide) ?_
    refine lv_istore (lv' := [(6, .int (0 : Int32)), (3, .int x7), (4, .int r1), (5, .int (x5 + r1)), (8, .int r1), (0, .ref (B + h)), (1, .int x1), (2, .int x2), (7, .int x7)]) hx hb dX0_holder_56 hl (by decide) rfl (fun ls hl => ?_)
    refine lv_goto (tgt := 71) hx hb dX0_holder_58 (by decide) ?_
    exact w_X0_holder_71 C hh ih hf hM (lv_sub hl [5, 6, 7, 1, 2, 3, 0, 8] rfl)
set_option maxHeartbeats 4000000 in
set_option maxRecDepth 100000 in
theorem w_X0_holder_0 (C : wt_C p s m args meth c RX0 cX0_holder 9 (some .int) D tI tII) {F : Nat} {h : Nat} {x1 : Int32} {x2 : Int32} {σ : Mem} {r : Int32} {σ' : Mem} {H : Heap} {locs : List Loc} {ls : Array Slot} (hh : wt_isH h) (hf : f_X0_holder F h x1 x2 σ = some (r, σ')) (hM : wt_St D tI tII B σ s H locs) (hl : lv_has ls 9 [(0, .ref (B + h)), (1, .int x1), (2, .int x2)]) : W p l e rm_X0_holder s m args below meth c H locs 0 0 (MQ below (wt_Qi D tI tII B r σ') args s 0 0 (fun q => B ≤ q)) (F0 m 0 ls []) := by
  obtain ⟨hx, hb, hts, hown, hml, hr, hlk, hK⟩ := id C
  replace hf := Eq.trans f_X0_holder_e.symm hf
  refine lv_bipush (v := -9) hx hb dX0_holder_0 (by decide) ?_
  refine lv_istore_n (lv' := [(3, .int (-9 : Int32)), (0, .ref (B + h)), (1, .int x1), (2, .int x2)]) hx hb dX0_holder_2 rfl hl (by decide) rfl (fun ls hl => ?_)
  refine lv_iconst (v := 0) hx hb dX0_holder_3 (by decide) ?_
  refine lv_istore (lv' := [(4, .int (0 : Int32)), (3, .int (-9 : Int32)), (0, .ref (B + h)), (1, .int x1), (2, .int x2)]) hx hb dX0_holder_4 hl (by decide) rfl (fun ls hl => ?_)
  refine lv_iconst (v := 0) hx hb dX0_holder_6 (by decide) ?_
  refine lv_istore (lv' := [(5, .int (0 : Int32)), (4, .int (0 : Int32)), (3, .int (-9 : Int32)), (0, .ref (B + h)), (1, .int x1), (2, .int x2)]) hx hb dX0_holder_7 hl (by decide) rfl (fun ls hl => ?_)
  refine lv_iconst (v := 0) hx hb dX0_holder_9 (by decide) ?_
  refine lv_istore (lv' := [(6, .int (0 : Int32)), (5, .int (0 : Int32)), (4, .int (0 : Int32)), (3, .int (-9 : Int32)), (0, .ref (B + h)), (1, .int x1), (2, .int x2)]) hx hb dX0_holder_10 hl (by decide) rfl (fun ls hl => ?_)
  refine lv_iconst (v := 0) hx hb dX0_holder_12 (by decide) ?_
  refine lv_istore (lv' := [(7, .int (0 : Int32)), (6, .int (0 : Int32)), (5, .int (0 : Int32)), (4, .int (0 : Int32)), (3, .int (-9 : Int32)), (0, .ref (B + h)), (1, .int x1), (2, .int x2)]) hx hb dX0_holder_13 hl (by decide) rfl (fun ls hl => ?_)
  exact w_X0_holder_15 C hh _ _ _ _ _ _ _ _ _ _ hf hM (lv_sub hl [5, 6, 7, 4, 3, 2, 1, 0] rfl)
end
set_option maxHeartbeats 4000000 in
set_option maxRecDepth 100000 in
theorem c_X0_holder {l : Launch} {D : va_G} {tI tII : ClassId} {B F : Nat} {h : Nat} {x1 : Int32} {x2 : Int32} {σ σ' : Mem} {r : Int32} (hh : wt_isH h) (hf : f_X0_holder F h x1 x2 σ = some (r, σ')) : wt_Mi l yX0_holder cX0_holder 9 (some .int) rm_X0_holder [.ref (B + h), .int x1, .int x2] D tI tII B σ r σ' := by
  refine Met.ofW (cc := cX0_holder) (maxL := 9) (ret := (some .int)) (by decide) rfl ?_
  intro p e s m args below meth c s₁ B9 hml hv
  obtain ⟨rfl, hP, hK⟩ := hv
  have hl := lv_entry ([.ref (B + h), .int x1, .int x2]) (n := 9) (qz_b rfl)
  rw [lg_entry_eq]
  generalize (lg_sl ([.ref (B + h), .int x1, .int x2]) ++ List.replicate (9 - (lg_sl ([.ref (B + h), .int x1, .int x2])).length) Slot.unset).toArray = ls at hl ⊢
  exact w_X0_holder_0 (wt_C_of B9 hml hK) hh hf ⟨hP, va_S.rf⟩ hl
section
variable {p : Program} {l : Launch} {e : Env} {s : State} {m : MethodId} {args : Array Value} {below : List Frame} {meth : Method} {c : Code} {D : va_G} {tI tII : ClassId} {B : Nat}
set_option maxHeartbeats 4000000 in
set_option maxRecDepth 100000 in
theorem w_X0_holdings_30 (C : wt_C p s m args meth c RX0 cX0_holdings 5 (some .int) D tI tII) {F : Nat} {k5 : Int32 → Int32 → Mem → Option (Int32 × Mem)} {h : Nat} {x1 : Int32} {x2 : Int32} {x3 : Int32} {x4 : Int32} {σ : Mem} {r : Int32} {σ' : Mem} {H : Heap} {locs : List Loc} {ls : Array Slot} (hh : wt_isH h) (hk5 : ∀ (x3 : Int32) (x4 : Int32) (σ : Mem) (H : Heap) (locs : List Loc) (ls : Array Slot), k5 x3 x4 σ = some (r, σ') → wt_St D tI tII B σ s H locs → lv_has ls 5 [(0, .ref (B + h)), (1, .int x1), (2, .int x2), (3, .int x3), (4, .int x4)] → W p l e rm_X0_holdings s m args below meth c H locs 0 0 (MQ below (wt_Qi D tI tII B r σ') args s 0 0 (fun q => B ≤ q)) (F0 m 5 ls [])) (hf : j_X0_holdings_30 F k5 h x1 x2 x3 x4 σ = some (r, σ')) (hM : wt_St D tI tII B σ s H locs) (hl : lv_has ls 5 [(0, .ref (B + h)), (1, .int x1), (2, .int x2), (3, .int x3), (4, .int x4)]) : W p l e rm_X0_holdings s m args below meth c H locs 0 0 (MQ below (wt_Qi D tI tII B r σ') args s 0 0 (fun q => B ≤ q)) (F0 m 30 ls []) := by
  obtain ⟨hx, hb, hts, hown, hml, hr, hlk, hK⟩ := id C
  replace hf := Eq.trans j_X0_holdings_30_e.symm hf
  refine lv_iinc (v := (x4 + (1 : Int32))) (lv' := [(4, .int (x4 + (1 : Int32))), (0, .ref (B + h)), (1, .int x1), (2, .int x2), (3, .int x3)]) hx hb dX0_holdings_30 hl (k := 4) rfl rfl (by decide) rfl (fun ls hl => ?_)
  refine lv_goto (tgt := 5) hx hb dX0_holdings_33 (by decide) ?_
  exact hk5 _ _ _ _ _ _ hf hM (lv_sub hl [1, 2, 3, 4, 0] rfl)
set_option maxHeartbeats 4000000 in
set_option maxRecDepth 100000 in
theorem w_X0_holdings_5 (C : wt_C p s m args meth c RX0 cX0_holdings 5 (some .int) D tI tII) {F : Nat} {h : Nat} {x1 : Int32} {x2 : Int32} {r : Int32} {σ' : Mem} (hh : wt_isH h) : ∀ (N : Nat) (x3 : Int32) (x4 : Int32) (σ : Mem) (H : Heap) (locs : List Loc) (ls : Array Slot), lp_X0_holdings_5 F h x1 x2 N x3 x4 σ = some (r, σ') → wt_St D tI tII B σ s H locs → lv_has ls 5 [(0, .ref (B + h)), (1, .int x1), (2, .int x2), (3, .int x3), (4, .int x4)] → W p l e rm_X0_holdings s m args below meth c H locs 0 0 (MQ below (wt_Qi D tI tII B r σ') args s 0 0 (fun q => B ≤ q)) (F0 m 5 ls []) := by
  obtain ⟨hx, hb, hts, hown, hml, hr, hlk, hK⟩ := id C
  intro N
  induction N with
  | zero => intro x3 x4 σ H locs ls hf; exact wt_none (show (none : Option (Int32 × Mem)) = some (r, σ') from hf)
  | succ N ih =>
    intro x3 x4 σ H locs ls hf hM hl
    replace hf := Eq.trans lp_X0_holdings_5_s.symm hf
    refine lv_iload hx hb dX0_holdings_5 (lv_at hl 4 rfl) ?_
    refine lv_bipush (v := 8) hx hb dX0_holdings_7 (by decide) ?_
    refine wq_icmp_ge (tgt := 36) hx hb dX0_holdings_9 (by decide) hf (fun hf => ?_) (fun hf => ?_)
    · refine lv_iload_n hx hb dX0_holdings_36 rfl (lv_at hl 3 rfl) ?_
      exact wt_iret hx hb hr hlk hK hM hf dX0_holdings_37
    refine lv_aload_n hx hb dX0_holdings_12 rfl (lv_at hl 0 rfl) ?_
    refine lv_iload hx hb dX0_holdings_13 (lv_at hl 4 rfl) ?_
    refine lv_iload_n hx hb dX0_holdings_15 rfl (lv_at hl 2 rfl) ?_
    refine wt_callVi (As := [.int x4, .int x2]) (rest := []) hx hb hml hts hown hK hM (wt_rc_X0 hh) cw_X0_109 hd_X0_holder rfl ⟨qz_b rfl, qz_b rfl⟩ ⟨rfl, rfl⟩ hl.1 rfl (qz_b rfl) dX0_holdings_16 hf (fun _ _ h9 => c_X0_holder hh h9) (fun r1 s2 H locs hf hM => ?_)
    refine lv_iload_n hx hb dX0_holdings_19 rfl (lv_at hl 1 rfl) ?_
    refine wq_icmp_ne (tgt := 30) hx hb dX0_holdings_20 (by decide) hf (fun hf => ?_) (fun hf => ?_)
    · exact w_X0_holdings_30 C hh ih hf hM hl
    refine lv_iload_n hx hb dX0_holdings_23 rfl (lv_at hl 3 rfl) ?_
    refine lv_iconst (v := 1) hx hb dX0_holdings_24 (by decide) ?_
    refine lv_iload hx hb dX0_holdings_25 (lv_at hl 4 rfl) ?_
    refine lv_ishl hx hb dX0_holdings_27 ?_
    refine lv_ior hx hb dX0_holdings_28 ?_
    refine wt_leti hf (fun z3 hf => ?_)
    refine lv_istore_n (lv' := [(3, .int z3), (0, .ref (B + h)), (1, .int x1), (2, .int x2), (4, .int x4)]) hx hb dX0_holdings_29 rfl hl (by decide) rfl (fun ls hl => ?_)
    exact w_X0_holdings_30 C hh ih hf hM (lv_sub hl [1, 2, 3, 0, 4] rfl)
set_option maxHeartbeats 4000000 in
set_option maxRecDepth 100000 in
theorem w_X0_holdings_0 (C : wt_C p s m args meth c RX0 cX0_holdings 5 (some .int) D tI tII) {F : Nat} {h : Nat} {x1 : Int32} {x2 : Int32} {σ : Mem} {r : Int32} {σ' : Mem} {H : Heap} {locs : List Loc} {ls : Array Slot} (hh : wt_isH h) (hf : f_X0_holdings F h x1 x2 σ = some (r, σ')) (hM : wt_St D tI tII B σ s H locs) (hl : lv_has ls 5 [(0, .ref (B + h)), (1, .int x1), (2, .int x2)]) : W p l e rm_X0_holdings s m args below meth c H locs 0 0 (MQ below (wt_Qi D tI tII B r σ') args s 0 0 (fun q => B ≤ q)) (F0 m 0 ls []) := by
  obtain ⟨hx, hb, hts, hown, hml, hr, hlk, hK⟩ := id C
  replace hf := Eq.trans f_X0_holdings_e.symm hf
  refine lv_iconst (v := 0) hx hb dX0_holdings_0 (by decide) ?_
  refine lv_istore_n (lv' := [(3, .int (0 : Int32)), (0, .ref (B + h)), (1, .int x1), (2, .int x2)]) hx hb dX0_holdings_1 rfl hl (by decide) rfl (fun ls hl => ?_)
  refine lv_iconst (v := 0) hx hb dX0_holdings_2 (by decide) ?_
  refine lv_istore (lv' := [(4, .int (0 : Int32)), (3, .int (0 : Int32)), (0, .ref (B + h)), (1, .int x1), (2, .int x2)]) hx hb dX0_holdings_3 hl (by decide) rfl (fun ls hl => ?_)
  exact w_X0_holdings_5 C hh _ _ _ _ _ _ _ hf hM (lv_sub hl [2, 3, 4, 1, 0] rfl)
end
set_option maxHeartbeats 4000000 in
set_option maxRecDepth 100000 in
theorem c_X0_holdings {l : Launch} {D : va_G} {tI tII : ClassId} {B F : Nat} {h : Nat} {x1 : Int32} {x2 : Int32} {σ σ' : Mem} {r : Int32} (hh : wt_isH h) (hf : f_X0_holdings F h x1 x2 σ = some (r, σ')) : wt_Mi l yX0_holdings cX0_holdings 5 (some .int) rm_X0_holdings [.ref (B + h), .int x1, .int x2] D tI tII B σ r σ' := by
  refine Met.ofW (cc := cX0_holdings) (maxL := 5) (ret := (some .int)) (by decide) rfl ?_
  intro p e s m args below meth c s₁ B9 hml hv
  obtain ⟨rfl, hP, hK⟩ := hv
  have hl := lv_entry ([.ref (B + h), .int x1, .int x2]) (n := 5) (qz_b rfl)
  rw [lg_entry_eq]
  generalize (lg_sl ([.ref (B + h), .int x1, .int x2]) ++ List.replicate (5 - (lg_sl ([.ref (B + h), .int x1, .int x2])).length) Slot.unset).toArray = ls at hl ⊢
  exact w_X0_holdings_0 (wt_C_of B9 hml hK) hh hf ⟨hP, va_S.rf⟩ hl
section
variable {p : Program} {l : Launch} {e : Env} {s : State} {m : MethodId} {args : Array Value} {below : List Frame} {meth : Method} {c : Code} {D : va_G} {tI tII : ClassId} {B : Nat}
set_option maxHeartbeats 4000000 in
set_option maxRecDepth 100000 in
theorem w_X0_firstHolding_2 (C : wt_C p s m args meth c RX0 cX0_firstHolding 4 (some .int) D tI tII) {F : Nat} {h : Nat} {x1 : Int32} {x2 : Int32} {r : Int32} {σ' : Mem} (hh : wt_isH h) : ∀ (N : Nat) (x3 : Int32) (σ : Mem) (H : Heap) (locs : List Loc) (ls : Array Slot), lp_X0_firstHolding_2 F h x1 x2 N x3 σ = some (r, σ') → wt_St D tI tII B σ s H locs → lv_has ls 4 [(0, .ref (B + h)), (1, .int x1), (2, .int x2), (3, .int x3)] → W p l e rm_X0_firstHolding s m args below meth c H locs 0 0 (MQ below (wt_Qi D tI tII B r σ') args s 0 0 (fun q => B ≤ q)) (F0 m 2 ls []) := by
  obtain ⟨hx, hb, hts, hown, hml, hr, hlk, hK⟩ := id C
  intro N
  induction N with
  | zero => intro x3 σ H locs ls hf; exact wt_none (show (none : Option (Int32 × Mem)) = some (r, σ') from hf)
  | succ N ih =>
    intro x3 σ H locs ls hf hM hl
    replace hf := Eq.trans lp_X0_firstHolding_2_s.symm hf
    refine lv_iload_n hx hb dX0_firstHolding_2 rfl (lv_at hl 3 rfl) ?_
    refine lv_bipush (v := 8) hx hb dX0_firstHolding_3 (by decide) ?_
    refine wq_icmp_ge (tgt := 26) hx hb dX0_firstHolding_5 (by decide) hf (fun hf => ?_) (fun hf => ?_)
    · refine lv_bipush (v := -9) hx hb dX0_firstHolding_26 (by decide) ?_
      exact wt_iret hx hb hr hlk hK hM hf dX0_firstHolding_28
    refine lv_aload_n hx hb dX0_firstHolding_8 rfl (lv_at hl 0 rfl) ?_
    refine lv_iload_n hx hb dX0_firstHolding_9 rfl (lv_at hl 3 rfl) ?_
    refine lv_iload_n hx hb dX0_firstHolding_10 rfl (lv_at hl 2 rfl) ?_
    refine wt_callVi (As := [.int x3, .int x2]) (rest := []) hx hb hml hts hown hK hM (wt_rc_X0 hh) cw_X0_109 hd_X0_holder rfl ⟨qz_b rfl, qz_b rfl⟩ ⟨rfl, rfl⟩ hl.1 rfl (qz_b rfl) dX0_firstHolding_11 hf (fun _ _ h9 => c_X0_holder hh h9) (fun r1 s2 H locs hf hM => ?_)
    refine lv_iload_n hx hb dX0_firstHolding_14 rfl (lv_at hl 1 rfl) ?_
    refine wq_icmp_ne (tgt := 20) hx hb dX0_firstHolding_15 (by decide) hf (fun hf => ?_) (fun hf => ?_)
    · refine lv_iinc (v := (x3 + (1 : Int32))) (lv' := [(3, .int (x3 + (1 : Int32))), (0, .ref (B + h)), (1, .int x1), (2, .int x2)]) hx hb dX0_firstHolding_20 hl (k := 3) rfl rfl (by decide) rfl (fun ls hl => ?_)
      refine lv_goto (tgt := 2) hx hb dX0_firstHolding_23 (by decide) ?_
      exact ih _ _ _ _ _ hf hM (lv_sub hl [1, 2, 3, 0] rfl)
    refine lv_iload_n hx hb dX0_firstHolding_18 rfl (lv_at hl 3 rfl) ?_
    exact wt_iret hx hb hr hlk hK hM hf dX0_firstHolding_19
set_option maxHeartbeats 4000000 in
set_option maxRecDepth 100000 in
theorem w_X0_firstHolding_0 (C : wt_C p s m args meth c RX0 cX0_firstHolding 4 (some .int) D tI tII) {F : Nat} {h : Nat} {x1 : Int32} {x2 : Int32} {σ : Mem} {r : Int32} {σ' : Mem} {H : Heap} {locs : List Loc} {ls : Array Slot} (hh : wt_isH h) (hf : f_X0_firstHolding F h x1 x2 σ = some (r, σ')) (hM : wt_St D tI tII B σ s H locs) (hl : lv_has ls 4 [(0, .ref (B + h)), (1, .int x1), (2, .int x2)]) : W p l e rm_X0_firstHolding s m args below meth c H locs 0 0 (MQ below (wt_Qi D tI tII B r σ') args s 0 0 (fun q => B ≤ q)) (F0 m 0 ls []) := by
  obtain ⟨hx, hb, hts, hown, hml, hr, hlk, hK⟩ := id C
  replace hf := Eq.trans f_X0_firstHolding_e.symm hf
  refine lv_iconst (v := 0) hx hb dX0_firstHolding_0 (by decide) ?_
  refine lv_istore_n (lv' := [(3, .int (0 : Int32)), (0, .ref (B + h)), (1, .int x1), (2, .int x2)]) hx hb dX0_firstHolding_1 rfl hl (by decide) rfl (fun ls hl => ?_)
  exact w_X0_firstHolding_2 C hh _ _ _ _ _ _ hf hM (lv_sub hl [1, 2, 3, 0] rfl)
end
set_option maxHeartbeats 4000000 in
set_option maxRecDepth 100000 in
theorem c_X0_firstHolding {l : Launch} {D : va_G} {tI tII : ClassId} {B F : Nat} {h : Nat} {x1 : Int32} {x2 : Int32} {σ σ' : Mem} {r : Int32} (hh : wt_isH h) (hf : f_X0_firstHolding F h x1 x2 σ = some (r, σ')) : wt_Mi l yX0_firstHolding cX0_firstHolding 4 (some .int) rm_X0_firstHolding [.ref (B + h), .int x1, .int x2] D tI tII B σ r σ' := by
  refine Met.ofW (cc := cX0_firstHolding) (maxL := 4) (ret := (some .int)) (by decide) rfl ?_
  intro p e s m args below meth c s₁ B9 hml hv
  obtain ⟨rfl, hP, hK⟩ := hv
  have hl := lv_entry ([.ref (B + h), .int x1, .int x2]) (n := 4) (qz_b rfl)
  rw [lg_entry_eq]
  generalize (lg_sl ([.ref (B + h), .int x1, .int x2]) ++ List.replicate (4 - (lg_sl ([.ref (B + h), .int x1, .int x2])).length) Slot.unset).toArray = ls at hl ⊢
  exact w_X0_firstHolding_0 (wt_C_of B9 hml hK) hh hf ⟨hP, va_S.rf⟩ hl
section
variable {p : Program} {l : Launch} {e : Env} {s : State} {m : MethodId} {args : Array Value} {below : List Frame} {meth : Method} {c : Code} {D : va_G} {tI tII : ClassId} {B : Nat}
set_option maxHeartbeats 4000000 in
set_option maxRecDepth 100000 in
theorem w_X0_held_0 (C : wt_C p s m args meth c RX0 cX0_held 2 (some .int) D tI tII) {F : Nat} {h : Nat} {x1 : Int32} {σ : Mem} {r : Int32} {σ' : Mem} {H : Heap} {locs : List Loc} {ls : Array Slot} (hh : wt_isH h) (hf : f_X0_held F h x1 σ = some (r, σ')) (hM : wt_St D tI tII B σ s H locs) (hl : lv_has ls 2 [(0, .ref (B + h)), (1, .int x1)]) : W p l e rm_X0_held s m args below meth c H locs 0 0 (MQ below (wt_Qi D tI tII B r σ') args s 0 0 (fun q => B ≤ q)) (F0 m 0 ls []) := by
  obtain ⟨hx, hb, hts, hown, hml, hr, hlk, hK⟩ := id C
  replace hf := Eq.trans f_X0_held_e.symm hf
  refine lv_sipush (v := 255) hx hb dX0_held_0 (by decide) ?_
  refine lv_aload_n hx hb dX0_held_3 rfl (lv_at hl 0 rfl) ?_
  refine lv_bipush (v := -9) hx hb dX0_held_4 (by decide) ?_
  refine lv_iload_n hx hb dX0_held_6 rfl (lv_at hl 1 rfl) ?_
  refine wt_callVi (As := [.int (-9 : Int32), .int x1]) (rest := [.int (255 : Int32)]) hx hb hml hts hown hK hM (wt_rc_X0 hh) cw_X0_112 hd_X0_holdings rfl ⟨qz_b rfl, qz_b rfl⟩ ⟨rfl, rfl⟩ hl.1 rfl (qz_b rfl) dX0_held_7 hf (fun _ _ h9 => c_X0_holdings hh h9) (fun r1 s2 H locs hf hM => ?_)
  refine lv_isub hx hb dX0_held_10 ?_
  exact wt_iret hx hb hr hlk hK hM hf dX0_held_11
end
set_option maxHeartbeats 4000000 in
set_option maxRecDepth 100000 in
theorem c_X0_held {l : Launch} {D : va_G} {tI tII : ClassId} {B F : Nat} {h : Nat} {x1 : Int32} {σ σ' : Mem} {r : Int32} (hh : wt_isH h) (hf : f_X0_held F h x1 σ = some (r, σ')) : wt_Mi l yX0_held cX0_held 2 (some .int) rm_X0_held [.ref (B + h), .int x1] D tI tII B σ r σ' := by
  refine Met.ofW (cc := cX0_held) (maxL := 2) (ret := (some .int)) (by decide) rfl ?_
  intro p e s m args below meth c s₁ B9 hml hv
  obtain ⟨rfl, hP, hK⟩ := hv
  have hl := lv_entry ([.ref (B + h), .int x1]) (n := 2) (qz_b rfl)
  rw [lg_entry_eq]
  generalize (lg_sl ([.ref (B + h), .int x1]) ++ List.replicate (2 - (lg_sl ([.ref (B + h), .int x1])).length) Slot.unset).toArray = ls at hl ⊢
  exact w_X0_held_0 (wt_C_of B9 hml hK) hh hf ⟨hP, va_S.rf⟩ hl
section
variable {p : Program} {l : Launch} {e : Env} {s : State} {m : MethodId} {args : Array Value} {below : List Frame} {meth : Method} {c : Code} {D : va_G} {tI tII : ClassId} {B : Nat}
set_option maxHeartbeats 4000000 in
set_option maxRecDepth 100000 in
theorem w_X0_wealth_33 (C : wt_C p s m args meth c RX0 cX0_wealth 5 (some .int) D tI tII) {F : Nat} {k5 : Int32 → Int32 → Mem → Option (Int32 × Mem)} {h : Nat} {x1 : Int32} {x2 : Int32} {x3 : Int32} {x4 : Int32} {σ : Mem} {r : Int32} {σ' : Mem} {H : Heap} {locs : List Loc} {ls : Array Slot} (hh : wt_isH h) (hk5 : ∀ (x3 : Int32) (x4 : Int32) (σ : Mem) (H : Heap) (locs : List Loc) (ls : Array Slot), k5 x3 x4 σ = some (r, σ') → wt_St D tI tII B σ s H locs → lv_has ls 5 [(0, .ref (B + h)), (1, .int x1), (2, .int x2), (3, .int x3), (4, .int x4)] → W p l e rm_X0_wealth s m args below meth c H locs 0 0 (MQ below (wt_Qi D tI tII B r σ') args s 0 0 (fun q => B ≤ q)) (F0 m 5 ls [])) (hf : j_X0_wealth_33 F k5 h x1 x2 x3 x4 σ = some (r, σ')) (hM : wt_St D tI tII B σ s H locs) (hl : lv_has ls 5 [(0, .ref (B + h)), (1, .int x1), (2, .int x2), (3, .int x3), (4, .int x4)]) : W p l e rm_X0_wealth s m args below meth c H locs 0 0 (MQ below (wt_Qi D tI tII B r σ') args s 0 0 (fun q => B ≤ q)) (F0 m 33 ls []) := by
  obtain ⟨hx, hb, hts, hown, hml, hr, hlk, hK⟩ := id C
  replace hf := Eq.trans j_X0_wealth_33_e.symm hf
  refine lv_iinc (v := (x4 + (1 : Int32))) (lv' := [(4, .int (x4 + (1 : Int32))), (0, .ref (B + h)), (1, .int x1), (2, .int x2), (3, .int x3)]) hx hb dX0_wealth_33 hl (k := 4) rfl rfl (by decide) rfl (fun ls hl => ?_)
  refine lv_goto (tgt := 5) hx hb dX0_wealth_36 (by decide) ?_
  exact hk5 _ _ _ _ _ _ hf hM (lv_sub hl [1, 2, 3, 4, 0] rfl)
set_option maxHeartbeats 4000000 in
set_option maxRecDepth 100000 in
theorem w_X0_wealth_5 (C : wt_C p s m args meth c RX0 cX0_wealth 5 (some .int) D tI tII) {F : Nat} {h : Nat} {x1 : Int32} {x2 : Int32} {r : Int32} {σ' : Mem} (hh : wt_isH h) : ∀ (N : Nat) (x3 : Int32) (x4 : Int32) (σ : Mem) (H : Heap) (locs : List Loc) (ls : Array Slot), lp_X0_wealth_5 F h x1 x2 N x3 x4 σ = some (r, σ') → wt_St D tI tII B σ s H locs → lv_has ls 5 [(0, .ref (B + h)), (1, .int x1), (2, .int x2), (3, .int x3), (4, .int x4)] → W p l e rm_X0_wealth s m args below meth c H locs 0 0 (MQ below (wt_Qi D tI tII B r σ') args s 0 0 (fun q => B ≤ q)) (F0 m 5 ls []) := by
  obtain ⟨hx, hb, hts, hown, hml, hr, hlk, hK⟩ := id C
  intro N
  induction N with
  | zero => intro x3 x4 σ H locs ls hf; exact wt_none (show (none : Option (Int32 × Mem)) = some (r, σ') from hf)
  | succ N ih =>
    intro x3 x4 σ H locs ls hf hM hl
    replace hf := Eq.trans lp_X0_wealth_5_s.symm hf
    refine lv_iload hx hb dX0_wealth_5 (lv_at hl 4 rfl) ?_
    refine lv_bipush (v := 8) hx hb dX0_wealth_7 (by decide) ?_
    refine wq_icmp_ge (tgt := 39) hx hb dX0_wealth_9 (by decide) hf (fun hf => ?_) (fun hf => ?_)
    · refine lv_iload_n hx hb dX0_wealth_39 rfl (lv_at hl 3 rfl) ?_
      exact wt_iret hx hb hr hlk hK hM hf dX0_wealth_40
    refine lv_aload_n hx hb dX0_wealth_12 rfl (lv_at hl 0 rfl) ?_
    refine lv_iload hx hb dX0_wealth_13 (lv_at hl 4 rfl) ?_
    refine lv_iload_n hx hb dX0_wealth_15 rfl (lv_at hl 2 rfl) ?_
    refine wt_callVi (As := [.int x4, .int x2]) (rest := []) hx hb hml hts hown hK hM (wt_rc_X0 hh) cw_X0_109 hd_X0_holder rfl ⟨qz_b rfl, qz_b rfl⟩ ⟨rfl, rfl⟩ hl.1 rfl (qz_b rfl) dX0_wealth_16 hf (fun _ _ h9 => c_X0_holder hh h9) (fun r1 s2 H locs hf hM => ?_)
    refine lv_iload_n hx hb dX0_wealth_19 rfl (lv_at hl 1 rfl) ?_
    refine wq_icmp_ne (tgt := 33) hx hb dX0_wealth_20 (by decide) hf (fun hf => ?_) (fun hf => ?_)
    · exact w_X0_wealth_33 C hh ih hf hM hl
    refine lv_iload_n hx hb dX0_wealth_23 rfl (lv_at hl 3 rfl) ?_
    refine lv_aload_n hx hb dX0_wealth_24 rfl (lv_at hl 0 rfl) ?_
    refine gf_X0_worths hh hx hb hts hown hK hM tw_40 dX0_wealth_25 ?_
    refine lv_iload hx hb dX0_wealth_28 (lv_at hl 4 rfl) ?_
    obtain ⟨i3, hf⟩ := wt_chk_of hf
    refine wt_ild hx hb hK hM (wt_aH_16 hh) i3 dX0_wealth_30 ?_
    refine lv_iadd hx hb dX0_wealth_31 ?_
    refine wt_leti hf (fun z4 hf => ?_)
    refine lv_istore_n (lv' := [(3, .int z4), (0, .ref (B + h)), (1, .int x1), (2, .int x2), (4, .int x4)]) hx hb dX0_wealth_32 rfl hl (by decide) rfl (fun ls hl => ?_)
    exact w_X0_wealth_33 C hh ih hf hM (lv_sub hl [1, 2, 3, 0, 4] rfl)
set_option maxHeartbeats 4000000 in
set_option maxRecDepth 100000 in
theorem w_X0_wealth_0 (C : wt_C p s m args meth c RX0 cX0_wealth 5 (some .int) D tI tII) {F : Nat} {h : Nat} {x1 : Int32} {x2 : Int32} {σ : Mem} {r : Int32} {σ' : Mem} {H : Heap} {locs : List Loc} {ls : Array Slot} (hh : wt_isH h) (hf : f_X0_wealth F h x1 x2 σ = some (r, σ')) (hM : wt_St D tI tII B σ s H locs) (hl : lv_has ls 5 [(0, .ref (B + h)), (1, .int x1), (2, .int x2)]) : W p l e rm_X0_wealth s m args below meth c H locs 0 0 (MQ below (wt_Qi D tI tII B r σ') args s 0 0 (fun q => B ≤ q)) (F0 m 0 ls []) := by
  obtain ⟨hx, hb, hts, hown, hml, hr, hlk, hK⟩ := id C
  replace hf := Eq.trans f_X0_wealth_e.symm hf
  refine lv_iconst (v := 0) hx hb dX0_wealth_0 (by decide) ?_
  refine lv_istore_n (lv' := [(3, .int (0 : Int32)), (0, .ref (B + h)), (1, .int x1), (2, .int x2)]) hx hb dX0_wealth_1 rfl hl (by decide) rfl (fun ls hl => ?_)
  refine lv_iconst (v := 0) hx hb dX0_wealth_2 (by decide) ?_
  refine lv_istore (lv' := [(4, .int (0 : Int32)), (3, .int (0 : Int32)), (0, .ref (B + h)), (1, .int x1), (2, .int x2)]) hx hb dX0_wealth_3 hl (by decide) rfl (fun ls hl => ?_)
  exact w_X0_wealth_5 C hh _ _ _ _ _ _ _ hf hM (lv_sub hl [2, 3, 4, 1, 0] rfl)
end
set_option maxHeartbeats 4000000 in
set_option maxRecDepth 100000 in
theorem c_X0_wealth {l : Launch} {D : va_G} {tI tII : ClassId} {B F : Nat} {h : Nat} {x1 : Int32} {x2 : Int32} {σ σ' : Mem} {r : Int32} (hh : wt_isH h) (hf : f_X0_wealth F h x1 x2 σ = some (r, σ')) : wt_Mi l yX0_wealth cX0_wealth 5 (some .int) rm_X0_wealth [.ref (B + h), .int x1, .int x2] D tI tII B σ r σ' := by
  refine Met.ofW (cc := cX0_wealth) (maxL := 5) (ret := (some .int)) (by decide) rfl ?_
  intro p e s m args below meth c s₁ B9 hml hv
  obtain ⟨rfl, hP, hK⟩ := hv
  have hl := lv_entry ([.ref (B + h), .int x1, .int x2]) (n := 5) (qz_b rfl)
  rw [lg_entry_eq]
  generalize (lg_sl ([.ref (B + h), .int x1, .int x2]) ++ List.replicate (5 - (lg_sl ([.ref (B + h), .int x1, .int x2])).length) Slot.unset).toArray = ls at hl ⊢
  exact w_X0_wealth_0 (wt_C_of B9 hml hK) hh hf ⟨hP, va_S.rf⟩ hl
section
variable {p : Program} {l : Launch} {e : Env} {s : State} {m : MethodId} {args : Array Value} {below : List Frame} {meth : Method} {c : Code} {D : va_G} {tI tII : ClassId} {B : Nat}
set_option maxHeartbeats 4000000 in
set_option maxRecDepth 100000 in
theorem w_X0_wealthiest_38 (C : wt_C p s m args meth c RX0 cX0_wealthiest 6 (some .int) D tI tII) {F : Nat} {k8 : Int32 → Int32 → Int32 → Mem → Option (Int32 × Mem)} {h : Nat} {x1 : Int32} {x2 : Int32} {x3 : Int32} {x4 : Int32} {σ : Mem} {r : Int32} {σ' : Mem} {H : Heap} {locs : List Loc} {ls : Array Slot} (hh : wt_isH h) (hk8 : ∀ (x2 : Int32) (x3 : Int32) (x4 : Int32) (σ : Mem) (H : Heap) (locs : List Loc) (ls : Array Slot), k8 x2 x3 x4 σ = some (r, σ') → wt_St D tI tII B σ s H locs → lv_has ls 6 [(0, .ref (B + h)), (1, .int x1), (2, .int x2), (3, .int x3), (4, .int x4)] → W p l e rm_X0_wealthiest s m args below meth c H locs 0 0 (MQ below (wt_Qi D tI tII B r σ') args s 0 0 (fun q => B ≤ q)) (F0 m 8 ls [])) (hf : j_X0_wealthiest_38 F k8 h x1 x2 x3 x4 σ = some (r, σ')) (hM : wt_St D tI tII B σ s H locs) (hl : lv_has ls 6 [(0, .ref (B + h)), (1, .int x1), (2, .int x2), (3, .int x3), (4, .int x4)]) : W p l e rm_X0_wealthiest s m args below meth c H locs 0 0 (MQ below (wt_Qi D tI tII B r σ') args s 0 0 (fun q => B ≤ q)) (F0 m 38 ls []) := by
  obtain ⟨hx, hb, hts, hown, hml, hr, hlk, hK⟩ := id C
  replace hf := Eq.trans j_X0_wealthiest_38_e.symm hf
  refine lv_iinc (v := (x4 + (1 : Int32))) (lv' := [(4, .int (x4 + (1 : Int32))), (0, .ref (B + h)), (1, .int x1), (2, .int x2), (3, .int x3)]) hx hb dX0_wealthiest_38 hl (k := 4) rfl rfl (by decide) rfl (fun ls hl => ?_)
  refine lv_goto (tgt := 8) hx hb dX0_wealthiest_41 (by decide) ?_
  exact hk8 _ _ _ _ _ _ _ hf hM (lv_sub hl [1, 2, 3, 4, 0] rfl)
set_option maxHeartbeats 4000000 in
set_option maxRecDepth 100000 in
theorem w_X0_wealthiest_8 (C : wt_C p s m args meth c RX0 cX0_wealthiest 6 (some .int) D tI tII) {F : Nat} {h : Nat} {x1 : Int32} {r : Int32} {σ' : Mem} (hh : wt_isH h) : ∀ (N : Nat) (x2 : Int32) (x3 : Int32) (x4 : Int32) (σ : Mem) (H : Heap) (locs : List Loc) (ls : Array Slot), lp_X0_wealthiest_8 F h x1 N x2 x3 x4 σ = some (r, σ') → wt_St D tI tII B σ s H locs → lv_has ls 6 [(0, .ref (B + h)), (1, .int x1), (2, .int x2), (3, .int x3), (4, .int x4)] → W p l e rm_X0_wealthiest s m args below meth c H locs 0 0 (MQ below (wt_Qi D tI tII B r σ') args s 0 0 (fun q => B ≤ q)) (F0 m 8 ls []) := by
  obtain ⟨hx, hb, hts, hown, hml, hr, hlk, hK⟩ := id C
  intro N
  induction N with
  | zero => intro x2 x3 x4 σ H locs ls hf; exact wt_none (show (none : Option (Int32 × Mem)) = some (r, σ') from hf)
  | succ N ih =>
    intro x2 x3 x4 σ H locs ls hf hM hl
    replace hf := Eq.trans lp_X0_wealthiest_8_s.symm hf
    refine lv_iload hx hb dX0_wealthiest_8 (lv_at hl 4 rfl) ?_
    refine lv_aload_n hx hb dX0_wealthiest_10 rfl (lv_at hl 0 rfl) ?_
    refine gf_X0_lookerCount hh hx hb hts hown hK hM tw_30 dX0_wealthiest_11 ?_
    refine wq_icmp_ge (tgt := 44) hx hb dX0_wealthiest_14 (by decide) hf (fun hf => ?_) (fun hf => ?_)
    · refine lv_iload_n hx hb dX0_wealthiest_44 rfl (lv_at hl 2 rfl) ?_
      exact wt_iret hx hb hr hlk hK hM hf dX0_wealthiest_45
    refine lv_aload_n hx hb dX0_wealthiest_17 rfl (lv_at hl 0 rfl) ?_
    refine lv_iload hx hb dX0_wealthiest_18 (lv_at hl 4 rfl) ?_
    refine lv_iload_n hx hb dX0_wealthiest_20 rfl (lv_at hl 1 rfl) ?_
    refine wt_callVi (As := [.int x4, .int x1]) (rest := []) hx hb hml hts hown hK hM (wt_rc_X0 hh) cw_X0_115 hd_X0_wealth rfl ⟨qz_b rfl, qz_b rfl⟩ ⟨rfl, rfl⟩ hl.1 rfl (qz_b rfl) dX0_wealthiest_21 hf (fun _ _ h9 => c_X0_wealth hh h9) (fun r1 s2 H locs hf hM => ?_)
    refine lv_istore (lv' := [(5, .int r1), (0, .ref (B + h)), (1, .int x1), (2, .int x2), (3, .int x3), (4, .int x4)]) hx hb dX0_wealthiest_24 hl (by decide) rfl (fun ls hl => ?_)
    refine lv_iload hx hb dX0_wealthiest_26 (lv_at hl 0 rfl) ?_
    refine lv_iload_n hx hb dX0_wealthiest_28 rfl (lv_at hl 4 rfl) ?_
    refine wq_icmp_le (tgt := 38) hx hb dX0_wealthiest_29 (by decide) hf (fun hf => ?_) (fun hf => ?_)
    · exact w_X0_wealthiest_38 C hh ih hf hM (lv_sub hl [1, 2, 3, 4, 5] rfl)
    refine lv_iload hx hb dX0_wealthiest_32 (lv_at hl 0 rfl) ?_
    refine lv_istore_n (lv' := [(3, .int r1), (5, .int r1), (0, .ref (B + h)), (1, .int x1), (2, .int x2), (4, .int x4)]) hx hb dX0_wealthiest_34 rfl hl (by decide) rfl (fun ls hl => ?_)
    refine lv_iload hx hb dX0_wealthiest_35 (lv_at hl 5 rfl) ?_
    refine lv_istore_n (lv' := [(2, .int x4), (3, .int r1), (5, .int r1), (0, .ref (B + h)), (1, .int x1), (4, .int x4)]) hx hb dX0_wealthiest_37 rfl hl (by decide) rfl (fun ls hl => ?_)
    exact w_X0_wealthiest_38 C hh ih hf hM (lv_sub hl [3, 4, 0, 1, 5] rfl)
set_option maxHeartbeats 4000000 in
set_option maxRecDepth 100000 in
theorem w_X0_wealthiest_0 (C : wt_C p s m args meth c RX0 cX0_wealthiest 6 (some .int) D tI tII) {F : Nat} {h : Nat} {x1 : Int32} {σ : Mem} {r : Int32} {σ' : Mem} {H : Heap} {locs : List Loc} {ls : Array Slot} (hh : wt_isH h) (hf : f_X0_wealthiest F h x1 σ = some (r, σ')) (hM : wt_St D tI tII B σ s H locs) (hl : lv_has ls 6 [(0, .ref (B + h)), (1, .int x1)]) : W p l e rm_X0_wealthiest s m args below meth c H locs 0 0 (MQ below (wt_Qi D tI tII B r σ') args s 0 0 (fun q => B ≤ q)) (F0 m 0 ls []) := by
  obtain ⟨hx, hb, hts, hown, hml, hr, hlk, hK⟩ := id C
  replace hf := Eq.trans f_X0_wealthiest_e.symm hf
  refine lv_bipush (v := -9) hx hb dX0_wealthiest_0 (by decide) ?_
  refine lv_istore_n (lv' := [(2, .int (-9 : Int32)), (0, .ref (B + h)), (1, .int x1)]) hx hb dX0_wealthiest_2 rfl hl (by decide) rfl (fun ls hl => ?_)
  refine lv_iconst (v := -1) hx hb dX0_wealthiest_3 (by decide) ?_
  refine lv_istore_n (lv' := [(3, .int (-1 : Int32)), (2, .int (-9 : Int32)), (0, .ref (B + h)), (1, .int x1)]) hx hb dX0_wealthiest_4 rfl hl (by decide) rfl (fun ls hl => ?_)
  refine lv_iconst (v := 0) hx hb dX0_wealthiest_5 (by decide) ?_
  refine lv_istore (lv' := [(4, .int (0 : Int32)), (3, .int (-1 : Int32)), (2, .int (-9 : Int32)), (0, .ref (B + h)), (1, .int x1)]) hx hb dX0_wealthiest_6 hl (by decide) rfl (fun ls hl => ?_)
  exact w_X0_wealthiest_8 C hh _ _ _ _ _ _ _ _ hf hM (lv_sub hl [3, 4, 2, 1, 0] rfl)
end
set_option maxHeartbeats 4000000 in
set_option maxRecDepth 100000 in
theorem c_X0_wealthiest {l : Launch} {D : va_G} {tI tII : ClassId} {B F : Nat} {h : Nat} {x1 : Int32} {σ σ' : Mem} {r : Int32} (hh : wt_isH h) (hf : f_X0_wealthiest F h x1 σ = some (r, σ')) : wt_Mi l yX0_wealthiest cX0_wealthiest 6 (some .int) rm_X0_wealthiest [.ref (B + h), .int x1] D tI tII B σ r σ' := by
  refine Met.ofW (cc := cX0_wealthiest) (maxL := 6) (ret := (some .int)) (by decide) rfl ?_
  intro p e s m args below meth c s₁ B9 hml hv
  obtain ⟨rfl, hP, hK⟩ := hv
  have hl := lv_entry ([.ref (B + h), .int x1]) (n := 6) (qz_b rfl)
  rw [lg_entry_eq]
  generalize (lg_sl ([.ref (B + h), .int x1]) ++ List.replicate (6 - (lg_sl ([.ref (B + h), .int x1])).length) Slot.unset).toArray = ls at hl ⊢
  exact w_X0_wealthiest_0 (wt_C_of B9 hml hK) hh hf ⟨hP, va_S.rf⟩ hl
section
variable {p : Program} {l : Launch} {e : Env} {s : State} {m : MethodId} {args : Array Value} {below : List Frame} {meth : Method} {c : Code} {D : va_G} {tI tII : ClassId} {B : Nat}
set_option maxHeartbeats 4000000 in
set_option maxRecDepth 100000 in
theorem w_X0_lead_61 (C : wt_C p s m args meth c RX0 cX0_lead 7 (some .int) D tI tII) {F : Nat} {k6 : Int32 → Int32 → Mem → Option (Int32 × Mem)} {h : Nat} {x1 : Int32} {x2 : Int32} {x3 : Int32} {x4 : Int32} {x5 : Int32} {σ : Mem} {r : Int32} {σ' : Mem} {H : Heap} {locs : List Loc} {ls : Array Slot} (hh : wt_isH h) (hk6 : ∀ (x4 : Int32) (x5 : Int32) (σ : Mem) (H : Heap) (locs : List Loc) (ls : Array Slot), k6 x4 x5 σ = some (r, σ') → wt_St D tI tII B σ s H locs → lv_has ls 7 [(0, .ref (B + h)), (1, .int x1), (2, .int x2), (3, .int x3), (4, .int x4), (5, .int x5)] → W p l e rm_X0_lead s m args below meth c H locs 0 0 (MQ below (wt_Qi D tI tII B r σ') args s 0 0 (fun q => B ≤ q)) (F0 m 6 ls [])) (hf : j_X0_lead_61 F k6 h x1 x2 x3 x4 x5 σ = some (r, σ')) (hM : wt_St D tI tII B σ s H locs) (hl : lv_has ls 7 [(0, .ref (B + h)), (1, .int x1), (2, .int x2), (3, .int x3), (4, .int x4), (5, .int x5)]) : W p l e rm_X0_lead s m args below meth c H locs 0 0 (MQ below (wt_Qi D tI tII B r σ') args s 0 0 (fun q => B ≤ q)) (F0 m 61 ls []) := by
  obtain ⟨hx, hb, hts, hown, hml, hr, hlk, hK⟩ := id C
  replace hf := Eq.trans j_X0_lead_61_e.symm hf
  refine lv_iinc (v := (x5 + (1 : Int32))) (lv' := [(5, .int (x5 + (1 : Int32))), (0, .ref (B + h)), (1, .int x1), (2, .int x2), (3, .int x3), (4, .int x4)]) hx hb dX0_lead_61 hl (k := 5) rfl rfl (by decide) rfl (fun ls hl => ?_)
  refine lv_goto (tgt := 6) hx hb dX0_lead_64 (by decide) ?_
  exact hk6 _ _ _ _ _ _ hf hM (lv_sub hl [1, 2, 3, 4, 5, 0] rfl)
set_option maxHeartbeats 4000000 in
set_option maxRecDepth 100000 in
theorem w_X0_lead_6 (C : wt_C p s m args meth c RX0 cX0_lead 7 (some .int) D tI tII) {F : Nat} {h : Nat} {x1 : Int32} {x2 : Int32} {x3 : Int32} {r : Int32} {σ' : Mem} (hh : wt_isH h) : ∀ (N : Nat) (x4 : Int32) (x5 : Int32) (σ : Mem) (H : Heap) (locs : List Loc) (ls : Array Slot), lp_X0_lead_6 F h x1 x2 x3 N x4 x5 σ = some (r, σ') → wt_St D tI tII B σ s H locs → lv_has ls 7 [(0, .ref (B + h)), (1, .int x1), (2, .int x2), (3, .int x3), (4, .int x4), (5, .int x5)] → W p l e rm_X0_lead s m args below meth c H locs 0 0 (MQ below (wt_Qi D tI tII B r σ') args s 0 0 (fun q => B ≤ q)) (F0 m 6 ls []) := by
  obtain ⟨hx, hb, hts, hown, hml, hr, hlk, hK⟩ := id C
  intro N
  induction N with
  | zero => intro x4 x5 σ H locs ls hf; exact wt_none (show (none : Option (Int32 × Mem)) = some (r, σ') from hf)
  | succ N ih =>
    intro x4 x5 σ H locs ls hf hM hl
    replace hf := Eq.trans lp_X0_lead_6_s.symm hf
    refine lv_iload hx hb dX0_lead_6 (lv_at hl 5 rfl) ?_
    refine lv_bipush (v := 8) hx hb dX0_lead_8 (by decide) ?_
    refine wq_icmp_ge (tgt := 67) hx hb dX0_lead_10 (by decide) hf (fun hf => ?_) (fun hf => ?_)
    · refine lv_iload hx hb dX0_lead_67 (lv_at hl 4 rfl) ?_
      exact wt_iret hx hb hr hlk hK hM hf dX0_lead_69
    refine lv_aload_n hx hb dX0_lead_13 rfl (lv_at hl 0 rfl) ?_
    refine lv_iload hx hb dX0_lead_14 (lv_at hl 5 rfl) ?_
    refine lv_iload_n hx hb dX0_lead_16 rfl (lv_at hl 3 rfl) ?_
    refine wt_callVi (As := [.int x5, .int x3]) (rest := []) hx hb hml hts hown hK hM (wt_rc_X0 hh) cw_X0_109 hd_X0_holder rfl ⟨qz_b rfl, qz_b rfl⟩ ⟨rfl, rfl⟩ hl.1 rfl (qz_b rfl) dX0_lead_17 hf (fun _ _ h9 => c_X0_holder hh h9) (fun r1 s2 H locs hf hM => ?_)
    refine lv_istore (lv' := [(6, .int r1), (0, .ref (B + h)), (1, .int x1), (2, .int x2), (3, .int x3), (4, .int x4), (5, .int x5)]) hx hb dX0_lead_20 hl (by decide) rfl (fun ls hl => ?_)
    refine lv_iload hx hb dX0_lead_22 (lv_at hl 0 rfl) ?_
    refine lv_iload_n hx hb dX0_lead_24 rfl (lv_at hl 2 rfl) ?_
    refine wq_icmp_ne (tgt := 43) hx hb dX0_lead_25 (by decide) hf (fun hf => ?_) (fun hf => ?_)
    · refine lv_iload hx hb dX0_lead_43 (lv_at hl 0 rfl) ?_
      refine lv_iload_n hx hb dX0_lead_45 rfl (lv_at hl 3 rfl) ?_
      refine wq_icmp_ne (tgt := 61) hx hb dX0_lead_46 (by decide) hf (fun hf => ?_) (fun hf => ?_)
      · exact w_X0_lead_61 C hh ih hf hM (lv_sub hl [1, 2, 3, 4, 5, 6] rfl)
      refine lv_iload hx hb dX0_lead_49 (lv_at hl 5 rfl) ?_
      refine lv_aload_n hx hb dX0_lead_51 rfl (lv_at hl 1 rfl) ?_
      refine gf_X0_worths hh hx hb hts hown hK hM tw_40 dX0_lead_52 ?_
      refine lv_iload hx hb dX0_lead_55 (lv_at hl 6 rfl) ?_
      obtain ⟨i3, hf⟩ := wt_chk_of hf
      refine wt_ild hx hb hK hM (wt_aH_16 hh) i3 dX0_lead_57 ?_
      refine lv_isub hx hb dX0_lead_58 ?_
      refine wt_leti hf (fun z4 hf => ?_)
      refine lv_istore (lv' := [(4, .int z4), (6, .int r1), (0, .ref (B + h)), (1, .int x1), (2, .int x2), (3, .int x3), (5, .int x5)]) hx hb dX0_lead_59 hl (by decide) rfl (fun ls hl => ?_)
      exact w_X0_lead_61 C hh ih hf hM (lv_sub hl [2, 3, 4, 5, 0, 6] rfl)
    refine lv_iload hx hb dX0_lead_28 (lv_at hl 5 rfl) ?_
    refine lv_aload_n hx hb dX0_lead_30 rfl (lv_at hl 1 rfl) ?_
    refine gf_X0_worths hh hx hb hts hown hK hM tw_40 dX0_lead_31 ?_
    refine lv_iload hx hb dX0_lead_34 (lv_at hl 6 rfl) ?_
    obtain ⟨i5, hf⟩ := wt_chk_of hf
    refine wt_ild hx hb hK hM (wt_aH_16 hh) i5 dX0_lead_36 ?_
    refine lv_iadd hx hb dX0_lead_37 ?_
    refine wt_leti hf (fun z6 hf => ?_)
    refine lv_istore (lv' := [(4, .int z6), (6, .int r1), (0, .ref (B + h)), (1, .int x1), (2, .int x2), (3, .int x3), (5, .int x5)]) hx hb dX0_lead_38 hl (by decide) rfl (fun ls hl => ?_)
    refine lv_goto (tgt := 61) hx hb dX0_lead_40 (by decide) ?_
    exact w_X0_lead_61 C hh ih hf hM (lv_sub hl [2, 3, 4, 5, 0, 6] rfl)
set_option maxHeartbeats 4000000 in
set_option maxRecDepth 100000 in
theorem w_X0_lead_0 (C : wt_C p s m args meth c RX0 cX0_lead 7 (some .int) D tI tII) {F : Nat} {h : Nat} {x1 : Int32} {x2 : Int32} {x3 : Int32} {σ : Mem} {r : Int32} {σ' : Mem} {H : Heap} {locs : List Loc} {ls : Array Slot} (hh : wt_isH h) (hf : f_X0_lead F h x1 x2 x3 σ = some (r, σ')) (hM : wt_St D tI tII B σ s H locs) (hl : lv_has ls 7 [(0, .ref (B + h)), (1, .int x1), (2, .int x2), (3, .int x3)]) : W p l e rm_X0_lead s m args below meth c H locs 0 0 (MQ below (wt_Qi D tI tII B r σ') args s 0 0 (fun q => B ≤ q)) (F0 m 0 ls []) := by
  obtain ⟨hx, hb, hts, hown, hml, hr, hlk, hK⟩ := id C
  replace hf := Eq.trans f_X0_lead_e.symm hf
  refine lv_iconst (v := 0) hx hb dX0_lead_0 (by decide) ?_
  refine lv_istore (lv' := [(4, .int (0 : Int32)), (0, .ref (B + h)), (1, .int x1), (2, .int x2), (3, .int x3)]) hx hb dX0_lead_1 hl (by decide) rfl (fun ls hl => ?_)
  refine lv_iconst (v := 0) hx hb dX0_lead_3 (by decide) ?_
  refine lv_istore (lv' := [(5, .int (0 : Int32)), (4, .int (0 : Int32)), (0, .ref (B + h)), (1, .int x1), (2, .int x2), (3, .int x3)]) hx hb dX0_lead_4 hl (by decide) rfl (fun ls hl => ?_)
  exact w_X0_lead_6 C hh _ _ _ _ _ _ _ hf hM (lv_sub hl [2, 3, 4, 5, 1, 0] rfl)
end
set_option maxHeartbeats 4000000 in
set_option maxRecDepth 100000 in
theorem c_X0_lead {l : Launch} {D : va_G} {tI tII : ClassId} {B F : Nat} {h : Nat} {x1 : Int32} {x2 : Int32} {x3 : Int32} {σ σ' : Mem} {r : Int32} (hh : wt_isH h) (hf : f_X0_lead F h x1 x2 x3 σ = some (r, σ')) : wt_Mi l yX0_lead cX0_lead 7 (some .int) rm_X0_lead [.ref (B + h), .int x1, .int x2, .int x3] D tI tII B σ r σ' := by
  refine Met.ofW (cc := cX0_lead) (maxL := 7) (ret := (some .int)) (by decide) rfl ?_
  intro p e s m args below meth c s₁ B9 hml hv
  obtain ⟨rfl, hP, hK⟩ := hv
  have hl := lv_entry ([.ref (B + h), .int x1, .int x2, .int x3]) (n := 7) (qz_b rfl)
  rw [lg_entry_eq]
  generalize (lg_sl ([.ref (B + h), .int x1, .int x2, .int x3]) ++ List.replicate (7 - (lg_sl ([.ref (B + h), .int x1, .int x2, .int x3])).length) Slot.unset).toArray = ls at hl ⊢
  exact w_X0_lead_0 (wt_C_of B9 hml hK) hh hf ⟨hP, va_S.rf⟩ hl
section
variable {p : Program} {l : Launch} {e : Env} {s : State} {m : MethodId} {args : Array Value} {below : List Frame} {meth : Method} {c : Code} {D : va_G} {tI tII : ClassId} {B : Nat}
set_option maxHeartbeats 4000000 in
set_option maxRecDepth 100000 in
theorem w_X0_outdo_59 (C : wt_C p s m args meth c RX0 cX0_outdo 7 (some .boolean) D tI tII) {F : Nat} {k22 : Int32 → Mem → Option (Int32 × Mem)} {h : Nat} {x1 : Int32} {x2 : Int32} {x3 : Int32} {x4 : Int32} {x5 : Int32} {x6 : Int32} {σ : Mem} {r : Int32} {σ' : Mem} {H : Heap} {locs : List Loc} {ls : Array Slot} (hh : wt_isH h) (hk22 : ∀ (x6 : Int32) (σ : Mem) (H : Heap) (locs : List Loc) (ls : Array Slot), k22 x6 σ = some (r, σ') → wt_St D tI tII B σ s H locs → lv_has ls 7 [(0, .ref (B + h)), (1, .int x1), (2, .int x2), (3, .int x3), (4, .int x4), (5, .int x5), (6, .int x6)] → W p l e rm_X0_outdo s m args below meth c H locs 0 0 (MQ below (wt_Qi D tI tII B r σ') args s 0 0 (fun q => B ≤ q)) (F0 m 22 ls [])) (hf : j_X0_outdo_59 F k22 h x1 x2 x3 x4 x5 x6 σ = some (r, σ')) (hM : wt_St D tI tII B σ s H locs) (hl : lv_has ls 7 [(0, .ref (B + h)), (1, .int x1), (2, .int x2), (3, .int x3), (4, .int x4), (5, .int x5), (6, .int x6)]) : W p l e rm_X0_outdo s m args below meth c H locs 0 0 (MQ below (wt_Qi D tI tII B r σ') args s 0 0 (fun q => B ≤ q)) (F0 m 59 ls []) := by
  obtain ⟨hx, hb, hts, hown, hml, hr, hlk, hK⟩ := id C
  replace hf := Eq.trans j_X0_outdo_59_e.symm hf
  refine lv_iinc (v := (x6 + (1 : Int32))) (lv' := [(6, .int (x6 + (1 : Int32))), (0, .ref (B + h)), (1, .int x1), (2, .int x2), (3, .int x3), (4, .int x4), (5, .int x5)]) hx hb dX0_outdo_59 hl (k := 6) rfl rfl (by decide) rfl (fun ls hl => ?_)
  refine lv_goto (tgt := 22) hx hb dX0_outdo_62 (by decide) ?_
  exact hk22 _ _ _ _ _ hf hM (lv_sub hl [1, 2, 3, 4, 5, 6, 0] rfl)
set_option maxHeartbeats 4000000 in
set_option maxRecDepth 100000 in
theorem w_X0_outdo_22 (C : wt_C p s m args meth c RX0 cX0_outdo 7 (some .boolean) D tI tII) {F : Nat} {h : Nat} {x1 : Int32} {x2 : Int32} {x3 : Int32} {x4 : Int32} {x5 : Int32} {r : Int32} {σ' : Mem} (hh : wt_isH h) : ∀ (N : Nat) (x6 : Int32) (σ : Mem) (H : Heap) (locs : List Loc) (ls : Array Slot), lp_X0_outdo_22 F h x1 x2 x3 x4 x5 N x6 σ = some (r, σ') → wt_St D tI tII B σ s H locs → lv_has ls 7 [(0, .ref (B + h)), (1, .int x1), (2, .int x2), (3, .int x3), (4, .int x4), (5, .int x5), (6, .int x6)] → W p l e rm_X0_outdo s m args below meth c H locs 0 0 (MQ below (wt_Qi D tI tII B r σ') args s 0 0 (fun q => B ≤ q)) (F0 m 22 ls []) := by
  obtain ⟨hx, hb, hts, hown, hml, hr, hlk, hK⟩ := id C
  intro N
  induction N with
  | zero => intro x6 σ H locs ls hf; exact wt_none (show (none : Option (Int32 × Mem)) = some (r, σ') from hf)
  | succ N ih =>
    intro x6 σ H locs ls hf hM hl
    replace hf := Eq.trans lp_X0_outdo_22_s.symm hf
    refine lv_iload hx hb dX0_outdo_22 (lv_at hl 6 rfl) ?_
    refine lv_aload_n hx hb dX0_outdo_24 rfl (lv_at hl 0 rfl) ?_
    refine gf_X0_lookerCount hh hx hb hts hown hK hM tw_30 dX0_outdo_25 ?_
    refine wq_icmp_ge (tgt := 65) hx hb dX0_outdo_28 (by decide) hf (fun hf => ?_) (fun hf => ?_)
    · refine lv_iconst (v := 1) hx hb dX0_outdo_65 (by decide) ?_
      exact wt_zret hx hb hr hlk hK hM (by decide) hf dX0_outdo_66
    refine lv_iload hx hb dX0_outdo_31 (lv_at hl 6 rfl) ?_
    refine lv_iload_n hx hb dX0_outdo_33 rfl (lv_at hl 1 rfl) ?_
    refine wq_icmp_eq (tgt := 59) hx hb dX0_outdo_34 (by decide) hf (fun hf => ?_) (fun hf => ?_)
    · exact w_X0_outdo_59 C hh ih hf hM hl
    refine lv_iload hx hb dX0_outdo_37 (lv_at hl 6 rfl) ?_
    refine lv_iload_n hx hb dX0_outdo_39 rfl (lv_at hl 2 rfl) ?_
    refine wq_icmp_eq (tgt := 59) hx hb dX0_outdo_40 (by decide) hf (fun hf => ?_) (fun hf => ?_)
    · exact w_X0_outdo_59 C hh ih hf hM hl
    refine lv_aload_n hx hb dX0_outdo_43 rfl (lv_at hl 0 rfl) ?_
    refine lv_iload hx hb dX0_outdo_44 (lv_at hl 6 rfl) ?_
    refine lv_iload_n hx hb dX0_outdo_46 rfl (lv_at hl 3 rfl) ?_
    refine lv_iload hx hb dX0_outdo_47 (lv_at hl 4 rfl) ?_
    refine wt_callVi (As := [.int x6, .int x3, .int x4]) (rest := []) hx hb hml hts hown hK hM (wt_rc_X0 hh) cw_X0_70 hd_X0_behind rfl ⟨qz_b rfl, qz_b rfl⟩ ⟨rfl, rfl⟩ hl.1 rfl (qz_b rfl) dX0_outdo_49 hf (fun _ _ h9 => c_X0_behind hh h9) (fun r1 s2 H locs hf hM => ?_)
    refine lv_iload hx hb dX0_outdo_52 (lv_at hl 5 rfl) ?_
    refine wq_icmp_lt (tgt := 59) hx hb dX0_outdo_54 (by decide) hf (fun hf => ?_) (fun hf => ?_)
    · exact w_X0_outdo_59 C hh ih hf hM hl
    refine lv_iconst (v := 0) hx hb dX0_outdo_57 (by decide) ?_
    exact wt_zret hx hb hr hlk hK hM (by decide) hf dX0_outdo_58
set_option maxHeartbeats 4000000 in
set_option maxRecDepth 100000 in
theorem w_X0_outdo_0 (C : wt_C p s m args meth c RX0 cX0_outdo 7 (some .boolean) D tI tII) {F : Nat} {h : Nat} {x1 : Int32} {x2 : Int32} {x3 : Int32} {x4 : Int32} {σ : Mem} {r : Int32} {σ' : Mem} {H : Heap} {locs : List Loc} {ls : Array Slot} (hh : wt_isH h) (hf : f_X0_outdo F h x1 x2 x3 x4 σ = some (r, σ')) (hM : wt_St D tI tII B σ s H locs) (hl : lv_has ls 7 [(0, .ref (B + h)), (1, .int x1), (2, .int x2), (3, .int x3), (4, .int x4)]) : W p l e rm_X0_outdo s m args below meth c H locs 0 0 (MQ below (wt_Qi D tI tII B r σ') args s 0 0 (fun q => B ≤ q)) (F0 m 0 ls []) := by
  obtain ⟨hx, hb, hts, hown, hml, hr, hlk, hK⟩ := id C
  replace hf := Eq.trans f_X0_outdo_e.symm hf
  refine lv_aload_n hx hb dX0_outdo_0 rfl (lv_at hl 0 rfl) ?_
  refine lv_iload_n hx hb dX0_outdo_1 rfl (lv_at hl 1 rfl) ?_
  refine lv_iload_n hx hb dX0_outdo_2 rfl (lv_at hl 3 rfl) ?_
  refine lv_iload hx hb dX0_outdo_3 (lv_at hl 4 rfl) ?_
  refine wt_callVi (As := [.int x1, .int x3, .int x4]) (rest := []) hx hb hml hts hown hK hM (wt_rc_X0 hh) cw_X0_70 hd_X0_behind rfl ⟨qz_b rfl, qz_b rfl⟩ ⟨rfl, rfl⟩ hl.1 rfl (qz_b rfl) dX0_outdo_5 hf (fun _ _ h9 => c_X0_behind hh h9) (fun r3 s4 H locs hf hM => ?_)
  refine lv_aload_n hx hb dX0_outdo_8 rfl (lv_at hl 0 rfl) ?_
  refine lv_iload_n hx hb dX0_outdo_9 rfl (lv_at hl 2 rfl) ?_
  refine lv_iload_n hx hb dX0_outdo_10 rfl (lv_at hl 3 rfl) ?_
  refine lv_iload hx hb dX0_outdo_11 (lv_at hl 4 rfl) ?_
  refine wt_callVi (As := [.int x2, .int x3, .int x4]) (rest := [.int r3]) hx hb hml hts hown hK hM (wt_rc_X0 hh) cw_X0_70 hd_X0_behind rfl ⟨qz_b rfl, qz_b rfl⟩ ⟨rfl, rfl⟩ hl.1 rfl (qz_b rfl) dX0_outdo_13 hf (fun _ _ h9 => c_X0_behind hh h9) (fun r5 s6 H locs hf hM => ?_)
  refine lv_iadd hx hb dX0_outdo_16 ?_
  refine lv_istore (lv' := [(5, .int (r3 + r5)), (0, .ref (B + h)), (1, .int x1), (2, .int x2), (3, .int x3), (4, .int x4)]) hx hb dX0_outdo_17 hl (by decide) rfl (fun ls hl => ?_)
  refine lv_iconst (v := 0) hx hb dX0_outdo_19 (by decide) ?_
  refine lv_istore (lv' := [(6, .int (0 : Int32)), (5, .int (r3 + r5)), (0, .ref (B + h)), (1, .int x1), (2, .int x2), (3, .int x3), (4, .int x4)]) hx hb dX0_outdo_20 hl (by decide) rfl (fun ls hl => ?_)
  exact w_X0_outdo_22 C hh _ _ _ _ _ _ hf hM (lv_sub hl [2, 3, 4, 5, 6, 1, 0] rfl)
end
set_option maxHeartbeats 4000000 in
set_option maxRecDepth 100000 in
theorem c_X0_outdo {l : Launch} {D : va_G} {tI tII : ClassId} {B F : Nat} {h : Nat} {x1 : Int32} {x2 : Int32} {x3 : Int32} {x4 : Int32} {σ σ' : Mem} {r : Int32} (hh : wt_isH h) (hf : f_X0_outdo F h x1 x2 x3 x4 σ = some (r, σ')) : wt_Mi l yX0_outdo cX0_outdo 7 (some .boolean) rm_X0_outdo [.ref (B + h), .int x1, .int x2, .int x3, .int x4] D tI tII B σ r σ' := by
  refine Met.ofW (cc := cX0_outdo) (maxL := 7) (ret := (some .boolean)) (by decide) rfl ?_
  intro p e s m args below meth c s₁ B9 hml hv
  obtain ⟨rfl, hP, hK⟩ := hv
  have hl := lv_entry ([.ref (B + h), .int x1, .int x2, .int x3, .int x4]) (n := 7) (qz_b rfl)
  rw [lg_entry_eq]
  generalize (lg_sl ([.ref (B + h), .int x1, .int x2, .int x3, .int x4]) ++ List.replicate (7 - (lg_sl ([.ref (B + h), .int x1, .int x2, .int x3, .int x4])).length) Slot.unset).toArray = ls at hl ⊢
  exact w_X0_outdo_0 (wt_C_of B9 hml hK) hh hf ⟨hP, va_S.rf⟩ hl
section
variable {p : Program} {l : Launch} {e : Env} {s : State} {m : MethodId} {args : Array Value} {below : List Frame} {meth : Method} {c : Code} {D : va_G} {tI tII : ClassId} {B : Nat}
set_option maxHeartbeats 4000000 in
set_option maxRecDepth 100000 in
theorem w_X0_placeOf_58 (C : wt_C p s m args meth c RX0 cX0_placeOf 7 (some .int) D tI tII) {F : Nat} {k15 : Int32 → Int32 → Mem → Option (Int32 × Mem)} {h : Nat} {x1 : Int32} {x2 : Int32} {x3 : Int32} {x4 : Int32} {x5 : Int32} {σ : Mem} {r : Int32} {σ' : Mem} {H : Heap} {locs : List Loc} {ls : Array Slot} (hh : wt_isH h) (hk15 : ∀ (x3 : Int32) (x5 : Int32) (σ : Mem) (H : Heap) (locs : List Loc) (ls : Array Slot), k15 x3 x5 σ = some (r, σ') → wt_St D tI tII B σ s H locs → lv_has ls 7 [(0, .ref (B + h)), (1, .int x1), (2, .int x2), (3, .int x3), (4, .int x4), (5, .int x5)] → W p l e rm_X0_placeOf s m args below meth c H locs 0 0 (MQ below (wt_Qi D tI tII B r σ') args s 0 0 (fun q => B ≤ q)) (F0 m 15 ls [])) (hf : j_X0_placeOf_58 F k15 h x1 x2 x3 x4 x5 σ = some (r, σ')) (hM : wt_St D tI tII B σ s H locs) (hl : lv_has ls 7 [(0, .ref (B + h)), (1, .int x1), (2, .int x2), (3, .int x3), (4, .int x4), (5, .int x5)]) : W p l e rm_X0_placeOf s m args below meth c H locs 0 0 (MQ below (wt_Qi D tI tII B r σ') args s 0 0 (fun q => B ≤ q)) (F0 m 58 ls []) := by
  obtain ⟨hx, hb, hts, hown, hml, hr, hlk, hK⟩ := id C
  replace hf := Eq.trans j_X0_placeOf_58_e.symm hf
  refine lv_iinc (v := (x5 + (1 : Int32))) (lv' := [(5, .int (x5 + (1 : Int32))), (0, .ref (B + h)), (1, .int x1), (2, .int x2), (3, .int x3), (4, .int x4)]) hx hb dX0_placeOf_58 hl (k := 5) rfl rfl (by decide) rfl (fun ls hl => ?_)
  refine lv_goto (tgt := 15) hx hb dX0_placeOf_61 (by decide) ?_
  exact hk15 _ _ _ _ _ _ hf hM (lv_sub hl [1, 2, 3, 4, 5, 0] rfl)
set_option maxHeartbeats 4000000 in
set_option maxRecDepth 100000 in
theorem w_X0_placeOf_55 (C : wt_C p s m args meth c RX0 cX0_placeOf 7 (some .int) D tI tII) {F : Nat} {k15 : Int32 → Int32 → Mem → Option (Int32 × Mem)} {h : Nat} {x1 : Int32} {x2 : Int32} {x3 : Int32} {x4 : Int32} {x5 : Int32} {σ : Mem} {r : Int32} {σ' : Mem} {H : Heap} {locs : List Loc} {ls : Array Slot} (hh : wt_isH h) (hk15 : ∀ (x3 : Int32) (x5 : Int32) (σ : Mem) (H : Heap) (locs : List Loc) (ls : Array Slot), k15 x3 x5 σ = some (r, σ') → wt_St D tI tII B σ s H locs → lv_has ls 7 [(0, .ref (B + h)), (1, .int x1), (2, .int x2), (3, .int x3), (4, .int x4), (5, .int x5)] → W p l e rm_X0_placeOf s m args below meth c H locs 0 0 (MQ below (wt_Qi D tI tII B r σ') args s 0 0 (fun q => B ≤ q)) (F0 m 15 ls [])) (hf : j_X0_placeOf_55 F k15 h x1 x2 x3 x4 x5 σ = some (r, σ')) (hM : wt_St D tI tII B σ s H locs) (hl : lv_has ls 7 [(0, .ref (B + h)), (1, .int x1), (2, .int x2), (3, .int x3), (4, .int x4), (5, .int x5)]) : W p l e rm_X0_placeOf s m args below meth c H locs 0 0 (MQ below (wt_Qi D tI tII B r σ') args s 0 0 (fun q => B ≤ q)) (F0 m 55 ls []) := by
  obtain ⟨hx, hb, hts, hown, hml, hr, hlk, hK⟩ := id C
  replace hf := Eq.trans j_X0_placeOf_55_e.symm hf
  refine lv_iinc (v := (x3 + (1 : Int32))) (lv' := [(3, .int (x3 + (1 : Int32))), (0, .ref (B + h)), (1, .int x1), (2, .int x2), (4, .int x4), (5, .int x5)]) hx hb dX0_placeOf_55 hl (k := 3) rfl rfl (by decide) rfl (fun ls hl => ?_)
  exact w_X0_placeOf_58 C hh hk15 hf hM (lv_sub hl [1, 2, 3, 0, 4, 5] rfl)
set_option maxHeartbeats 4000000 in
set_option maxRecDepth 100000 in
theorem w_X0_placeOf_15 (C : wt_C p s m args meth c RX0 cX0_placeOf 7 (some .int) D tI tII) {F : Nat} {h : Nat} {x1 : Int32} {x2 : Int32} {x4 : Int32} {r : Int32} {σ' : Mem} (hh : wt_isH h) : ∀ (N : Nat) (x3 : Int32) (x5 : Int32) (σ : Mem) (H : Heap) (locs : List Loc) (ls : Array Slot), lp_X0_placeOf_15 F h x1 x2 x4 N x3 x5 σ = some (r, σ') → wt_St D tI tII B σ s H locs → lv_has ls 7 [(0, .ref (B + h)), (1, .int x1), (2, .int x2), (3, .int x3), (4, .int x4), (5, .int x5)] → W p l e rm_X0_placeOf s m args below meth c H locs 0 0 (MQ below (wt_Qi D tI tII B r σ') args s 0 0 (fun q => B ≤ q)) (F0 m 15 ls []) := by
  obtain ⟨hx, hb, hts, hown, hml, hr, hlk, hK⟩ := id C
  intro N
  induction N with
  | zero => intro x3 x5 σ H locs ls hf; exact wt_none (show (none : Option (Int32 × Mem)) = some (r, σ') from hf)
  | succ N ih =>
    intro x3 x5 σ H locs ls hf hM hl
    replace hf := Eq.trans lp_X0_placeOf_15_s.symm hf
    refine lv_iload hx hb dX0_placeOf_15 (lv_at hl 5 rfl) ?_
    refine lv_aload_n hx hb dX0_placeOf_17 rfl (lv_at hl 0 rfl) ?_
    refine gf_X0_lookerCount hh hx hb hts hown hK hM tw_30 dX0_placeOf_18 ?_
    refine wq_icmp_ge (tgt := 64) hx hb dX0_placeOf_21 (by decide) hf (fun hf => ?_) (fun hf => ?_)
    · refine lv_iload_n hx hb dX0_placeOf_64 rfl (lv_at hl 3 rfl) ?_
      exact wt_iret hx hb hr hlk hK hM hf dX0_placeOf_65
    refine lv_aload_n hx hb dX0_placeOf_24 rfl (lv_at hl 0 rfl) ?_
    refine gf_X0_counts hh hx hb hts hown hK hM tw_38 dX0_placeOf_25 ?_
    refine lv_iload hx hb dX0_placeOf_28 (lv_at hl 5 rfl) ?_
    obtain ⟨i1, hf⟩ := wt_chk_of hf
    refine wt_ald hx hb hK hM (wt_aaH_10 hh) i1 dX0_placeOf_30 ?_
    refine lv_iload_n hx hb dX0_placeOf_31 rfl (lv_at hl 2 rfl) ?_
    obtain ⟨i2, hf⟩ := wt_chk_of hf
    refine wt_ild hx hb hK hM (wt_rH_10 hh i1) i2 dX0_placeOf_32 ?_
    refine wt_leti hf (fun z3 hf => ?_)
    refine lv_istore (lv' := [(6, .int z3), (0, .ref (B + h)), (1, .int x1), (2, .int x2), (3, .int x3), (4, .int x4), (5, .int x5)]) hx hb dX0_placeOf_33 hl (by decide) rfl (fun ls hl => ?_)
    refine lv_iload hx hb dX0_placeOf_35 (lv_at hl 0 rfl) ?_
    refine lv_iload hx hb dX0_placeOf_37 (lv_at hl 5 rfl) ?_
    refine wq_icmp_gt (tgt := 55) hx hb dX0_placeOf_39 (by decide) hf (fun hf => ?_) (fun hf => ?_)
    · exact w_X0_placeOf_55 C hh ih hf hM (lv_sub hl [1, 2, 3, 4, 5, 6] rfl)
    refine lv_iload hx hb dX0_placeOf_42 (lv_at hl 0 rfl) ?_
    refine lv_iload hx hb dX0_placeOf_44 (lv_at hl 5 rfl) ?_
    refine wq_icmp_ne (tgt := 58) hx hb dX0_placeOf_46 (by decide) hf (fun hf => ?_) (fun hf => ?_)
    · exact w_X0_placeOf_58 C hh ih hf hM (lv_sub hl [1, 2, 3, 4, 5, 6] rfl)
    refine lv_iload hx hb dX0_placeOf_49 (lv_at hl 6 rfl) ?_
    refine lv_iload_n hx hb dX0_placeOf_51 rfl (lv_at hl 2 rfl) ?_
    refine wq_icmp_ge (tgt := 58) hx hb dX0_placeOf_52 (by decide) hf (fun hf => ?_) (fun hf => ?_)
    · exact w_X0_placeOf_58 C hh ih hf hM (lv_sub hl [1, 2, 3, 4, 5, 6] rfl)
    exact w_X0_placeOf_55 C hh ih hf hM (lv_sub hl [1, 2, 3, 4, 5, 6] rfl)
set_option maxHeartbeats 4000000 in
set_option maxRecDepth 100000 in
theorem w_X0_placeOf_0 (C : wt_C p s m args meth c RX0 cX0_placeOf 7 (some .int) D tI tII) {F : Nat} {h : Nat} {x1 : Int32} {x2 : Int32} {σ : Mem} {r : Int32} {σ' : Mem} {H : Heap} {locs : List Loc} {ls : Array Slot} (hh : wt_isH h) (hf : f_X0_placeOf F h x1 x2 σ = some (r, σ')) (hM : wt_St D tI tII B σ s H locs) (hl : lv_has ls 7 [(0, .ref (B + h)), (1, .int x1), (2, .int x2)]) : W p l e rm_X0_placeOf s m args below meth c H locs 0 0 (MQ below (wt_Qi D tI tII B r σ') args s 0 0 (fun q => B ≤ q)) (F0 m 0 ls []) := by
  obtain ⟨hx, hb, hts, hown, hml, hr, hlk, hK⟩ := id C
  replace hf := Eq.trans f_X0_placeOf_e.symm hf
  refine lv_iconst (v := 0) hx hb dX0_placeOf_0 (by decide) ?_
  refine lv_istore_n (lv' := [(3, .int (0 : Int32)), (0, .ref (B + h)), (1, .int x1), (2, .int x2)]) hx hb dX0_placeOf_1 rfl hl (by decide) rfl (fun ls hl => ?_)
  refine lv_aload_n hx hb dX0_placeOf_2 rfl (lv_at hl 1 rfl) ?_
  refine gf_X0_counts hh hx hb hts hown hK hM tw_38 dX0_placeOf_3 ?_
  refine lv_iload_n hx hb dX0_placeOf_6 rfl (lv_at hl 2 rfl) ?_
  obtain ⟨i4, hf⟩ := wt_chk_of hf
  refine wt_ald hx hb hK hM (wt_aaH_10 hh) i4 dX0_placeOf_7 ?_
  refine lv_iload_n hx hb dX0_placeOf_8 rfl (lv_at hl 3 rfl) ?_
  obtain ⟨i5, hf⟩ := wt_chk_of hf
  refine wt_ild hx hb hK hM (wt_rH_10 hh i4) i5 dX0_placeOf_9 ?_
  refine wt_leti hf (fun z6 hf => ?_)
  refine lv_istore (lv' := [(4, .int z6), (3, .int (0 : Int32)), (0, .ref (B + h)), (1, .int x1), (2, .int x2)]) hx hb dX0_placeOf_10 hl (by decide) rfl (fun ls hl => ?_)
  refine lv_iconst (v := 0) hx hb dX0_placeOf_12 (by decide) ?_
  refine lv_istore (lv' := [(5, .int (0 : Int32)), (4, .int z6), (3, .int (0 : Int32)), (0, .ref (B + h)), (1, .int x1), (2, .int x2)]) hx hb dX0_placeOf_13 hl (by decide) rfl (fun ls hl => ?_)
  exact w_X0_placeOf_15 C hh _ _ _ _ _ _ _ hf hM (lv_sub hl [3, 4, 5, 2, 1, 0] rfl)
end
set_option maxHeartbeats 4000000 in
set_option maxRecDepth 100000 in
theorem c_X0_placeOf {l : Launch} {D : va_G} {tI tII : ClassId} {B F : Nat} {h : Nat} {x1 : Int32} {x2 : Int32} {σ σ' : Mem} {r : Int32} (hh : wt_isH h) (hf : f_X0_placeOf F h x1 x2 σ = some (r, σ')) : wt_Mi l yX0_placeOf cX0_placeOf 7 (some .int) rm_X0_placeOf [.ref (B + h), .int x1, .int x2] D tI tII B σ r σ' := by
  refine Met.ofW (cc := cX0_placeOf) (maxL := 7) (ret := (some .int)) (by decide) rfl ?_
  intro p e s m args below meth c s₁ B9 hml hv
  obtain ⟨rfl, hP, hK⟩ := hv
  have hl := lv_entry ([.ref (B + h), .int x1, .int x2]) (n := 7) (qz_b rfl)
  rw [lg_entry_eq]
  generalize (lg_sl ([.ref (B + h), .int x1, .int x2]) ++ List.replicate (7 - (lg_sl ([.ref (B + h), .int x1, .int x2])).length) Slot.unset).toArray = ls at hl ⊢
  exact w_X0_placeOf_0 (wt_C_of B9 hml hK) hh hf ⟨hP, va_S.rf⟩ hl
section
variable {p : Program} {l : Launch} {e : Env} {s : State} {m : MethodId} {args : Array Value} {below : List Frame} {meth : Method} {c : Code} {D : va_G} {tI tII : ClassId} {B : Nat}
set_option maxHeartbeats 4000000 in
set_option maxRecDepth 100000 in
theorem w_X1_add_0 (C : wt_C p s m args meth c RX1 cX1_add 2 none D tI tII) {F : Nat} {x1 : Int32} {σ : Mem} {σ' : Mem} {H : Heap} {locs : List Loc} {ls : Array Slot} (hf : f_X1_add F x1 σ = some ((), σ')) (hM : wt_St D tI tII B σ s H locs) (hl : lv_has ls 2 [(0, .ref (B + 83)), (1, .int x1)]) : W p l e rm_X1_add s m args below meth c H locs 0 0 (MQ below (wt_Qv D tI tII B σ') args s 0 0 (fun q => B ≤ q)) (F0 m 0 ls []) := by
  obtain ⟨hx, hb, hts, hown, hml, hr, hlk, hK⟩ := id C
  replace hf := Eq.trans f_X1_add_e.symm hf
  refine lv_aload_n hx hb dX1_add_0 rfl (lv_at hl 0 rfl) ?_
  refine gf_X1_size  hx hb hts hown hK hM tw_106 dX1_add_1 ?_
  refine wq_if_lt (tgt := 36) hx hb dX1_add_4 (by decide) hf (fun hf => ?_) (fun hf => ?_)
  · exact wt_vret hx hb hr hlk hK hM hf dX1_add_36
  refine lv_aload_n hx hb dX1_add_7 rfl (lv_at hl 0 rfl) ?_
  refine gf_X1_size  hx hb hts hown hK hM tw_106 dX1_add_8 ?_
  refine lv_bipush (v := 96) hx hb dX1_add_11 (by decide) ?_
  refine wq_icmp_ge (tgt := 36) hx hb dX1_add_13 (by decide) hf (fun hf => ?_) (fun hf => ?_)
  · exact wt_vret hx hb hr hlk hK hM hf dX1_add_36
  refine lv_aload_n hx hb dX1_add_16 rfl (lv_at hl 0 rfl) ?_
  refine gf_X1_signs  hx hb hts hown hK hM tw_105 dX1_add_17 ?_
  refine lv_aload_n hx hb dX1_add_20 rfl (lv_at hl 0 rfl) ?_
  refine gf_X1_size  hx hb hts hown hK hM tw_106 dX1_add_21 ?_
  refine lv_iload_n hx hb dX1_add_24 rfl (lv_at hl 1 rfl) ?_
  obtain ⟨i1, hf⟩ := wt_chk_of hf
  refine wt_ist hx hb hK hM wt_a84 i1 dX1_add_25 hf (fun s2 H locs hf hM => ?_)
  refine lv_aload_n hx hb dX1_add_26 rfl (lv_at hl 0 rfl) ?_
  refine lv_dup hx hb dX1_add_27 rfl ?_
  refine gf_X1_size  hx hb hts hown hK hM tw_106 dX1_add_28 ?_
  refine lv_iconst (v := 1) hx hb dX1_add_31 (by decide) ?_
  refine lv_iadd hx hb dX1_add_32 ?_
  refine pf_X1_size  hx hb hts hown hK hM tw_106 dX1_add_33 hf (fun s3 H locs hf hM => ?_)
  exact wt_vret hx hb hr hlk hK hM hf dX1_add_36
end
set_option maxHeartbeats 4000000 in
set_option maxRecDepth 100000 in
theorem c_X1_add {l : Launch} {D : va_G} {tI tII : ClassId} {B F : Nat} {x1 : Int32} {σ σ' : Mem} (hf : f_X1_add F x1 σ = some ((), σ')) : wt_Mv l yX1_add cX1_add 2 none rm_X1_add [.ref (B + 83), .int x1] D tI tII B σ σ' := by
  refine Met.ofW (cc := cX1_add) (maxL := 2) (ret := none) (by decide) rfl ?_
  intro p e s m args below meth c s₁ B9 hml hv
  obtain ⟨rfl, hP, hK⟩ := hv
  have hl := lv_entry ([.ref (B + 83), .int x1]) (n := 2) (qz_b rfl)
  rw [lg_entry_eq]
  generalize (lg_sl ([.ref (B + 83), .int x1]) ++ List.replicate (2 - (lg_sl ([.ref (B + 83), .int x1])).length) Slot.unset).toArray = ls at hl ⊢
  exact w_X1_add_0 (wt_C_of B9 hml hK) hf ⟨hP, va_S.rf⟩ hl
section
variable {p : Program} {l : Launch} {e : Env} {s : State} {m : MethodId} {args : Array Value} {below : List Frame} {meth : Method} {c : Code} {D : va_G} {tI tII : ClassId} {B : Nat}
set_option maxHeartbeats 4000000 in
set_option maxRecDepth 100000 in
theorem w_X1_digitsOf_0 (C : wt_C p s m args meth c RX1 cX1_digitsOf 1 (some .int) D tI tII) {F : Nat} {x0 : Int32} {σ : Mem} {r : Int32} {σ' : Mem} {H : Heap} {locs : List Loc} {ls : Array Slot} (hf : f_X1_digitsOf F x0 σ = some (r, σ')) (hM : wt_St D tI tII B σ s H locs) (hl : lv_has ls 1 [(0, .int x0)]) : W p l e rm_X1_digitsOf s m args below meth c H locs 0 0 (MQ below (wt_Qi D tI tII B r σ') args s 0 0 (fun q => B ≤ q)) (F0 m 0 ls []) := by
  obtain ⟨hx, hb, hts, hown, hml, hr, hlk, hK⟩ := id C
  replace hf := Eq.trans f_X1_digitsOf_e.symm hf
  refine lv_iload_n hx hb dX1_digitsOf_0 rfl (lv_at hl 0 rfl) ?_
  refine wq_key hf (fun e9 hf => ?_) (fun n1_100 hf => ?_)
  · refine lv_tableIn (off := 100) (tgt := 101) hx hb dX1_digitsOf_1 (by rw [e9]; decide) (by rw [e9]; decide) (by rw [e9]; rfl) (by decide) ?_
    refine lv_iconst (v := 2) hx hb dX1_digitsOf_101 (by decide) ?_
    exact wt_iret hx hb hr hlk hK hM hf dX1_digitsOf_102
  refine wq_key hf (fun e9 hf => ?_) (fun n1_108 hf => ?_)
  · refine lv_tableIn (off := 100) (tgt := 101) hx hb dX1_digitsOf_1 (by rw [e9]; decide) (by rw [e9]; decide) (by rw [e9]; rfl) (by decide) ?_
    refine lv_iconst (v := 2) hx hb dX1_digitsOf_101 (by decide) ?_
    exact wt_iret hx hb hr hlk hK hM hf dX1_digitsOf_102
  refine wq_key hf (fun e9 hf => ?_) (fun n1_112 hf => ?_)
  · refine lv_tableIn (off := 95) (tgt := 96) hx hb dX1_digitsOf_1 (by rw [e9]; decide) (by rw [e9]; decide) (by rw [e9]; rfl) (by decide) ?_
    refine lv_iconst (v := 3) hx hb dX1_digitsOf_96 (by decide) ?_
    exact wt_iret hx hb hr hlk hK hM hf dX1_digitsOf_97
  refine wq_key hf (fun e9 hf => ?_) (fun n1_115 hf => ?_)
  · refine lv_tableIn (off := 97) (tgt := 98) hx hb dX1_digitsOf_1 (by rw [e9]; decide) (by rw [e9]; decide) (by rw [e9]; rfl) (by decide) ?_
    refine lv_bipush (v := 6) hx hb dX1_digitsOf_98 (by decide) ?_
    exact wt_iret hx hb hr hlk hK hM hf dX1_digitsOf_100
  refine wq_key hf (fun e9 hf => ?_) (fun n1_117 hf => ?_)
  · refine lv_tableIn (off := 102) (tgt := 103) hx hb dX1_digitsOf_1 (by rw [e9]; decide) (by rw [e9]; decide) (by rw [e9]; rfl) (by decide) ?_
    refine lv_iconst (v := 1) hx hb dX1_digitsOf_103 (by decide) ?_
    exact wt_iret hx hb hr hlk hK hM hf dX1_digitsOf_104
  refine wq_key hf (fun e9 hf => ?_) (fun n1_118 hf => ?_)
  · refine lv_tableIn (off := 100) (tgt := 101) hx hb dX1_digitsOf_1 (by rw [e9]; decide) (by rw [e9]; decide) (by rw [e9]; rfl) (by decide) ?_
    refine lv_iconst (v := 2) hx hb dX1_digitsOf_101 (by decide) ?_
    exact wt_iret hx hb hr hlk hK hM hf dX1_digitsOf_102
  refine wq_key hf (fun e9 hf => ?_) (fun n1_119 hf => ?_)
  · refine lv_tableIn (off := 100) (tgt := 101) hx hb dX1_digitsOf_1 (by rw [e9]; decide) (by rw [e9]; decide) (by rw [e9]; rfl) (by decide) ?_
    refine lv_iconst (v := 2) hx hb dX1_digitsOf_101 (by decide) ?_
    exact wt_iret hx hb hr hlk hK hM hf dX1_digitsOf_102
  refine wq_tableD (ks := [(100 : Int32), (108 : Int32), (112 : Int32), (115 : Int32), (117 : Int32), (118 : Int32), (119 : Int32)]) (tgt := 105) hx hb dX1_digitsOf_1 (List.forall_mem_cons.mpr ⟨n1_100, List.forall_mem_cons.mpr ⟨n1_108, List.forall_mem_cons.mpr ⟨n1_112, List.forall_mem_cons.mpr ⟨n1_115, List.forall_mem_cons.mpr ⟨n1_117, List.forall_mem_cons.mpr ⟨n1_118, List.forall_mem_cons.mpr ⟨n1_119, fun _ h9 => absurd h9 List.not_mem_nil⟩⟩⟩⟩⟩⟩⟩) (by decide) (by decide) ?_
  refine lv_bipush (v := -9) hx hb dX1_digitsOf_105 (by decide) ?_
  exact wt_iret hx hb hr hlk hK hM hf dX1_digitsOf_107
end
set_option maxHeartbeats 4000000 in
set_option maxRecDepth 100000 in
theorem c_X1_digitsOf {l : Launch} {D : va_G} {tI tII : ClassId} {B F : Nat} {x0 : Int32} {σ σ' : Mem} {r : Int32} (hf : f_X1_digitsOf F x0 σ = some (r, σ')) : wt_Mi l yX1_digitsOf cX1_digitsOf 1 (some .int) rm_X1_digitsOf [.int x0] D tI tII B σ r σ' := by
  refine Met.ofW (cc := cX1_digitsOf) (maxL := 1) (ret := (some .int)) (by decide) rfl ?_
  intro p e s m args below meth c s₁ B9 hml hv
  obtain ⟨rfl, hP, hK⟩ := hv
  have hl := lv_entry ([.int x0]) (n := 1) (qz_b rfl)
  rw [lg_entry_eq]
  generalize (lg_sl ([.int x0]) ++ List.replicate (1 - (lg_sl ([.int x0])).length) Slot.unset).toArray = ls at hl ⊢
  exact w_X1_digitsOf_0 (wt_C_of B9 hml hK) hf ⟨hP, va_S.rf⟩ hl
section
variable {p : Program} {l : Launch} {e : Env} {s : State} {m : MethodId} {args : Array Value} {below : List Frame} {meth : Method} {c : Code} {D : va_G} {tI tII : ClassId} {B : Nat}
set_option maxHeartbeats 4000000 in
set_option maxRecDepth 100000 in
theorem w_X1_isDigit_38 (C : wt_C p s m args meth c RX1 cX1_isDigit 2 (some .boolean) D tI tII) {F : Nat} {σ : Mem} {r : Int32} {σ' : Mem} {H : Heap} {locs : List Loc} {ls : Array Slot} (hf : j_X1_isDigit_38 F σ = some (r, σ')) (hM : wt_St D tI tII B σ s H locs) (hl : lv_has ls 2 []) : W p l e rm_X1_isDigit s m args below meth c H locs 0 0 (MQ below (wt_Qi D tI tII B r σ') args s 0 0 (fun q => B ≤ q)) (F0 m 38 ls []) := by
  obtain ⟨hx, hb, hts, hown, hml, hr, hlk, hK⟩ := id C
  replace hf := Eq.trans j_X1_isDigit_38_e.symm hf
  refine lv_iconst (v := 0) hx hb dX1_isDigit_38 (by decide) ?_
  exact wt_zret hx hb hr hlk hK hM (by decide) hf dX1_isDigit_39
set_option maxHeartbeats 4000000 in
set_option maxRecDepth 100000 in
theorem w_X1_isDigit_0 (C : wt_C p s m args meth c RX1 cX1_isDigit 2 (some .boolean) D tI tII) {F : Nat} {x1 : Int32} {σ : Mem} {r : Int32} {σ' : Mem} {H : Heap} {locs : List Loc} {ls : Array Slot} (hf : f_X1_isDigit F x1 σ = some (r, σ')) (hM : wt_St D tI tII B σ s H locs) (hl : lv_has ls 2 [(0, .ref (B + 83)), (1, .int x1)]) : W p l e rm_X1_isDigit s m args below meth c H locs 0 0 (MQ below (wt_Qi D tI tII B r σ') args s 0 0 (fun q => B ≤ q)) (F0 m 0 ls []) := by
  obtain ⟨hx, hb, hts, hown, hml, hr, hlk, hK⟩ := id C
  replace hf := Eq.trans f_X1_isDigit_e.symm hf
  refine lv_iload_n hx hb dX1_isDigit_0 rfl (lv_at hl 1 rfl) ?_
  refine wq_if_lt (tgt := 38) hx hb dX1_isDigit_1 (by decide) hf (fun hf => ?_) (fun hf => ?_)
  · exact w_X1_isDigit_38 C hf hM (lv_sub hl [] rfl)
  refine lv_iload_n hx hb dX1_isDigit_4 rfl (lv_at hl 1 rfl) ?_
  refine lv_aload_n hx hb dX1_isDigit_5 rfl (lv_at hl 0 rfl) ?_
  refine gf_X1_size  hx hb hts hown hK hM tw_106 dX1_isDigit_6 ?_
  refine wq_icmp_ge (tgt := 38) hx hb dX1_isDigit_9 (by decide) hf (fun hf => ?_) (fun hf => ?_)
  · exact w_X1_isDigit_38 C hf hM (lv_sub hl [] rfl)
  refine lv_aload_n hx hb dX1_isDigit_12 rfl (lv_at hl 0 rfl) ?_
  refine gf_X1_signs  hx hb hts hown hK hM tw_105 dX1_isDigit_13 ?_
  refine lv_iload_n hx hb dX1_isDigit_16 rfl (lv_at hl 1 rfl) ?_
  obtain ⟨i1, hf⟩ := wt_chk_of hf
  refine wt_ild hx hb hK hM wt_a84 i1 dX1_isDigit_17 ?_
  refine lv_bipush (v := 48) hx hb dX1_isDigit_18 (by decide) ?_
  refine wq_icmp_lt (tgt := 38) hx hb dX1_isDigit_20 (by decide) hf (fun hf => ?_) (fun hf => ?_)
  · exact w_X1_isDigit_38 C hf hM (lv_sub hl [] rfl)
  refine lv_aload_n hx hb dX1_isDigit_23 rfl (lv_at hl 0 rfl) ?_
  refine gf_X1_signs  hx hb hts hown hK hM tw_105 dX1_isDigit_24 ?_
  refine lv_iload_n hx hb dX1_isDigit_27 rfl (lv_at hl 1 rfl) ?_
  refine wt_ild hx hb hK hM wt_a84 i1 dX1_isDigit_28 ?_
  refine lv_bipush (v := 57) hx hb dX1_isDigit_29 (by decide) ?_
  refine wq_icmp_gt (tgt := 38) hx hb dX1_isDigit_31 (by decide) hf (fun hf => ?_) (fun hf => ?_)
  · exact w_X1_isDigit_38 C hf hM (lv_sub hl [] rfl)
  refine lv_iconst (v := 1) hx hb dX1_isDigit_34 (by decide) ?_
  refine lv_goto (tgt := 39) hx hb dX1_isDigit_35 (by decide) ?_
  exact wt_zret hx hb hr hlk hK hM (by decide) hf dX1_isDigit_39
end
set_option maxHeartbeats 4000000 in
set_option maxRecDepth 100000 in
theorem c_X1_isDigit {l : Launch} {D : va_G} {tI tII : ClassId} {B F : Nat} {x1 : Int32} {σ σ' : Mem} {r : Int32} (hf : f_X1_isDigit F x1 σ = some (r, σ')) : wt_Mi l yX1_isDigit cX1_isDigit 2 (some .boolean) rm_X1_isDigit [.ref (B + 83), .int x1] D tI tII B σ r σ' := by
  refine Met.ofW (cc := cX1_isDigit) (maxL := 2) (ret := (some .boolean)) (by decide) rfl ?_
  intro p e s m args below meth c s₁ B9 hml hv
  obtain ⟨rfl, hP, hK⟩ := hv
  have hl := lv_entry ([.ref (B + 83), .int x1]) (n := 2) (qz_b rfl)
  rw [lg_entry_eq]
  generalize (lg_sl ([.ref (B + 83), .int x1]) ++ List.replicate (2 - (lg_sl ([.ref (B + 83), .int x1])).length) Slot.unset).toArray = ls at hl ⊢
  exact w_X1_isDigit_0 (wt_C_of B9 hml hK) hf ⟨hP, va_S.rf⟩ hl
section
variable {p : Program} {l : Launch} {e : Env} {s : State} {m : MethodId} {args : Array Value} {below : List Frame} {meth : Method} {c : Code} {D : va_G} {tI tII : ClassId} {B : Nat}
set_option maxHeartbeats 4000000 in
set_option maxRecDepth 100000 in
theorem w_X1_behind_12 (C : wt_C p s m args meth c RX1 cX1_behind 2 (some .int) D tI tII) {F : Nat} {σ : Mem} {r : Int32} {σ' : Mem} {H : Heap} {locs : List Loc} {ls : Array Slot} (hf : j_X1_behind_12 F σ = some (r, σ')) (hM : wt_St D tI tII B σ s H locs) (hl : lv_has ls 2 []) : W p l e rm_X1_behind s m args below meth c H locs 0 0 (MQ below (wt_Qi D tI tII B r σ') args s 0 0 (fun q => B ≤ q)) (F0 m 12 ls []) := by
  obtain ⟨hx, hb, hts, hown, hml, hr, hlk, hK⟩ := id C
  replace hf := Eq.trans j_X1_behind_12_e.symm hf
  refine lv_bipush (v := 96) hx hb dX1_behind_12 (by decide) ?_
  exact wt_iret hx hb hr hlk hK hM hf dX1_behind_14
set_option maxHeartbeats 4000000 in
set_option maxRecDepth 100000 in
theorem w_X1_behind_0 (C : wt_C p s m args meth c RX1 cX1_behind 2 (some .int) D tI tII) {F : Nat} {x1 : Int32} {σ : Mem} {r : Int32} {σ' : Mem} {H : Heap} {locs : List Loc} {ls : Array Slot} (hf : f_X1_behind F x1 σ = some (r, σ')) (hM : wt_St D tI tII B σ s H locs) (hl : lv_has ls 2 [(0, .ref (B + 83)), (1, .int x1)]) : W p l e rm_X1_behind s m args below meth c H locs 0 0 (MQ below (wt_Qi D tI tII B r σ') args s 0 0 (fun q => B ≤ q)) (F0 m 0 ls []) := by
  obtain ⟨hx, hb, hts, hown, hml, hr, hlk, hK⟩ := id C
  replace hf := Eq.trans f_X1_behind_e.symm hf
  refine lv_iload_n hx hb dX1_behind_0 rfl (lv_at hl 1 rfl) ?_
  refine wq_if_lt (tgt := 12) hx hb dX1_behind_1 (by decide) hf (fun hf => ?_) (fun hf => ?_)
  · exact w_X1_behind_12 C hf hM (lv_sub hl [] rfl)
  refine lv_iload_n hx hb dX1_behind_4 rfl (lv_at hl 1 rfl) ?_
  refine lv_aload_n hx hb dX1_behind_5 rfl (lv_at hl 0 rfl) ?_
  refine gf_X1_size  hx hb hts hown hK hM tw_106 dX1_behind_6 ?_
  refine wq_icmp_lt (tgt := 15) hx hb dX1_behind_9 (by decide) hf (fun hf => ?_) (fun hf => ?_)
  · refine lv_iload_n hx hb dX1_behind_15 rfl (lv_at hl 1 rfl) ?_
    refine lv_aload_n hx hb dX1_behind_16 rfl (lv_at hl 0 rfl) ?_
    refine gf_X1_signs  hx hb hts hown hK hM tw_105 dX1_behind_17 ?_
    refine lv_iload_n hx hb dX1_behind_20 rfl (lv_at hl 1 rfl) ?_
    obtain ⟨i1, hf⟩ := wt_chk_of hf
    refine wt_ild hx hb hK hM wt_a84 i1 dX1_behind_21 ?_
    refine wt_callSi (As := [.int (σ 84 (Int32.toNatClampNeg x1))]) (rest := [.int x1]) hx hb hml hts hown hK hM cw_X1_19 hd_X1_digitsOf rfl ⟨qz_b rfl, qz_b rfl⟩ ⟨rfl, rfl⟩ hl.1 rfl (qz_b rfl) dX1_behind_22 hf (fun _ _ h9 => c_X1_digitsOf h9) (fun r2 s3 H locs hf hM => ?_)
    refine lv_iconst (v := 0) hx hb dX1_behind_25 (by decide) ?_
    refine wt_mmax hx hb hml hts hown hl.1 tw_278 tw_279 tw_7 tw_280 (qz_b rfl) (qz_b rfl) dX1_behind_26 ?_
    refine lv_iadd hx hb dX1_behind_29 ?_
    refine lv_iconst (v := 2) hx hb dX1_behind_30 (by decide) ?_
    refine lv_iadd hx hb dX1_behind_31 ?_
    exact wt_iret hx hb hr hlk hK hM hf dX1_behind_32
  exact w_X1_behind_12 C hf hM (lv_sub hl [] rfl)
end
set_option maxHeartbeats 4000000 in
set_option maxRecDepth 100000 in
theorem c_X1_behind {l : Launch} {D : va_G} {tI tII : ClassId} {B F : Nat} {x1 : Int32} {σ σ' : Mem} {r : Int32} (hf : f_X1_behind F x1 σ = some (r, σ')) : wt_Mi l yX1_behind cX1_behind 2 (some .int) rm_X1_behind [.ref (B + 83), .int x1] D tI tII B σ r σ' := by
  refine Met.ofW (cc := cX1_behind) (maxL := 2) (ret := (some .int)) (by decide) rfl ?_
  intro p e s m args below meth c s₁ B9 hml hv
  obtain ⟨rfl, hP, hK⟩ := hv
  have hl := lv_entry ([.ref (B + 83), .int x1]) (n := 2) (qz_b rfl)
  rw [lg_entry_eq]
  generalize (lg_sl ([.ref (B + 83), .int x1]) ++ List.replicate (2 - (lg_sl ([.ref (B + 83), .int x1])).length) Slot.unset).toArray = ls at hl ⊢
  exact w_X1_behind_0 (wt_C_of B9 hml hK) hf ⟨hP, va_S.rf⟩ hl
section
variable {p : Program} {l : Launch} {e : Env} {s : State} {m : MethodId} {args : Array Value} {below : List Frame} {meth : Method} {c : Code} {D : va_G} {tI tII : ClassId} {B : Nat}
set_option maxHeartbeats 4000000 in
set_option maxRecDepth 100000 in
theorem w_X1_faultOfForm_90 (C : wt_C p s m args meth c RX1 cX1_faultOfForm 4 (some .int) D tI tII) {F : Nat} {k15 : Int32 → Int32 → Int32 → Mem → Option (Int32 × Mem)} {x1 : Int32} {x2 : Int32} {x3 : Int32} {σ : Mem} {r : Int32} {σ' : Mem} {H : Heap} {locs : List Loc} {ls : Array Slot} (hk15 : ∀ (x1 : Int32) (x2 : Int32) (x3 : Int32) (σ : Mem) (H : Heap) (locs : List Loc) (ls : Array Slot), k15 x1 x2 x3 σ = some (r, σ') → wt_St D tI tII B σ s H locs → lv_has ls 4 [(0, .ref (B + 83)), (1, .int x1), (2, .int x2), (3, .int x3)] → W p l e rm_X1_faultOfForm s m args below meth c H locs 0 0 (MQ below (wt_Qi D tI tII B r σ') args s 0 0 (fun q => B ≤ q)) (F0 m 15 ls [])) (hf : j_X1_faultOfForm_90 F k15 x1 x2 x3 σ = some (r, σ')) (hM : wt_St D tI tII B σ s H locs) (hl : lv_has ls 4 [(0, .ref (B + 83)), (1, .int x1), (2, .int x2), (3, .int x3)]) : W p l e rm_X1_faultOfForm s m args below meth c H locs 0 0 (MQ below (wt_Qi D tI tII B r σ') args s 0 0 (fun q => B ≤ q)) (F0 m 90 ls []) := by
  obtain ⟨hx, hb, hts, hown, hml, hr, hlk, hK⟩ := id C
  replace hf := Eq.trans j_X1_faultOfForm_90_e.symm hf
  refine lv_iinc (v := (x3 + (1 : Int32))) (lv' := [(3, .int (x3 + (1 : Int32))), (0, .ref (B + 83)), (1, .int x1), (2, .int x2)]) hx hb dX1_faultOfForm_90 hl (k := 3) rfl rfl (by decide) rfl (fun ls hl => ?_)
  refine lv_goto (tgt := 15) hx hb dX1_faultOfForm_93 (by decide) ?_
  exact hk15 _ _ _ _ _ _ _ hf hM (lv_sub hl [1, 2, 3, 0] rfl)
set_option maxHeartbeats 4000000 in
set_option maxRecDepth 100000 in
theorem w_X1_faultOfForm_48 (C : wt_C p s m args meth c RX1 cX1_faultOfForm 4 (some .int) D tI tII) {F : Nat} {k15 : Int32 → Int32 → Int32 → Mem → Option (Int32 × Mem)} {x1 : Int32} {x3 : Int32} {t0 : Int32} {σ : Mem} {r : Int32} {σ' : Mem} {H : Heap} {locs : List Loc} {ls : Array Slot} (hk15 : ∀ (x1 : Int32) (x2 : Int32) (x3 : Int32) (σ : Mem) (H : Heap) (locs : List Loc) (ls : Array Slot), k15 x1 x2 x3 σ = some (r, σ') → wt_St D tI tII B σ s H locs → lv_has ls 4 [(0, .ref (B + 83)), (1, .int x1), (2, .int x2), (3, .int x3)] → W p l e rm_X1_faultOfForm s m args below meth c H locs 0 0 (MQ below (wt_Qi D tI tII B r σ') args s 0 0 (fun q => B ≤ q)) (F0 m 15 ls [])) (hf : j_X1_faultOfForm_48 F k15 x1 x3 t0 σ = some (r, σ')) (hM : wt_St D tI tII B σ s H locs) (hl : lv_has ls 4 [(0, .ref (B + 83)), (1, .int x1), (3, .int x3)]) : W p l e rm_X1_faultOfForm s m args below meth c H locs 0 0 (MQ below (wt_Qi D tI tII B r σ') args s 0 0 (fun q => B ≤ q)) (F0 m 48 ls [.int t0]) := by
  obtain ⟨hx, hb, hts, hown, hml, hr, hlk, hK⟩ := id C
  replace hf := Eq.trans j_X1_faultOfForm_48_e.symm hf
  refine lv_istore_n (lv' := [(2, .int t0), (0, .ref (B + 83)), (1, .int x1), (3, .int x3)]) hx hb dX1_faultOfForm_48 rfl hl (by decide) rfl (fun ls hl => ?_)
  refine lv_iload_n hx hb dX1_faultOfForm_49 rfl (lv_at hl 0 rfl) ?_
  refine wq_if_ne (tgt := 90) hx hb dX1_faultOfForm_50 (by decide) hf (fun hf => ?_) (fun hf => ?_)
  · exact w_X1_faultOfForm_90 C hk15 hf hM (lv_sub hl [1, 2, 0, 3] rfl)
  refine lv_iload_n hx hb dX1_faultOfForm_53 rfl (lv_at hl 3 rfl) ?_
  exact wt_iret hx hb hr hlk hK hM hf dX1_faultOfForm_54
set_option maxHeartbeats 4000000 in
set_option maxRecDepth 100000 in
theorem w_X1_faultOfForm_15 (C : wt_C p s m args meth c RX1 cX1_faultOfForm 4 (some .int) D tI tII) {F : Nat} {r : Int32} {σ' : Mem} : ∀ (N : Nat) (x1 : Int32) (x2 : Int32) (x3 : Int32) (σ : Mem) (H : Heap) (locs : List Loc) (ls : Array Slot), lp_X1_faultOfForm_15 F N x1 x2 x3 σ = some (r, σ') → wt_St D tI tII B σ s H locs → lv_has ls 4 [(0, .ref (B + 83)), (1, .int x1), (2, .int x2), (3, .int x3)] → W p l e rm_X1_faultOfForm s m args below meth c H locs 0 0 (MQ below (wt_Qi D tI tII B r σ') args s 0 0 (fun q => B ≤ q)) (F0 m 15 ls []) := by
  obtain ⟨hx, hb, hts, hown, hml, hr, hlk, hK⟩ := id C
  intro N
  induction N with
  | zero => intro x1 x2 x3 σ H locs ls hf; exact wt_none (show (none : Option (Int32 × Mem)) = some (r, σ') from hf)
  | succ N ih =>
    intro x1 x2 x3 σ H locs ls hf hM hl
    replace hf := Eq.trans lp_X1_faultOfForm_15_s.symm hf
    refine lv_iload_n hx hb dX1_faultOfForm_15 rfl (lv_at hl 3 rfl) ?_
    refine lv_aload_n hx hb dX1_faultOfForm_16 rfl (lv_at hl 0 rfl) ?_
    refine gf_X1_size  hx hb hts hown hK hM tw_106 dX1_faultOfForm_17 ?_
    refine wq_icmp_ge (tgt := 96) hx hb dX1_faultOfForm_20 (by decide) hf (fun hf => ?_) (fun hf => ?_)
    · refine lv_iload_n hx hb dX1_faultOfForm_96 rfl (lv_at hl 2 rfl) ?_
      refine wq_if_eq (tgt := 107) hx hb dX1_faultOfForm_97 (by decide) hf (fun hf => ?_) (fun hf => ?_)
      · refine lv_bipush (v := -9) hx hb dX1_faultOfForm_107 (by decide) ?_
        exact wt_iret hx hb hr hlk hK hM hf dX1_faultOfForm_109
      refine lv_aload_n hx hb dX1_faultOfForm_100 rfl (lv_at hl 0 rfl) ?_
      refine gf_X1_size  hx hb hts hown hK hM tw_106 dX1_faultOfForm_101 ?_
      refine lv_goto (tgt := 109) hx hb dX1_faultOfForm_104 (by decide) ?_
      exact wt_iret hx hb hr hlk hK hM hf dX1_faultOfForm_109
    refine lv_iload_n hx hb dX1_faultOfForm_23 rfl (lv_at hl 2 rfl) ?_
    refine wq_if_ne (tgt := 55) hx hb dX1_faultOfForm_24 (by decide) hf (fun hf => ?_) (fun hf => ?_)
    · refine lv_iload_n hx hb dX1_faultOfForm_55 rfl (lv_at hl 1 rfl) ?_
      refine wq_if_le (tgt := 75) hx hb dX1_faultOfForm_56 (by decide) hf (fun hf => ?_) (fun hf => ?_)
      · refine lv_aload_n hx hb dX1_faultOfForm_75 rfl (lv_at hl 0 rfl) ?_
        refine gf_X1_signs  hx hb hts hown hK hM tw_105 dX1_faultOfForm_76 ?_
        refine lv_iload_n hx hb dX1_faultOfForm_79 rfl (lv_at hl 3 rfl) ?_
        obtain ⟨i1, hf⟩ := wt_chk_of hf
        refine wt_ild hx hb hK hM wt_a84 i1 dX1_faultOfForm_80 ?_
        refine lv_bipush (v := 59) hx hb dX1_faultOfForm_81 (by decide) ?_
        refine wq_icmp_eq (tgt := 88) hx hb dX1_faultOfForm_83 (by decide) hf (fun hf => ?_) (fun hf => ?_)
        · refine lv_iconst (v := 0) hx hb dX1_faultOfForm_88 (by decide) ?_
          refine lv_istore_n (lv' := [(2, .int (0 : Int32)), (0, .ref (B + 83)), (1, .int x1), (3, .int x3)]) hx hb dX1_faultOfForm_89 rfl hl (by decide) rfl (fun ls hl => ?_)
          exact w_X1_faultOfForm_90 C ih hf hM (lv_sub hl [1, 2, 0, 3] rfl)
        refine lv_iload_n hx hb dX1_faultOfForm_86 rfl (lv_at hl 3 rfl) ?_
        exact wt_iret hx hb hr hlk hK hM hf dX1_faultOfForm_87
      refine lv_aload_n hx hb dX1_faultOfForm_59 rfl (lv_at hl 0 rfl) ?_
      refine lv_iload_n hx hb dX1_faultOfForm_60 rfl (lv_at hl 3 rfl) ?_
      refine wt_callVi (As := [.int x3]) (rest := []) hx hb hml hts hown hK hM wt_rc_X1 cw_X1_29 hd_X1_isDigit rfl ⟨qz_b rfl, qz_b rfl⟩ ⟨rfl, rfl⟩ hl.1 rfl (qz_b rfl) dX1_faultOfForm_61 hf (fun _ _ h9 => c_X1_isDigit h9) (fun r2 s3 H locs hf hM => ?_)
      refine wq_if_ne (tgt := 69) hx hb dX1_faultOfForm_64 (by decide) hf (fun hf => ?_) (fun hf => ?_)
      · refine lv_iinc (v := (x1 + (-1 : Int32))) (lv' := [(1, .int (x1 + (-1 : Int32))), (0, .ref (B + 83)), (2, .int x2), (3, .int x3)]) hx hb dX1_faultOfForm_69 hl (k := 1) rfl rfl (by decide) rfl (fun ls hl => ?_)
        refine lv_goto (tgt := 90) hx hb dX1_faultOfForm_72 (by decide) ?_
        exact w_X1_faultOfForm_90 C ih hf hM (lv_sub hl [1, 0, 2, 3] rfl)
      refine lv_iload_n hx hb dX1_faultOfForm_67 rfl (lv_at hl 3 rfl) ?_
      exact wt_iret hx hb hr hlk hK hM hf dX1_faultOfForm_68
    refine lv_aload_n hx hb dX1_faultOfForm_27 rfl (lv_at hl 0 rfl) ?_
    refine gf_X1_signs  hx hb hts hown hK hM tw_105 dX1_faultOfForm_28 ?_
    refine lv_iload_n hx hb dX1_faultOfForm_31 rfl (lv_at hl 3 rfl) ?_
    obtain ⟨i4, hf⟩ := wt_chk_of hf
    refine wt_ild hx hb hK hM wt_a84 i4 dX1_faultOfForm_32 ?_
    refine wt_callSi (As := [.int (σ 84 (Int32.toNatClampNeg x3))]) (rest := []) hx hb hml hts hown hK hM cw_X1_19 hd_X1_digitsOf rfl ⟨qz_b rfl, qz_b rfl⟩ ⟨rfl, rfl⟩ hl.1 rfl (qz_b rfl) dX1_faultOfForm_33 hf (fun _ _ h9 => c_X1_digitsOf h9) (fun r5 s6 H locs hf hM => ?_)
    refine lv_istore_n (lv' := [(1, .int r5), (0, .ref (B + 83)), (2, .int x2), (3, .int x3)]) hx hb dX1_faultOfForm_36 rfl hl (by decide) rfl (fun ls hl => ?_)
    refine lv_iload_n hx hb dX1_faultOfForm_37 rfl (lv_at hl 0 rfl) ?_
    refine lv_bipush (v := -9) hx hb dX1_faultOfForm_38 (by decide) ?_
    refine wq_icmp_eq (tgt := 47) hx hb dX1_faultOfForm_40 (by decide) hf (fun hf => ?_) (fun hf => ?_)
    · refine lv_iconst (v := 0) hx hb dX1_faultOfForm_47 (by decide) ?_
      exact w_X1_faultOfForm_48 C ih hf hM (lv_sub hl [1, 0, 3] rfl)
    refine lv_iconst (v := 1) hx hb dX1_faultOfForm_43 (by decide) ?_
    refine lv_goto (tgt := 48) hx hb dX1_faultOfForm_44 (by decide) ?_
    exact w_X1_faultOfForm_48 C ih hf hM (lv_sub hl [1, 0, 3] rfl)
set_option maxHeartbeats 4000000 in
set_option maxRecDepth 100000 in
theorem w_X1_faultOfForm_0 (C : wt_C p s m args meth c RX1 cX1_faultOfForm 4 (some .int) D tI tII) {F : Nat} {σ : Mem} {r : Int32} {σ' : Mem} {H : Heap} {locs : List Loc} {ls : Array Slot} (hf : f_X1_faultOfForm F σ = some (r, σ')) (hM : wt_St D tI tII B σ s H locs) (hl : lv_has ls 4 [(0, .ref (B + 83))]) : W p l e rm_X1_faultOfForm s m args below meth c H locs 0 0 (MQ below (wt_Qi D tI tII B r σ') args s 0 0 (fun q => B ≤ q)) (F0 m 0 ls []) := by
  obtain ⟨hx, hb, hts, hown, hml, hr, hlk, hK⟩ := id C
  replace hf := Eq.trans f_X1_faultOfForm_e.symm hf
  refine lv_aload_n hx hb dX1_faultOfForm_0 rfl (lv_at hl 0 rfl) ?_
  refine gf_X1_size  hx hb hts hown hK hM tw_106 dX1_faultOfForm_1 ?_
  refine wq_if_ne (tgt := 9) hx hb dX1_faultOfForm_4 (by decide) hf (fun hf => ?_) (fun hf => ?_)
  · refine lv_iconst (v := 0) hx hb dX1_faultOfForm_9 (by decide) ?_
    refine lv_istore_n (lv' := [(1, .int (0 : Int32)), (0, .ref (B + 83))]) hx hb dX1_faultOfForm_10 rfl hl (by decide) rfl (fun ls hl => ?_)
    refine lv_iconst (v := 0) hx hb dX1_faultOfForm_11 (by decide) ?_
    refine lv_istore_n (lv' := [(2, .int (0 : Int32)), (1, .int (0 : Int32)), (0, .ref (B + 83))]) hx hb dX1_faultOfForm_12 rfl hl (by decide) rfl (fun ls hl => ?_)
    refine lv_iconst (v := 0) hx hb dX1_faultOfForm_13 (by decide) ?_
    refine lv_istore_n (lv' := [(3, .int (0 : Int32)), (2, .int (0 : Int32)), (1, .int (0 : Int32)), (0, .ref (B + 83))]) hx hb dX1_faultOfForm_14 rfl hl (by decide) rfl (fun ls hl => ?_)
    exact w_X1_faultOfForm_15 C _ _ _ _ _ _ _ _ hf hM (lv_sub hl [3, 2, 1, 0] rfl)
  refine lv_iconst (v := 0) hx hb dX1_faultOfForm_7 (by decide) ?_
  exact wt_iret hx hb hr hlk hK hM hf dX1_faultOfForm_8
end
set_option maxHeartbeats 4000000 in
set_option maxRecDepth 100000 in
theorem c_X1_faultOfForm {l : Launch} {D : va_G} {tI tII : ClassId} {B F : Nat} {σ σ' : Mem} {r : Int32} (hf : f_X1_faultOfForm F σ = some (r, σ')) : wt_Mi l yX1_faultOfForm cX1_faultOfForm 4 (some .int) rm_X1_faultOfForm [.ref (B + 83)] D tI tII B σ r σ' := by
  refine Met.ofW (cc := cX1_faultOfForm) (maxL := 4) (ret := (some .int)) (by decide) rfl ?_
  intro p e s m args below meth c s₁ B9 hml hv
  obtain ⟨rfl, hP, hK⟩ := hv
  have hl := lv_entry ([.ref (B + 83)]) (n := 4) (qz_b rfl)
  rw [lg_entry_eq]
  generalize (lg_sl ([.ref (B + 83)]) ++ List.replicate (4 - (lg_sl ([.ref (B + 83)])).length) Slot.unset).toArray = ls at hl ⊢
  exact w_X1_faultOfForm_0 (wt_C_of B9 hml hK) hf ⟨hP, va_S.rf⟩ hl
section
variable {p : Program} {l : Launch} {e : Env} {s : State} {m : MethodId} {args : Array Value} {below : List Frame} {meth : Method} {c : Code} {D : va_G} {tI tII : ClassId} {B : Nat}
set_option maxHeartbeats 4000000 in
set_option maxRecDepth 100000 in
theorem w_X1_number_40 (C : wt_C p s m args meth c RX1 cX1_number 5 (some .int) D tI tII) {F : Nat} {k5 : Int32 → Int32 → Mem → Option (Int32 × Mem)} {x1 : Int32} {x2 : Int32} {x4 : Int32} {t0 : Int32} {t1 : Int32} {σ : Mem} {r : Int32} {σ' : Mem} {H : Heap} {locs : List Loc} {ls : Array Slot} (hk5 : ∀ (x3 : Int32) (x4 : Int32) (σ : Mem) (H : Heap) (locs : List Loc) (ls : Array Slot), k5 x3 x4 σ = some (r, σ') → wt_St D tI tII B σ s H locs → lv_has ls 5 [(0, .ref (B + 83)), (1, .int x1), (2, .int x2), (3, .int x3), (4, .int x4)] → W p l e rm_X1_number s m args below meth c H locs 0 0 (MQ below (wt_Qi D tI tII B r σ') args s 0 0 (fun q => B ≤ q)) (F0 m 5 ls [])) (hf : j_X1_number_40 F k5 x1 x2 x4 t0 t1 σ = some (r, σ')) (hM : wt_St D tI tII B σ s H locs) (hl : lv_has ls 5 [(0, .ref (B + 83)), (1, .int x1), (2, .int x2), (4, .int x4)]) : W p l e rm_X1_number s m args below meth c H locs 0 0 (MQ below (wt_Qi D tI tII B r σ') args s 0 0 (fun q => B ≤ q)) (F0 m 40 ls [.int t1, .int t0]) := by
  obtain ⟨hx, hb, hts, hown, hml, hr, hlk, hK⟩ := id C
  replace hf := Eq.trans j_X1_number_40_e.symm hf
  refine lv_iadd hx hb dX1_number_40 ?_
  refine lv_istore_n (lv' := [(3, .int (t0 + t1)), (0, .ref (B + 83)), (1, .int x1), (2, .int x2), (4, .int x4)]) hx hb dX1_number_41 rfl hl (by decide) rfl (fun ls hl => ?_)
  refine lv_iinc (v := (x4 + (1 : Int32))) (lv' := [(4, .int (x4 + (1 : Int32))), (3, .int (t0 + t1)), (0, .ref (B + 83)), (1, .int x1), (2, .int x2)]) hx hb dX1_number_42 hl (k := 4) rfl rfl (by decide) rfl (fun ls hl => ?_)
  refine lv_goto (tgt := 5) hx hb dX1_number_45 (by decide) ?_
  exact hk5 _ _ _ _ _ _ hf hM (lv_sub hl [2, 3, 4, 1, 0] rfl)
set_option maxHeartbeats 4000000 in
set_option maxRecDepth 100000 in
theorem w_X1_number_5 (C : wt_C p s m args meth c RX1 cX1_number 5 (some .int) D tI tII) {F : Nat} {x1 : Int32} {x2 : Int32} {r : Int32} {σ' : Mem} : ∀ (N : Nat) (x3 : Int32) (x4 : Int32) (σ : Mem) (H : Heap) (locs : List Loc) (ls : Array Slot), lp_X1_number_5 F x1 x2 N x3 x4 σ = some (r, σ') → wt_St D tI tII B σ s H locs → lv_has ls 5 [(0, .ref (B + 83)), (1, .int x1), (2, .int x2), (3, .int x3), (4, .int x4)] → W p l e rm_X1_number s m args below meth c H locs 0 0 (MQ below (wt_Qi D tI tII B r σ') args s 0 0 (fun q => B ≤ q)) (F0 m 5 ls []) := by
  obtain ⟨hx, hb, hts, hown, hml, hr, hlk, hK⟩ := id C
  intro N
  induction N with
  | zero => intro x3 x4 σ H locs ls hf; exact wt_none (show (none : Option (Int32 × Mem)) = some (r, σ') from hf)
  | succ N ih =>
    intro x3 x4 σ H locs ls hf hM hl
    replace hf := Eq.trans lp_X1_number_5_s.symm hf
    refine lv_iload hx hb dX1_number_5 (lv_at hl 4 rfl) ?_
    refine lv_iload_n hx hb dX1_number_7 rfl (lv_at hl 1 rfl) ?_
    refine lv_iload_n hx hb dX1_number_8 rfl (lv_at hl 2 rfl) ?_
    refine lv_iadd hx hb dX1_number_9 ?_
    refine wq_icmp_ge (tgt := 48) hx hb dX1_number_10 (by decide) hf (fun hf => ?_) (fun hf => ?_)
    · refine lv_iload_n hx hb dX1_number_48 rfl (lv_at hl 3 rfl) ?_
      exact wt_iret hx hb hr hlk hK hM hf dX1_number_49
    refine lv_iload_n hx hb dX1_number_13 rfl (lv_at hl 3 rfl) ?_
    refine lv_bipush (v := 10) hx hb dX1_number_14 (by decide) ?_
    refine lv_imul hx hb dX1_number_16 ?_
    refine lv_aload_n hx hb dX1_number_17 rfl (lv_at hl 0 rfl) ?_
    refine lv_iload hx hb dX1_number_18 (lv_at hl 4 rfl) ?_
    refine wt_callVi (As := [.int x4]) (rest := [.int (x3 * (10 : Int32))]) hx hb hml hts hown hK hM wt_rc_X1 cw_X1_29 hd_X1_isDigit rfl ⟨qz_b rfl, qz_b rfl⟩ ⟨rfl, rfl⟩ hl.1 rfl (qz_b rfl) dX1_number_20 hf (fun _ _ h9 => c_X1_isDigit h9) (fun r1 s2 H locs hf hM => ?_)
    refine wq_if_eq (tgt := 39) hx hb dX1_number_23 (by decide) hf (fun hf => ?_) (fun hf => ?_)
    · refine lv_iconst (v := 0) hx hb dX1_number_39 (by decide) ?_
      exact w_X1_number_40 C ih hf hM (lv_sub hl [0, 1, 2, 4] rfl)
    refine lv_aload_n hx hb dX1_number_26 rfl (lv_at hl 0 rfl) ?_
    refine gf_X1_signs  hx hb hts hown hK hM tw_105 dX1_number_27 ?_
    refine lv_iload hx hb dX1_number_30 (lv_at hl 4 rfl) ?_
    obtain ⟨i3, hf⟩ := wt_chk_of hf
    refine wt_ild hx hb hK hM wt_a84 i3 dX1_number_32 ?_
    refine lv_bipush (v := 48) hx hb dX1_number_33 (by decide) ?_
    refine lv_isub hx hb dX1_number_35 ?_
    refine lv_goto (tgt := 40) hx hb dX1_number_36 (by decide) ?_
    exact w_X1_number_40 C ih hf hM (lv_sub hl [0, 1, 2, 4] rfl)
set_option maxHeartbeats 4000000 in
set_option maxRecDepth 100000 in
theorem w_X1_number_0 (C : wt_C p s m args meth c RX1 cX1_number 5 (some .int) D tI tII) {F : Nat} {x1 : Int32} {x2 : Int32} {σ : Mem} {r : Int32} {σ' : Mem} {H : Heap} {locs : List Loc} {ls : Array Slot} (hf : f_X1_number F x1 x2 σ = some (r, σ')) (hM : wt_St D tI tII B σ s H locs) (hl : lv_has ls 5 [(0, .ref (B + 83)), (1, .int x1), (2, .int x2)]) : W p l e rm_X1_number s m args below meth c H locs 0 0 (MQ below (wt_Qi D tI tII B r σ') args s 0 0 (fun q => B ≤ q)) (F0 m 0 ls []) := by
  obtain ⟨hx, hb, hts, hown, hml, hr, hlk, hK⟩ := id C
  replace hf := Eq.trans f_X1_number_e.symm hf
  refine lv_iconst (v := 0) hx hb dX1_number_0 (by decide) ?_
  refine lv_istore_n (lv' := [(3, .int (0 : Int32)), (0, .ref (B + 83)), (1, .int x1), (2, .int x2)]) hx hb dX1_number_1 rfl hl (by decide) rfl (fun ls hl => ?_)
  refine lv_iload_n hx hb dX1_number_2 rfl (lv_at hl 2 rfl) ?_
  refine lv_istore (lv' := [(4, .int x1), (3, .int (0 : Int32)), (0, .ref (B + 83)), (1, .int x1), (2, .int x2)]) hx hb dX1_number_3 hl (by decide) rfl (fun ls hl => ?_)
  exact w_X1_number_5 C _ _ _ _ _ _ _ hf hM (lv_sub hl [2, 3, 4, 1, 0] rfl)
end
set_option maxHeartbeats 4000000 in
set_option maxRecDepth 100000 in
theorem c_X1_number {l : Launch} {D : va_G} {tI tII : ClassId} {B F : Nat} {x1 : Int32} {x2 : Int32} {σ σ' : Mem} {r : Int32} (hf : f_X1_number F x1 x2 σ = some (r, σ')) : wt_Mi l yX1_number cX1_number 5 (some .int) rm_X1_number [.ref (B + 83), .int x1, .int x2] D tI tII B σ r σ' := by
  refine Met.ofW (cc := cX1_number) (maxL := 5) (ret := (some .int)) (by decide) rfl ?_
  intro p e s m args below meth c s₁ B9 hml hv
  obtain ⟨rfl, hP, hK⟩ := hv
  have hl := lv_entry ([.ref (B + 83), .int x1, .int x2]) (n := 5) (qz_b rfl)
  rw [lg_entry_eq]
  generalize (lg_sl ([.ref (B + 83), .int x1, .int x2]) ++ List.replicate (5 - (lg_sl ([.ref (B + 83), .int x1, .int x2])).length) Slot.unset).toArray = ls at hl ⊢
  exact w_X1_number_0 (wt_C_of B9 hml hK) hf ⟨hP, va_S.rf⟩ hl
section
variable {p : Program} {l : Launch} {e : Env} {s : State} {m : MethodId} {args : Array Value} {below : List Frame} {meth : Method} {c : Code} {D : va_G} {tI tII : ClassId} {B : Nat}
set_option maxHeartbeats 4000000 in
set_option maxRecDepth 100000 in
theorem w_X1_tell_12 (C : wt_C p s m args meth c RX1 cX1_tell 4 (some .boolean) D tI tII) {F : Nat} {σ : Mem} {r : Int32} {σ' : Mem} {H : Heap} {locs : List Loc} {ls : Array Slot} (hf : j_X1_tell_12 F σ = some (r, σ')) (hM : wt_St D tI tII B σ s H locs) (hl : lv_has ls 4 []) : W p l e rm_X1_tell s m args below meth c H locs 0 0 (MQ below (wt_Qi D tI tII B r σ') args s 0 0 (fun q => B ≤ q)) (F0 m 12 ls []) := by
  obtain ⟨hx, hb, hts, hown, hml, hr, hlk, hK⟩ := id C
  replace hf := Eq.trans j_X1_tell_12_e.symm hf
  refine lv_iconst (v := 0) hx hb dX1_tell_12 (by decide) ?_
  exact wt_zret hx hb hr hlk hK hM (by decide) hf dX1_tell_13
set_option maxHeartbeats 4000000 in
set_option maxRecDepth 100000 in
theorem w_X1_tell_262 (C : wt_C p s m args meth c RX1 cX1_tell 4 (some .boolean) D tI tII) {F : Nat} {σ : Mem} {r : Int32} {σ' : Mem} {H : Heap} {locs : List Loc} {ls : Array Slot} (hf : j_X1_tell_262 F σ = some (r, σ')) (hM : wt_St D tI tII B σ s H locs) (hl : lv_has ls 4 []) : W p l e rm_X1_tell s m args below meth c H locs 0 0 (MQ below (wt_Qi D tI tII B r σ') args s 0 0 (fun q => B ≤ q)) (F0 m 262 ls []) := by
  obtain ⟨hx, hb, hts, hown, hml, hr, hlk, hK⟩ := id C
  replace hf := Eq.trans j_X1_tell_262_e.symm hf
  refine lv_iconst (v := 0) hx hb dX1_tell_262 (by decide) ?_
  exact wt_zret hx hb hr hlk hK hM (by decide) hf dX1_tell_263
set_option maxHeartbeats 4000000 in
set_option maxRecDepth 100000 in
theorem w_X1_tell_0 (C : wt_C p s m args meth c RX1 cX1_tell 4 (some .boolean) D tI tII) {F : Nat} {g : Nat} {x2 : Int32} {σ : Mem} {r : Int32} {σ' : Mem} {H : Heap} {locs : List Loc} {ls : Array Slot} (hg : wt_isH g) (hf : f_X1_tell F g x2 σ = some (r, σ')) (hM : wt_St D tI tII B σ s H locs) (hl : lv_has ls 4 [(0, .ref (B + 83)), (1, .ref (B + g)), (2, .int x2)]) : W p l e rm_X1_tell s m args below meth c H locs 0 0 (MQ below (wt_Qi D tI tII B r σ') args s 0 0 (fun q => B ≤ q)) (F0 m 0 ls []) := by
  obtain ⟨hx, hb, hts, hown, hml, hr, hlk, hK⟩ := id C
  replace hf := Eq.trans f_X1_tell_e.symm hf
  refine lv_iload_n hx hb dX1_tell_0 rfl (lv_at hl 2 rfl) ?_
  refine wq_if_lt (tgt := 12) hx hb dX1_tell_1 (by decide) hf (fun hf => ?_) (fun hf => ?_)
  · exact w_X1_tell_12 C hf hM (lv_sub hl [] rfl)
  refine lv_iload_n hx hb dX1_tell_4 rfl (lv_at hl 2 rfl) ?_
  refine lv_aload_n hx hb dX1_tell_5 rfl (lv_at hl 0 rfl) ?_
  refine gf_X1_size  hx hb hts hown hK hM tw_106 dX1_tell_6 ?_
  refine wq_icmp_lt (tgt := 14) hx hb dX1_tell_9 (by decide) hf (fun hf => ?_) (fun hf => ?_)
  · refine lv_iload_n hx hb dX1_tell_14 rfl (lv_at hl 2 rfl) ?_
    refine lv_iconst (v := 1) hx hb dX1_tell_15 (by decide) ?_
    refine lv_iadd hx hb dX1_tell_16 ?_
    refine lv_istore_n (lv' := [(3, .int (x2 + (1 : Int32))), (0, .ref (B + 83)), (1, .ref (B + g)), (2, .int x2)]) hx hb dX1_tell_17 rfl hl (by decide) rfl (fun ls hl => ?_)
    refine lv_aload_n hx hb dX1_tell_18 rfl (lv_at hl 1 rfl) ?_
    refine gf_X1_signs  hx hb hts hown hK hM tw_105 dX1_tell_19 ?_
    refine lv_iload_n hx hb dX1_tell_22 rfl (lv_at hl 3 rfl) ?_
    obtain ⟨i1, hf⟩ := wt_chk_of hf
    refine wt_ild hx hb hK hM wt_a84 i1 dX1_tell_23 ?_
    refine wq_key hf (fun e9 hf => ?_) (fun n2_100 hf => ?_)
    · refine lv_tableIn (off := 210) (tgt := 234) hx hb dX1_tell_24 (by rw [e9]; decide) (by rw [e9]; decide) (by rw [e9]; rfl) (by decide) ?_
      refine lv_aload_n hx hb dX1_tell_234 rfl (lv_at hl 1 rfl) ?_
      refine lv_iload_n hx hb dX1_tell_235 rfl (lv_at hl 0 rfl) ?_
      refine lv_iconst (v := 2) hx hb dX1_tell_236 (by decide) ?_
      refine wt_callVi (As := [.int (x2 + (1 : Int32)), .int (2 : Int32)]) (rest := []) hx hb hml hts hown hK hM wt_rc_X1 cw_X1_33 hd_X1_number rfl ⟨qz_b rfl, qz_b rfl⟩ ⟨rfl, rfl⟩ hl.1 rfl (qz_b rfl) dX1_tell_237 hf (fun _ _ h9 => c_X1_number h9) (fun r3 s4 H locs hf hM => ?_)
      refine lv_bipush (v := 60) hx hb dX1_tell_240 (by decide) ?_
      refine wq_icmp_gt (tgt := 262) hx hb dX1_tell_242 (by decide) hf (fun hf => ?_) (fun hf => ?_)
      · exact w_X1_tell_262 C hf hM (lv_sub hl [] rfl)
      refine lv_aload_n hx hb dX1_tell_245 rfl (lv_at hl 2 rfl) ?_
      refine lv_aload_n hx hb dX1_tell_246 rfl (lv_at hl 1 rfl) ?_
      refine lv_iload_n hx hb dX1_tell_247 rfl (lv_at hl 0 rfl) ?_
      refine lv_iconst (v := 2) hx hb dX1_tell_248 (by decide) ?_
      refine wt_callVi (As := [.int (x2 + (1 : Int32)), .int (2 : Int32)]) (rest := [.ref (B + g)]) hx hb hml hts hown hK hM wt_rc_X1 cw_X1_33 hd_X1_number rfl ⟨qz_b rfl, qz_b rfl⟩ ⟨rfl, rfl⟩ hl.1 rfl (qz_b rfl) dX1_tell_249 hf (fun _ _ h9 => c_X1_number h9) (fun r5 s6 H locs hf hM => ?_)
      refine wt_callVi (As := [.int r5]) (rest := []) hx hb hml hts hown hK hM (wt_rc_X0 hg) cw_X1_58 hd_X0_pass rfl ⟨qz_b rfl, qz_b rfl⟩ ⟨rfl, rfl⟩ hl.1 rfl (qz_b rfl) dX1_tell_252 hf (fun _ _ h9 => c_X0_pass hg h9) (fun r7 s8 H locs hf hM => ?_)
      refine wq_if_eq (tgt := 262) hx hb dX1_tell_255 (by decide) hf (fun hf => ?_) (fun hf => ?_)
      · exact w_X1_tell_262 C hf hM (lv_sub hl [] rfl)
      refine lv_iconst (v := 1) hx hb dX1_tell_258 (by decide) ?_
      refine lv_goto (tgt := 263) hx hb dX1_tell_259 (by decide) ?_
      exact wt_zret hx hb hr hlk hK hM (by decide) hf dX1_tell_263
    refine wq_key hf (fun e9 hf => ?_) (fun n2_108 hf => ?_)
    · refine lv_tableIn (off := 107) (tgt := 131) hx hb dX1_tell_24 (by rw [e9]; decide) (by rw [e9]; decide) (by rw [e9]; rfl) (by decide) ?_
      refine lv_aload_n hx hb dX1_tell_131 rfl (lv_at hl 2 rfl) ?_
      refine lv_aload_n hx hb dX1_tell_132 rfl (lv_at hl 1 rfl) ?_
      refine lv_iload_n hx hb dX1_tell_133 rfl (lv_at hl 0 rfl) ?_
      refine lv_iconst (v := 1) hx hb dX1_tell_134 (by decide) ?_
      refine wt_callVi (As := [.int (x2 + (1 : Int32)), .int (1 : Int32)]) (rest := [.ref (B + g)]) hx hb hml hts hown hK hM wt_rc_X1 cw_X1_33 hd_X1_number rfl ⟨qz_b rfl, qz_b rfl⟩ ⟨rfl, rfl⟩ hl.1 rfl (qz_b rfl) dX1_tell_135 hf (fun _ _ h9 => c_X1_number h9) (fun r9 s10 H locs hf hM => ?_)
      refine lv_aload_n hx hb dX1_tell_138 rfl (lv_at hl 1 rfl) ?_
      refine lv_iload_n hx hb dX1_tell_139 rfl (lv_at hl 0 rfl) ?_
      refine lv_iconst (v := 1) hx hb dX1_tell_140 (by decide) ?_
      refine lv_iadd hx hb dX1_tell_141 ?_
      refine lv_iconst (v := 1) hx hb dX1_tell_142 (by decide) ?_
      refine wt_callVi (As := [.int ((x2 + (1 : Int32)) + (1 : Int32)), .int (1 : Int32)]) (rest := [.int r9, .ref (B + g)]) hx hb hml hts hown hK hM wt_rc_X1 cw_X1_33 hd_X1_number rfl ⟨qz_b rfl, qz_b rfl⟩ ⟨rfl, rfl⟩ hl.1 rfl (qz_b rfl) dX1_tell_143 hf (fun _ _ h9 => c_X1_number h9) (fun r11 s12 H locs hf hM => ?_)
      refine wt_callVi (As := [.int r9, .int r11]) (rest := []) hx hb hml hts hown hK hM (wt_rc_X0 hg) cw_X1_41 hd_X0_addLooker rfl ⟨qz_b rfl, qz_b rfl⟩ ⟨rfl, rfl⟩ hl.1 rfl (qz_b rfl) dX1_tell_146 hf (fun _ _ h9 => c_X0_addLooker hg h9) (fun r13 s14 H locs hf hM => ?_)
      obtain ⟨hz9, hf⟩ := wt_bz_of hf
      exact wt_zret hx hb hr hlk hK hM hz9 hf dX1_tell_149
    refine wq_key hf (fun e9 hf => ?_) (fun n2_112 hf => ?_)
    · refine lv_tableIn (off := 96) (tgt := 120) hx hb dX1_tell_24 (by rw [e9]; decide) (by rw [e9]; decide) (by rw [e9]; rfl) (by decide) ?_
      refine lv_aload_n hx hb dX1_tell_120 rfl (lv_at hl 2 rfl) ?_
      refine lv_aload_n hx hb dX1_tell_121 rfl (lv_at hl 1 rfl) ?_
      refine lv_iload_n hx hb dX1_tell_122 rfl (lv_at hl 0 rfl) ?_
      refine lv_iconst (v := 3) hx hb dX1_tell_123 (by decide) ?_
      refine wt_callVi (As := [.int (x2 + (1 : Int32)), .int (3 : Int32)]) (rest := [.ref (B + g)]) hx hb hml hts hown hK hM wt_rc_X1 cw_X1_33 hd_X1_number rfl ⟨qz_b rfl, qz_b rfl⟩ ⟨rfl, rfl⟩ hl.1 rfl (qz_b rfl) dX1_tell_124 hf (fun _ _ h9 => c_X1_number h9) (fun r15 s16 H locs hf hM => ?_)
      refine wt_callVi (As := [.int r15]) (rest := []) hx hb hml hts hown hK hM (wt_rc_X0 hg) cw_X1_36 hd_X0_addPane rfl ⟨qz_b rfl, qz_b rfl⟩ ⟨rfl, rfl⟩ hl.1 rfl (qz_b rfl) dX1_tell_127 hf (fun _ _ h9 => c_X0_addPane hg h9) (fun r17 s18 H locs hf hM => ?_)
      obtain ⟨hz9, hf⟩ := wt_bz_of hf
      exact wt_zret hx hb hr hlk hK hM hz9 hf dX1_tell_130
    refine wq_key hf (fun e9 hf => ?_) (fun n2_115 hf => ?_)
    · refine lv_tableIn (off := 126) (tgt := 150) hx hb dX1_tell_24 (by rw [e9]; decide) (by rw [e9]; decide) (by rw [e9]; rfl) (by decide) ?_
      refine lv_aload_n hx hb dX1_tell_150 rfl (lv_at hl 2 rfl) ?_
      refine lv_aload_n hx hb dX1_tell_151 rfl (lv_at hl 1 rfl) ?_
      refine lv_iload_n hx hb dX1_tell_152 rfl (lv_at hl 0 rfl) ?_
      refine lv_iconst (v := 1) hx hb dX1_tell_153 (by decide) ?_
      refine wt_callVi (As := [.int (x2 + (1 : Int32)), .int (1 : Int32)]) (rest := [.ref (B + g)]) hx hb hml hts hown hK hM wt_rc_X1 cw_X1_33 hd_X1_number rfl ⟨qz_b rfl, qz_b rfl⟩ ⟨rfl, rfl⟩ hl.1 rfl (qz_b rfl) dX1_tell_154 hf (fun _ _ h9 => c_X1_number h9) (fun r19 s20 H locs hf hM => ?_)
      refine lv_aload_n hx hb dX1_tell_157 rfl (lv_at hl 1 rfl) ?_
      refine lv_iload_n hx hb dX1_tell_158 rfl (lv_at hl 0 rfl) ?_
      refine lv_iconst (v := 1) hx hb dX1_tell_159 (by decide) ?_
      refine lv_iadd hx hb dX1_tell_160 ?_
      refine lv_iconst (v := 2) hx hb dX1_tell_161 (by decide) ?_
      refine wt_callVi (As := [.int ((x2 + (1 : Int32)) + (1 : Int32)), .int (2 : Int32)]) (rest := [.int r19, .ref (B + g)]) hx hb hml hts hown hK hM wt_rc_X1 cw_X1_33 hd_X1_number rfl ⟨qz_b rfl, qz_b rfl⟩ ⟨rfl, rfl⟩ hl.1 rfl (qz_b rfl) dX1_tell_162 hf (fun _ _ h9 => c_X1_number h9) (fun r21 s22 H locs hf hM => ?_)
      refine lv_aload_n hx hb dX1_tell_165 rfl (lv_at hl 1 rfl) ?_
      refine lv_iload_n hx hb dX1_tell_166 rfl (lv_at hl 0 rfl) ?_
      refine lv_iconst (v := 3) hx hb dX1_tell_167 (by decide) ?_
      refine lv_iadd hx hb dX1_tell_168 ?_
      refine lv_iconst (v := 2) hx hb dX1_tell_169 (by decide) ?_
      refine wt_callVi (As := [.int ((x2 + (1 : Int32)) + (3 : Int32)), .int (2 : Int32)]) (rest := [.int r21, .int r19, .ref (B + g)]) hx hb hml hts hown hK hM wt_rc_X1 cw_X1_33 hd_X1_number rfl ⟨qz_b rfl, qz_b rfl⟩ ⟨rfl, rfl⟩ hl.1 rfl (qz_b rfl) dX1_tell_170 hf (fun _ _ h9 => c_X1_number h9) (fun r23 s24 H locs hf hM => ?_)
      refine lv_aload_n hx hb dX1_tell_173 rfl (lv_at hl 1 rfl) ?_
      refine lv_iload_n hx hb dX1_tell_174 rfl (lv_at hl 0 rfl) ?_
      refine lv_iconst (v := 5) hx hb dX1_tell_175 (by decide) ?_
      refine lv_iadd hx hb dX1_tell_176 ?_
      refine lv_iconst (v := 1) hx hb dX1_tell_177 (by decide) ?_
      refine wt_callVi (As := [.int ((x2 + (1 : Int32)) + (5 : Int32)), .int (1 : Int32)]) (rest := [.int r23, .int r21, .int r19, .ref (B + g)]) hx hb hml hts hown hK hM wt_rc_X1 cw_X1_33 hd_X1_number rfl ⟨qz_b rfl, qz_b rfl⟩ ⟨rfl, rfl⟩ hl.1 rfl (qz_b rfl) dX1_tell_178 hf (fun _ _ h9 => c_X1_number h9) (fun r25 s26 H locs hf hM => ?_)
      refine wt_callVi (As := [.int r19, .int r21, .int r23, .int r25]) (rest := []) hx hb hml hts hown hK hM (wt_rc_X0 hg) cw_X1_45 hd_X0_post rfl ⟨qz_b rfl, qz_b rfl⟩ ⟨rfl, rfl⟩ hl.1 rfl (qz_b rfl) dX1_tell_181 hf (fun _ _ h9 => c_X0_post hg h9) (fun r27 s28 H locs hf hM => ?_)
      obtain ⟨hz9, hf⟩ := wt_bz_of hf
      exact wt_zret hx hb hr hlk hK hM hz9 hf dX1_tell_184
    refine wq_key hf (fun e9 hf => ?_) (fun n2_117 hf => ?_)
    · refine lv_tableIn (off := 199) (tgt := 223) hx hb dX1_tell_24 (by rw [e9]; decide) (by rw [e9]; decide) (by rw [e9]; rfl) (by decide) ?_
      refine lv_aload_n hx hb dX1_tell_223 rfl (lv_at hl 2 rfl) ?_
      refine lv_aload_n hx hb dX1_tell_224 rfl (lv_at hl 1 rfl) ?_
      refine lv_iload_n hx hb dX1_tell_225 rfl (lv_at hl 0 rfl) ?_
      refine lv_iconst (v := 1) hx hb dX1_tell_226 (by decide) ?_
      refine wt_callVi (As := [.int (x2 + (1 : Int32)), .int (1 : Int32)]) (rest := [.ref (B + g)]) hx hb hml hts hown hK hM wt_rc_X1 cw_X1_33 hd_X1_number rfl ⟨qz_b rfl, qz_b rfl⟩ ⟨rfl, rfl⟩ hl.1 rfl (qz_b rfl) dX1_tell_227 hf (fun _ _ h9 => c_X1_number h9) (fun r29 s30 H locs hf hM => ?_)
      refine wt_callVi (As := [.int r29]) (rest := []) hx hb hml hts hown hK hM (wt_rc_X0 hg) cw_X1_55 hd_X0_rule rfl ⟨qz_b rfl, qz_b rfl⟩ ⟨rfl, rfl⟩ hl.1 rfl (qz_b rfl) dX1_tell_230 hf (fun _ _ h9 => c_X0_rule hg h9) (fun r31 s32 H locs hf hM => ?_)
      obtain ⟨hz9, hf⟩ := wt_bz_of hf
      exact wt_zret hx hb hr hlk hK hM hz9 hf dX1_tell_233
    refine wq_key hf (fun e9 hf => ?_) (fun n2_118 hf => ?_)
    · refine lv_tableIn (off := 161) (tgt := 185) hx hb dX1_tell_24 (by rw [e9]; decide) (by rw [e9]; decide) (by rw [e9]; rfl) (by decide) ?_
      refine lv_aload_n hx hb dX1_tell_185 rfl (lv_at hl 2 rfl) ?_
      refine lv_aload_n hx hb dX1_tell_186 rfl (lv_at hl 1 rfl) ?_
      refine lv_iload_n hx hb dX1_tell_187 rfl (lv_at hl 0 rfl) ?_
      refine lv_iconst (v := 1) hx hb dX1_tell_188 (by decide) ?_
      refine wt_callVi (As := [.int (x2 + (1 : Int32)), .int (1 : Int32)]) (rest := [.ref (B + g)]) hx hb hml hts hown hK hM wt_rc_X1 cw_X1_33 hd_X1_number rfl ⟨qz_b rfl, qz_b rfl⟩ ⟨rfl, rfl⟩ hl.1 rfl (qz_b rfl) dX1_tell_189 hf (fun _ _ h9 => c_X1_number h9) (fun r33 s34 H locs hf hM => ?_)
      refine lv_aload_n hx hb dX1_tell_192 rfl (lv_at hl 1 rfl) ?_
      refine lv_iload_n hx hb dX1_tell_193 rfl (lv_at hl 0 rfl) ?_
      refine lv_iconst (v := 1) hx hb dX1_tell_194 (by decide) ?_
      refine lv_iadd hx hb dX1_tell_195 ?_
      refine lv_iconst (v := 1) hx hb dX1_tell_196 (by decide) ?_
      refine wt_callVi (As := [.int ((x2 + (1 : Int32)) + (1 : Int32)), .int (1 : Int32)]) (rest := [.int r33, .ref (B + g)]) hx hb hml hts hown hK hM wt_rc_X1 cw_X1_33 hd_X1_number rfl ⟨qz_b rfl, qz_b rfl⟩ ⟨rfl, rfl⟩ hl.1 rfl (qz_b rfl) dX1_tell_197 hf (fun _ _ h9 => c_X1_number h9) (fun r35 s36 H locs hf hM => ?_)
      refine wt_callVi (As := [.int r33, .int r35]) (rest := []) hx hb hml hts hown hK hM (wt_rc_X0 hg) cw_X1_49 hd_X0_price rfl ⟨qz_b rfl, qz_b rfl⟩ ⟨rfl, rfl⟩ hl.1 rfl (qz_b rfl) dX1_tell_200 hf (fun _ _ h9 => c_X0_price hg h9) (fun r37 s38 H locs hf hM => ?_)
      obtain ⟨hz9, hf⟩ := wt_bz_of hf
      exact wt_zret hx hb hr hlk hK hM hz9 hf dX1_tell_203
    refine wq_key hf (fun e9 hf => ?_) (fun n2_119 hf => ?_)
    · refine lv_tableIn (off := 180) (tgt := 204) hx hb dX1_tell_24 (by rw [e9]; decide) (by rw [e9]; decide) (by rw [e9]; rfl) (by decide) ?_
      refine lv_aload_n hx hb dX1_tell_204 rfl (lv_at hl 2 rfl) ?_
      refine lv_aload_n hx hb dX1_tell_205 rfl (lv_at hl 1 rfl) ?_
      refine lv_iload_n hx hb dX1_tell_206 rfl (lv_at hl 0 rfl) ?_
      refine lv_iconst (v := 1) hx hb dX1_tell_207 (by decide) ?_
      refine wt_callVi (As := [.int (x2 + (1 : Int32)), .int (1 : Int32)]) (rest := [.ref (B + g)]) hx hb hml hts hown hK hM wt_rc_X1 cw_X1_33 hd_X1_number rfl ⟨qz_b rfl, qz_b rfl⟩ ⟨rfl, rfl⟩ hl.1 rfl (qz_b rfl) dX1_tell_208 hf (fun _ _ h9 => c_X1_number h9) (fun r39 s40 H locs hf hM => ?_)
      refine lv_aload_n hx hb dX1_tell_211 rfl (lv_at hl 1 rfl) ?_
      refine lv_iload_n hx hb dX1_tell_212 rfl (lv_at hl 0 rfl) ?_
      refine lv_iconst (v := 1) hx hb dX1_tell_213 (by decide) ?_
      refine lv_iadd hx hb dX1_tell_214 ?_
      refine lv_iconst (v := 1) hx hb dX1_tell_215 (by decide) ?_
      refine wt_callVi (As := [.int ((x2 + (1 : Int32)) + (1 : Int32)), .int (1 : Int32)]) (rest := [.int r39, .ref (B + g)]) hx hb hml hts hown hK hM wt_rc_X1 cw_X1_33 hd_X1_number rfl ⟨qz_b rfl, qz_b rfl⟩ ⟨rfl, rfl⟩ hl.1 rfl (qz_b rfl) dX1_tell_216 hf (fun _ _ h9 => c_X1_number h9) (fun r41 s42 H locs hf hM => ?_)
      refine wt_callVi (As := [.int r39, .int r41]) (rest := []) hx hb hml hts hown hK hM (wt_rc_X0 hg) cw_X1_52 hd_X0_flip rfl ⟨qz_b rfl, qz_b rfl⟩ ⟨rfl, rfl⟩ hl.1 rfl (qz_b rfl) dX1_tell_219 hf (fun _ _ h9 => c_X0_flip hg h9) (fun r43 s44 H locs hf hM => ?_)
      obtain ⟨hz9, hf⟩ := wt_bz_of hf
      exact wt_zret hx hb hr hlk hK hM hz9 hf dX1_tell_222
    refine wq_tableD (ks := [(100 : Int32), (108 : Int32), (112 : Int32), (115 : Int32), (117 : Int32), (118 : Int32), (119 : Int32)]) (tgt := 264) hx hb dX1_tell_24 (List.forall_mem_cons.mpr ⟨n2_100, List.forall_mem_cons.mpr ⟨n2_108, List.forall_mem_cons.mpr ⟨n2_112, List.forall_mem_cons.mpr ⟨n2_115, List.forall_mem_cons.mpr ⟨n2_117, List.forall_mem_cons.mpr ⟨n2_118, List.forall_mem_cons.mpr ⟨n2_119, fun _ h9 => absurd h9 List.not_mem_nil⟩⟩⟩⟩⟩⟩⟩) (by decide) (by decide) ?_
    refine lv_iconst (v := 0) hx hb dX1_tell_264 (by decide) ?_
    exact wt_zret hx hb hr hlk hK hM (by decide) hf dX1_tell_265
  exact w_X1_tell_12 C hf hM (lv_sub hl [] rfl)
end
set_option maxHeartbeats 4000000 in
set_option maxRecDepth 100000 in
theorem c_X1_tell {l : Launch} {D : va_G} {tI tII : ClassId} {B F : Nat} {g : Nat} {x2 : Int32} {σ σ' : Mem} {r : Int32} (hg : wt_isH g) (hf : f_X1_tell F g x2 σ = some (r, σ')) : wt_Mi l yX1_tell cX1_tell 4 (some .boolean) rm_X1_tell [.ref (B + 83), .ref (B + g), .int x2] D tI tII B σ r σ' := by
  refine Met.ofW (cc := cX1_tell) (maxL := 4) (ret := (some .boolean)) (by decide) rfl ?_
  intro p e s m args below meth c s₁ B9 hml hv
  obtain ⟨rfl, hP, hK⟩ := hv
  have hl := lv_entry ([.ref (B + 83), .ref (B + g), .int x2]) (n := 4) (qz_b rfl)
  rw [lg_entry_eq]
  generalize (lg_sl ([.ref (B + 83), .ref (B + g), .int x2]) ++ List.replicate (4 - (lg_sl ([.ref (B + 83), .ref (B + g), .int x2])).length) Slot.unset).toArray = ls at hl ⊢
  exact w_X1_tell_0 (wt_C_of B9 hml hK) hg hf ⟨hP, va_S.rf⟩ hl
section
variable {p : Program} {l : Launch} {e : Env} {s : State} {m : MethodId} {args : Array Value} {below : List Frame} {meth : Method} {c : Code} {D : va_G} {tI tII : ClassId} {B : Nat}
set_option maxHeartbeats 4000000 in
set_option maxRecDepth 100000 in
theorem w_X2_forget_0 (C : wt_C p s m args meth c RX2 cX2_forget 1 none D tI tII) {F : Nat} {σ : Mem} {σ' : Mem} {H : Heap} {locs : List Loc} {ls : Array Slot} (hf : f_X2_forget F σ = some ((), σ')) (hM : wt_St D tI tII B σ s H locs) (hl : lv_has ls 1 [(0, .ref (B + 70))]) : W p l e rm_X2_forget s m args below meth c H locs 0 0 (MQ below (wt_Qv D tI tII B σ') args s 0 0 (fun q => B ≤ q)) (F0 m 0 ls []) := by
  obtain ⟨hx, hb, hts, hown, hml, hr, hlk, hK⟩ := id C
  replace hf := Eq.trans f_X2_forget_e.symm hf
  refine lv_aload_n hx hb dX2_forget_0 rfl (lv_at hl 0 rfl) ?_
  refine lv_iconst (v := 0) hx hb dX2_forget_1 (by decide) ?_
  refine pf_X2_size  hx hb hts hown hK hM tw_84 dX2_forget_2 hf (fun s1 H locs hf hM => ?_)
  exact wt_vret hx hb hr hlk hK hM hf dX2_forget_5
end
set_option maxHeartbeats 4000000 in
set_option maxRecDepth 100000 in
theorem c_X2_forget {l : Launch} {D : va_G} {tI tII : ClassId} {B F : Nat} {σ σ' : Mem} (hf : f_X2_forget F σ = some ((), σ')) : wt_Mv l yX2_forget cX2_forget 1 none rm_X2_forget [.ref (B + 70)] D tI tII B σ σ' := by
  refine Met.ofW (cc := cX2_forget) (maxL := 1) (ret := none) (by decide) rfl ?_
  intro p e s m args below meth c s₁ B9 hml hv
  obtain ⟨rfl, hP, hK⟩ := hv
  have hl := lv_entry ([.ref (B + 70)]) (n := 1) (qz_b rfl)
  rw [lg_entry_eq]
  generalize (lg_sl ([.ref (B + 70)]) ++ List.replicate (1 - (lg_sl ([.ref (B + 70)])).length) Slot.unset).toArray = ls at hl ⊢
  exact w_X2_forget_0 (wt_C_of B9 hml hK) hf ⟨hP, va_S.rf⟩ hl
section
variable {p : Program} {l : Launch} {e : Env} {s : State} {m : MethodId} {args : Array Value} {below : List Frame} {meth : Method} {c : Code} {D : va_G} {tI tII : ClassId} {B : Nat}
set_option maxHeartbeats 4000000 in
set_option maxRecDepth 100000 in
theorem w_X2_nextSlot_48 (C : wt_C p s m args meth c RX2 cX2_nextSlot 2 (some .int) D tI tII) {F : Nat} {x1 : Int32} {σ : Mem} {r : Int32} {σ' : Mem} {H : Heap} {locs : List Loc} {ls : Array Slot} (hf : j_X2_nextSlot_48 F x1 σ = some (r, σ')) (hM : wt_St D tI tII B σ s H locs) (hl : lv_has ls 2 [(1, .int x1)]) : W p l e rm_X2_nextSlot s m args below meth c H locs 0 0 (MQ below (wt_Qi D tI tII B r σ') args s 0 0 (fun q => B ≤ q)) (F0 m 48 ls []) := by
  obtain ⟨hx, hb, hts, hown, hml, hr, hlk, hK⟩ := id C
  replace hf := Eq.trans j_X2_nextSlot_48_e.symm hf
  refine lv_iload_n hx hb dX2_nextSlot_48 rfl (lv_at hl 0 rfl) ?_
  exact wt_iret hx hb hr hlk hK hM hf dX2_nextSlot_49
set_option maxHeartbeats 4000000 in
set_option maxRecDepth 100000 in
theorem w_X2_nextSlot_0 (C : wt_C p s m args meth c RX2 cX2_nextSlot 2 (some .int) D tI tII) {F : Nat} {σ : Mem} {r : Int32} {σ' : Mem} {H : Heap} {locs : List Loc} {ls : Array Slot} (hf : f_X2_nextSlot F σ = some (r, σ')) (hM : wt_St D tI tII B σ s H locs) (hl : lv_has ls 2 [(0, .ref (B + 70))]) : W p l e rm_X2_nextSlot s m args below meth c H locs 0 0 (MQ below (wt_Qi D tI tII B r σ') args s 0 0 (fun q => B ≤ q)) (F0 m 0 ls []) := by
  obtain ⟨hx, hb, hts, hown, hml, hr, hlk, hK⟩ := id C
  replace hf := Eq.trans f_X2_nextSlot_e.symm hf
  refine lv_aload_n hx hb dX2_nextSlot_0 rfl (lv_at hl 0 rfl) ?_
  refine gf_X2_first  hx hb hts hown hK hM tw_83 dX2_nextSlot_1 ?_
  refine lv_aload_n hx hb dX2_nextSlot_4 rfl (lv_at hl 0 rfl) ?_
  refine gf_X2_size  hx hb hts hown hK hM tw_84 dX2_nextSlot_5 ?_
  refine lv_iadd hx hb dX2_nextSlot_8 ?_
  refine lv_bipush (v := 8) hx hb dX2_nextSlot_9 (by decide) ?_
  refine lv_irem hx hb dX2_nextSlot_11 (by decide) ?_
  refine wt_leti hf (fun z1 hf => ?_)
  refine lv_istore_n (lv' := [(1, .int z1), (0, .ref (B + 70))]) hx hb dX2_nextSlot_12 rfl hl (by decide) rfl (fun ls hl => ?_)
  refine lv_aload_n hx hb dX2_nextSlot_13 rfl (lv_at hl 1 rfl) ?_
  refine gf_X2_size  hx hb hts hown hK hM tw_84 dX2_nextSlot_14 ?_
  refine lv_bipush (v := 8) hx hb dX2_nextSlot_17 (by decide) ?_
  refine wq_icmp_ge (tgt := 35) hx hb dX2_nextSlot_19 (by decide) hf (fun hf => ?_) (fun hf => ?_)
  · refine lv_aload_n hx hb dX2_nextSlot_35 rfl (lv_at hl 1 rfl) ?_
    refine lv_aload_n hx hb dX2_nextSlot_36 rfl (lv_at hl 1 rfl) ?_
    refine gf_X2_first  hx hb hts hown hK hM tw_83 dX2_nextSlot_37 ?_
    refine lv_iconst (v := 1) hx hb dX2_nextSlot_40 (by decide) ?_
    refine lv_iadd hx hb dX2_nextSlot_41 ?_
    refine lv_bipush (v := 8) hx hb dX2_nextSlot_42 (by decide) ?_
    refine lv_irem hx hb dX2_nextSlot_44 (by decide) ?_
    refine pf_X2_first  hx hb hts hown hK hM tw_83 dX2_nextSlot_45 hf (fun s2 H locs hf hM => ?_)
    exact w_X2_nextSlot_48 C hf hM (lv_sub hl [0] rfl)
  refine lv_aload_n hx hb dX2_nextSlot_22 rfl (lv_at hl 1 rfl) ?_
  refine lv_dup hx hb dX2_nextSlot_23 rfl ?_
  refine gf_X2_size  hx hb hts hown hK hM tw_84 dX2_nextSlot_24 ?_
  refine lv_iconst (v := 1) hx hb dX2_nextSlot_27 (by decide) ?_
  refine lv_iadd hx hb dX2_nextSlot_28 ?_
  refine pf_X2_size  hx hb hts hown hK hM tw_84 dX2_nextSlot_29 hf (fun s3 H locs hf hM => ?_)
  refine lv_goto (tgt := 48) hx hb dX2_nextSlot_32 (by decide) ?_
  exact w_X2_nextSlot_48 C hf hM (lv_sub hl [0] rfl)
end
set_option maxHeartbeats 4000000 in
set_option maxRecDepth 100000 in
theorem c_X2_nextSlot {l : Launch} {D : va_G} {tI tII : ClassId} {B F : Nat} {σ σ' : Mem} {r : Int32} (hf : f_X2_nextSlot F σ = some (r, σ')) : wt_Mi l yX2_nextSlot cX2_nextSlot 2 (some .int) rm_X2_nextSlot [.ref (B + 70)] D tI tII B σ r σ' := by
  refine Met.ofW (cc := cX2_nextSlot) (maxL := 2) (ret := (some .int)) (by decide) rfl ?_
  intro p e s m args below meth c s₁ B9 hml hv
  obtain ⟨rfl, hP, hK⟩ := hv
  have hl := lv_entry ([.ref (B + 70)]) (n := 2) (qz_b rfl)
  rw [lg_entry_eq]
  generalize (lg_sl ([.ref (B + 70)]) ++ List.replicate (2 - (lg_sl ([.ref (B + 70)])).length) Slot.unset).toArray = ls at hl ⊢
  exact w_X2_nextSlot_0 (wt_C_of B9 hml hK) hf ⟨hP, va_S.rf⟩ hl
section
variable {p : Program} {l : Launch} {e : Env} {s : State} {m : MethodId} {args : Array Value} {below : List Frame} {meth : Method} {c : Code} {D : va_G} {tI tII : ClassId} {B : Nat}
set_option maxHeartbeats 4000000 in
set_option maxRecDepth 100000 in
theorem w_X2_keep_0 (C : wt_C p s m args meth c RX2 cX2_keep 5 none D tI tII) {F : Nat} {x1 : Int32} {x2 : Int32} {x3 : Int32} {σ : Mem} {σ' : Mem} {H : Heap} {locs : List Loc} {ls : Array Slot} (hf : f_X2_keep F x1 x2 x3 σ = some ((), σ')) (hM : wt_St D tI tII B σ s H locs) (hl : lv_has ls 5 [(0, .ref (B + 70)), (1, .int x1), (2, .int x2), (3, .int x3)]) : W p l e rm_X2_keep s m args below meth c H locs 0 0 (MQ below (wt_Qv D tI tII B σ') args s 0 0 (fun q => B ≤ q)) (F0 m 0 ls []) := by
  obtain ⟨hx, hb, hts, hown, hml, hr, hlk, hK⟩ := id C
  replace hf := Eq.trans f_X2_keep_e.symm hf
  refine lv_aload_n hx hb dX2_keep_0 rfl (lv_at hl 0 rfl) ?_
  refine wt_callVi (As := []) (rest := []) hx hb hml hts hown hK hM wt_rc_X2 cw_X2_33 hd_X2_nextSlot rfl ⟨qz_b rfl, qz_b rfl⟩ ⟨rfl, rfl⟩ hl.1 rfl (qz_b rfl) dX2_keep_1 hf (fun _ _ h9 => c_X2_nextSlot h9) (fun r1 s2 H locs hf hM => ?_)
  refine lv_istore (lv' := [(4, .int r1), (0, .ref (B + 70)), (1, .int x1), (2, .int x2), (3, .int x3)]) hx hb dX2_keep_4 hl (by decide) rfl (fun ls hl => ?_)
  refine lv_aload_n hx hb dX2_keep_6 rfl (lv_at hl 1 rfl) ?_
  refine gf_X2_whats  hx hb hts hown hK hM tw_79 dX2_keep_7 ?_
  refine lv_iload hx hb dX2_keep_10 (lv_at hl 0 rfl) ?_
  refine lv_iload_n hx hb dX2_keep_12 rfl (lv_at hl 2 rfl) ?_
  obtain ⟨i3, hf⟩ := wt_chk_of hf
  refine wt_ist hx hb hK hM wt_a71 i3 dX2_keep_13 hf (fun s4 H locs hf hM => ?_)
  refine lv_aload_n hx hb dX2_keep_14 rfl (lv_at hl 1 rfl) ?_
  refine gf_X2_places  hx hb hts hown hK hM tw_80 dX2_keep_15 ?_
  refine lv_iload hx hb dX2_keep_18 (lv_at hl 0 rfl) ?_
  refine lv_iload_n hx hb dX2_keep_20 rfl (lv_at hl 3 rfl) ?_
  refine wt_ist hx hb hK hM wt_a72 i3 dX2_keep_21 hf (fun s5 H locs hf hM => ?_)
  refine lv_aload_n hx hb dX2_keep_22 rfl (lv_at hl 1 rfl) ?_
  refine gf_X2_olds  hx hb hts hown hK hM tw_81 dX2_keep_23 ?_
  refine lv_iload hx hb dX2_keep_26 (lv_at hl 0 rfl) ?_
  refine lv_iload_n hx hb dX2_keep_28 rfl (lv_at hl 4 rfl) ?_
  refine wt_ist hx hb hK hM wt_a73 i3 dX2_keep_29 hf (fun s6 H locs hf hM => ?_)
  exact wt_vret hx hb hr hlk hK hM hf dX2_keep_30
end
set_option maxHeartbeats 4000000 in
set_option maxRecDepth 100000 in
theorem c_X2_keep {l : Launch} {D : va_G} {tI tII : ClassId} {B F : Nat} {x1 : Int32} {x2 : Int32} {x3 : Int32} {σ σ' : Mem} (hf : f_X2_keep F x1 x2 x3 σ = some ((), σ')) : wt_Mv l yX2_keep cX2_keep 5 none rm_X2_keep [.ref (B + 70), .int x1, .int x2, .int x3] D tI tII B σ σ' := by
  refine Met.ofW (cc := cX2_keep) (maxL := 5) (ret := none) (by decide) rfl ?_
  intro p e s m args below meth c s₁ B9 hml hv
  obtain ⟨rfl, hP, hK⟩ := hv
  have hl := lv_entry ([.ref (B + 70), .int x1, .int x2, .int x3]) (n := 5) (qz_b rfl)
  rw [lg_entry_eq]
  generalize (lg_sl ([.ref (B + 70), .int x1, .int x2, .int x3]) ++ List.replicate (5 - (lg_sl ([.ref (B + 70), .int x1, .int x2, .int x3])).length) Slot.unset).toArray = ls at hl ⊢
  exact w_X2_keep_0 (wt_C_of B9 hml hK) hf ⟨hP, va_S.rf⟩ hl
