theorem dX4_comesTold_0 : decode cX4_comesTold 0 = .ok (.aload_n 0, 1) := qd_p qo_42 (by decide +kernel)
theorem dX4_comesTold_1 : decode cX4_comesTold 1 = .ok (.getfield 46, 3) := qz_2 .getfield 0 46 qo_180 (by decide +kernel) rfl
theorem dX4_comesTold_4 : decode cX4_comesTold 4 = .ok (.iconst 4, 1) := qd_p qo_7 (by decide +kernel)
theorem dX4_comesTold_5 : decode cX4_comesTold 5 = .ok (.iload_n 1, 1) := qd_p qo_27 (by decide +kernel)
theorem dX4_comesTold_6 : decode cX4_comesTold 6 = .ok (.imul, 1) := qd_p qo_104 (by decide +kernel)
theorem dX4_comesTold_7 : decode cX4_comesTold 7 = .ok (.iaload, 1) := qd_p qo_46 (by decide +kernel)
theorem dX4_comesTold_8 : decode cX4_comesTold 8 = .ok (.istore_n 2, 1) := qd_p qo_61 (by decide +kernel)
theorem dX4_comesTold_9 : decode cX4_comesTold 9 = .ok (.aload_n 0, 1) := qd_p qo_42 (by decide +kernel)
theorem dX4_comesTold_10 : decode cX4_comesTold 10 = .ok (.getfield 46, 3) := qz_2 .getfield 0 46 qo_180 (by decide +kernel) rfl
theorem dX4_comesTold_13 : decode cX4_comesTold 13 = .ok (.iconst 4, 1) := qd_p qo_7 (by decide +kernel)
theorem dX4_comesTold_14 : decode cX4_comesTold 14 = .ok (.iload_n 1, 1) := qd_p qo_27 (by decide +kernel)
theorem dX4_comesTold_15 : decode cX4_comesTold 15 = .ok (.imul, 1) := qd_p qo_104 (by decide +kernel)
theorem dX4_comesTold_16 : decode cX4_comesTold 16 = .ok (.iconst 1, 1) := qd_p qo_4 (by decide +kernel)
theorem dX4_comesTold_17 : decode cX4_comesTold 17 = .ok (.iadd, 1) := qd_p qo_96 (by decide +kernel)
theorem dX4_comesTold_18 : decode cX4_comesTold 18 = .ok (.iaload, 1) := qd_p qo_46 (by decide +kernel)
theorem dX4_comesTold_19 : decode cX4_comesTold 19 = .ok (.istore_n 3, 1) := qd_p qo_62 (by decide +kernel)
theorem dX4_comesTold_20 : decode cX4_comesTold 20 = .ok (.aload_n 0, 1) := qd_p qo_42 (by decide +kernel)
theorem dX4_comesTold_21 : decode cX4_comesTold 21 = .ok (.getfield 46, 3) := qz_2 .getfield 0 46 qo_180 (by decide +kernel) rfl
theorem dX4_comesTold_24 : decode cX4_comesTold 24 = .ok (.iconst 4, 1) := qd_p qo_7 (by decide +kernel)
theorem dX4_comesTold_25 : decode cX4_comesTold 25 = .ok (.iload_n 1, 1) := qd_p qo_27 (by decide +kernel)
theorem dX4_comesTold_26 : decode cX4_comesTold 26 = .ok (.imul, 1) := qd_p qo_104 (by decide +kernel)
theorem dX4_comesTold_27 : decode cX4_comesTold 27 = .ok (.iconst 2, 1) := qd_p qo_5 (by decide +kernel)
theorem dX4_comesTold_28 : decode cX4_comesTold 28 = .ok (.iadd, 1) := qd_p qo_96 (by decide +kernel)
theorem dX4_comesTold_29 : decode cX4_comesTold 29 = .ok (.iaload, 1) := qd_p qo_46 (by decide +kernel)
theorem dX4_comesTold_30 : decode cX4_comesTold 30 = .ok (.istore 4, 2) := qz_1 .istore 4 qo_54 (by decide +kernel)
theorem dX4_comesTold_32 : decode cX4_comesTold 32 = .ok (.aload_n 0, 1) := qd_p qo_42 (by decide +kernel)
theorem dX4_comesTold_33 : decode cX4_comesTold 33 = .ok (.getfield 46, 3) := qz_2 .getfield 0 46 qo_180 (by decide +kernel) rfl
theorem dX4_comesTold_36 : decode cX4_comesTold 36 = .ok (.iconst 4, 1) := qd_p qo_7 (by decide +kernel)
theorem dX4_comesTold_37 : decode cX4_comesTold 37 = .ok (.iload_n 1, 1) := qd_p qo_27 (by decide +kernel)
theorem dX4_comesTold_38 : decode cX4_comesTold 38 = .ok (.imul, 1) := qd_p qo_104 (by decide +kernel)
theorem dX4_comesTold_39 : decode cX4_comesTold 39 = .ok (.iconst 3, 1) := qd_p qo_6 (by decide +kernel)
theorem dX4_comesTold_40 : decode cX4_comesTold 40 = .ok (.iadd, 1) := qd_p qo_96 (by decide +kernel)
theorem dX4_comesTold_41 : decode cX4_comesTold 41 = .ok (.iaload, 1) := qd_p qo_46 (by decide +kernel)
theorem dX4_comesTold_42 : decode cX4_comesTold 42 = .ok (.istore 5, 2) := qz_1 .istore 5 qo_54 (by decide +kernel)
theorem dX4_comesTold_44 : decode cX4_comesTold 44 = .ok (.iconst 1, 1) := qd_p qo_4 (by decide +kernel)
theorem dX4_comesTold_45 : decode cX4_comesTold 45 = .ok (.istore 6, 2) := qz_1 .istore 6 qo_54 (by decide +kernel)
theorem dX4_comesTold_47 : decode cX4_comesTold 47 = .ok (.aload_n 0, 1) := qd_p qo_42 (by decide +kernel)
theorem dX4_comesTold_48 : decode cX4_comesTold 48 = .ok (.getfield 43, 3) := qz_2 .getfield 0 43 qo_180 (by decide +kernel) rfl
theorem dX4_comesTold_51 : decode cX4_comesTold 51 = .ok (.iload_n 1, 1) := qd_p qo_27 (by decide +kernel)
theorem dX4_comesTold_52 : decode cX4_comesTold 52 = .ok (.iaload, 1) := qd_p qo_46 (by decide +kernel)
theorem dX4_comesTold_53 : decode cX4_comesTold 53 = .ok (.tableswitch 296 108 119 #[114, 296, 296, 296, 63, 296, 296, 149, 296, 280, 211, 239], 63) := by decide +kernel
theorem dX4_comesTold_116 : decode cX4_comesTold 116 = .ok (.iload_n 2, 1) := qd_p qo_28 (by decide +kernel)
theorem dX4_comesTold_117 : decode cX4_comesTold 117 = .ok (.sipush 255, 3) := qz_s2 .sipush 0 255 qo_17 (by decide +kernel) rfl
theorem dX4_comesTold_120 : decode cX4_comesTold 120 = .ok (.if_icmp .gt 16, 3) := qz_s2 (.if_icmp .gt) 0 16 qo_163 (by decide +kernel) rfl
theorem dX4_comesTold_123 : decode cX4_comesTold 123 = .ok (.aload_n 0, 1) := qd_p qo_42 (by decide +kernel)
theorem dX4_comesTold_124 : decode cX4_comesTold 124 = .ok (.getfield 81, 3) := qz_2 .getfield 0 81 qo_180 (by decide +kernel) rfl
theorem dX4_comesTold_127 : decode cX4_comesTold 127 = .ok (.bipush 6, 2) := qz_s1 .bipush 6 qo_16 (by decide +kernel) rfl
theorem dX4_comesTold_129 : decode cX4_comesTold 129 = .ok (.if_icmp .ge 7, 3) := qz_s2 (.if_icmp .ge) 0 7 qo_162 (by decide +kernel) rfl
theorem dX4_comesTold_132 : decode cX4_comesTold 132 = .ok (.iconst 1, 1) := qd_p qo_4 (by decide +kernel)
theorem dX4_comesTold_133 : decode cX4_comesTold 133 = .ok (.goto 4, 3) := qz_s2 .goto 0 4 qo_167 (by decide +kernel) rfl
theorem dX4_comesTold_136 : decode cX4_comesTold 136 = .ok (.iconst 0, 1) := qd_p qo_3 (by decide +kernel)
theorem dX4_comesTold_137 : decode cX4_comesTold 137 = .ok (.istore 6, 2) := qz_1 .istore 6 qo_54 (by decide +kernel)
theorem dX4_comesTold_139 : decode cX4_comesTold 139 = .ok (.iload 6, 2) := qz_1 .iload 6 qo_21 (by decide +kernel)
theorem dX4_comesTold_141 : decode cX4_comesTold 141 = .ok (.ifCond .eq 23, 3) := qz_s2 (.ifCond .eq) 0 23 qo_153 (by decide +kernel) rfl
theorem dX4_comesTold_144 : decode cX4_comesTold 144 = .ok (.aload_n 0, 1) := qd_p qo_42 (by decide +kernel)
theorem dX4_comesTold_145 : decode cX4_comesTold 145 = .ok (.getfield 13, 3) := qz_2 .getfield 0 13 qo_180 (by decide +kernel) rfl
theorem dX4_comesTold_148 : decode cX4_comesTold 148 = .ok (.aload_n 0, 1) := qd_p qo_42 (by decide +kernel)
theorem dX4_comesTold_149 : decode cX4_comesTold 149 = .ok (.getfield 81, 3) := qz_2 .getfield 0 81 qo_180 (by decide +kernel) rfl
theorem dX4_comesTold_152 : decode cX4_comesTold 152 = .ok (.iload_n 2, 1) := qd_p qo_28 (by decide +kernel)
theorem dX4_comesTold_153 : decode cX4_comesTold 153 = .ok (.iastore, 1) := qd_p qo_79 (by decide +kernel)
theorem dX4_comesTold_154 : decode cX4_comesTold 154 = .ok (.aload_n 0, 1) := qd_p qo_42 (by decide +kernel)
theorem dX4_comesTold_155 : decode cX4_comesTold 155 = .ok (.dup, 1) := qd_p qo_89 (by decide +kernel)
theorem dX4_comesTold_156 : decode cX4_comesTold 156 = .ok (.getfield 81, 3) := qz_2 .getfield 0 81 qo_180 (by decide +kernel) rfl
theorem dX4_comesTold_159 : decode cX4_comesTold 159 = .ok (.iconst 1, 1) := qd_p qo_4 (by decide +kernel)
theorem dX4_comesTold_160 : decode cX4_comesTold 160 = .ok (.iadd, 1) := qd_p qo_96 (by decide +kernel)
theorem dX4_comesTold_161 : decode cX4_comesTold 161 = .ok (.putfield 81, 3) := qz_2 .putfield 0 81 qo_181 (by decide +kernel) rfl
theorem dX4_comesTold_164 : decode cX4_comesTold 164 = .ok (.iload 6, 2) := qz_1 .iload 6 qo_21 (by decide +kernel)
theorem dX4_comesTold_166 : decode cX4_comesTold 166 = .ok (.ireturn, 1) := qd_p qo_172 (by decide +kernel)
theorem dX4_comesTold_167 : decode cX4_comesTold 167 = .ok (.iload_n 2, 1) := qd_p qo_28 (by decide +kernel)
theorem dX4_comesTold_168 : decode cX4_comesTold 168 = .ok (.bipush 6, 2) := qz_s1 .bipush 6 qo_16 (by decide +kernel) rfl
theorem dX4_comesTold_170 : decode cX4_comesTold 170 = .ok (.if_icmp .ge 15, 3) := qz_s2 (.if_icmp .ge) 0 15 qo_162 (by decide +kernel) rfl
theorem dX4_comesTold_173 : decode cX4_comesTold 173 = .ok (.aload_n 0, 1) := qd_p qo_42 (by decide +kernel)
theorem dX4_comesTold_174 : decode cX4_comesTold 174 = .ok (.getfield 74, 3) := qz_2 .getfield 0 74 qo_180 (by decide +kernel) rfl
theorem dX4_comesTold_177 : decode cX4_comesTold 177 = .ok (.iconst 5, 1) := qd_p qo_8 (by decide +kernel)
theorem dX4_comesTold_178 : decode cX4_comesTold 178 = .ok (.if_icmp .ge 7, 3) := qz_s2 (.if_icmp .ge) 0 7 qo_162 (by decide +kernel) rfl
theorem dX4_comesTold_181 : decode cX4_comesTold 181 = .ok (.iconst 1, 1) := qd_p qo_4 (by decide +kernel)
theorem dX4_comesTold_182 : decode cX4_comesTold 182 = .ok (.goto 4, 3) := qz_s2 .goto 0 4 qo_167 (by decide +kernel) rfl
theorem dX4_comesTold_185 : decode cX4_comesTold 185 = .ok (.iconst 0, 1) := qd_p qo_3 (by decide +kernel)
theorem dX4_comesTold_186 : decode cX4_comesTold 186 = .ok (.istore 6, 2) := qz_1 .istore 6 qo_54 (by decide +kernel)
theorem dX4_comesTold_188 : decode cX4_comesTold 188 = .ok (.iload 6, 2) := qz_1 .iload 6 qo_21 (by decide +kernel)
theorem dX4_comesTold_190 : decode cX4_comesTold 190 = .ok (.ifCond .eq 9, 3) := qz_s2 (.ifCond .eq) 0 9 qo_153 (by decide +kernel) rfl
theorem dX4_comesTold_193 : decode cX4_comesTold 193 = .ok (.aload_n 0, 1) := qd_p qo_42 (by decide +kernel)
theorem dX4_comesTold_194 : decode cX4_comesTold 194 = .ok (.iload_n 2, 1) := qd_p qo_28 (by decide +kernel)
theorem dX4_comesTold_195 : decode cX4_comesTold 195 = .ok (.iload_n 3, 1) := qd_p qo_29 (by decide +kernel)
theorem dX4_comesTold_196 : decode cX4_comesTold 196 = .ok (.invokevirtual 176, 3) := qz_2 .invokevirtual 0 176 qo_182 (by decide +kernel) rfl
theorem dX4_comesTold_199 : decode cX4_comesTold 199 = .ok (.iload 6, 2) := qz_1 .iload 6 qo_21 (by decide +kernel)
theorem dX4_comesTold_201 : decode cX4_comesTold 201 = .ok (.ireturn, 1) := qd_p qo_172 (by decide +kernel)
theorem dX4_comesTold_202 : decode cX4_comesTold 202 = .ok (.aload_n 0, 1) := qd_p qo_42 (by decide +kernel)
theorem dX4_comesTold_203 : decode cX4_comesTold 203 = .ok (.iload_n 2, 1) := qd_p qo_28 (by decide +kernel)
theorem dX4_comesTold_204 : decode cX4_comesTold 204 = .ok (.invokevirtual 88, 3) := qz_2 .invokevirtual 0 88 qo_182 (by decide +kernel) rfl
theorem dX4_comesTold_207 : decode cX4_comesTold 207 = .ok (.ifCond .eq 36, 3) := qz_s2 (.ifCond .eq) 0 36 qo_153 (by decide +kernel) rfl
theorem dX4_comesTold_210 : decode cX4_comesTold 210 = .ok (.iload_n 3, 1) := qd_p qo_29 (by decide +kernel)
theorem dX4_comesTold_211 : decode cX4_comesTold 211 = .ok (.iload 4, 2) := qz_1 .iload 4 qo_21 (by decide +kernel)
theorem dX4_comesTold_213 : decode cX4_comesTold 213 = .ok (.if_icmp .gt 30, 3) := qz_s2 (.if_icmp .gt) 0 30 qo_163 (by decide +kernel) rfl
theorem dX4_comesTold_216 : decode cX4_comesTold 216 = .ok (.iload 4, 2) := qz_1 .iload 4 qo_21 (by decide +kernel)
theorem dX4_comesTold_218 : decode cX4_comesTold 218 = .ok (.bipush 24, 2) := qz_s1 .bipush 24 qo_16 (by decide +kernel) rfl
theorem dX4_comesTold_220 : decode cX4_comesTold 220 = .ok (.if_icmp .ge 23, 3) := qz_s2 (.if_icmp .ge) 0 23 qo_162 (by decide +kernel) rfl
theorem dX4_comesTold_223 : decode cX4_comesTold 223 = .ok (.iload 5, 2) := qz_1 .iload 5 qo_21 (by decide +kernel)
theorem dX4_comesTold_225 : decode cX4_comesTold 225 = .ok (.bipush 9, 2) := qz_s1 .bipush 9 qo_16 (by decide +kernel) rfl
theorem dX4_comesTold_227 : decode cX4_comesTold 227 = .ok (.if_icmp .eq 12, 3) := qz_s2 (.if_icmp .eq) 0 12 qo_159 (by decide +kernel) rfl
theorem dX4_comesTold_230 : decode cX4_comesTold 230 = .ok (.aload_n 0, 1) := qd_p qo_42 (by decide +kernel)
theorem dX4_comesTold_231 : decode cX4_comesTold 231 = .ok (.iload 5, 2) := qz_1 .iload 5 qo_21 (by decide +kernel)
theorem dX4_comesTold_233 : decode cX4_comesTold 233 = .ok (.invokevirtual 179, 3) := qz_2 .invokevirtual 0 179 qo_182 (by decide +kernel) rfl
theorem dX4_comesTold_236 : decode cX4_comesTold 236 = .ok (.ifCond .eq 7, 3) := qz_s2 (.ifCond .eq) 0 7 qo_153 (by decide +kernel) rfl
theorem dX4_comesTold_239 : decode cX4_comesTold 239 = .ok (.iconst 1, 1) := qd_p qo_4 (by decide +kernel)
theorem dX4_comesTold_240 : decode cX4_comesTold 240 = .ok (.goto 4, 3) := qz_s2 .goto 0 4 qo_167 (by decide +kernel) rfl
theorem dX4_comesTold_243 : decode cX4_comesTold 243 = .ok (.iconst 0, 1) := qd_p qo_3 (by decide +kernel)
theorem dX4_comesTold_244 : decode cX4_comesTold 244 = .ok (.istore 6, 2) := qz_1 .istore 6 qo_54 (by decide +kernel)
theorem dX4_comesTold_246 : decode cX4_comesTold 246 = .ok (.iload 6, 2) := qz_1 .iload 6 qo_21 (by decide +kernel)
theorem dX4_comesTold_248 : decode cX4_comesTold 248 = .ok (.ifCond .eq 13, 3) := qz_s2 (.ifCond .eq) 0 13 qo_153 (by decide +kernel) rfl
theorem dX4_comesTold_251 : decode cX4_comesTold 251 = .ok (.aload_n 0, 1) := qd_p qo_42 (by decide +kernel)
theorem dX4_comesTold_252 : decode cX4_comesTold 252 = .ok (.iload_n 2, 1) := qd_p qo_28 (by decide +kernel)
theorem dX4_comesTold_253 : decode cX4_comesTold 253 = .ok (.iload_n 3, 1) := qd_p qo_29 (by decide +kernel)
theorem dX4_comesTold_254 : decode cX4_comesTold 254 = .ok (.iload 4, 2) := qz_1 .iload 4 qo_21 (by decide +kernel)
theorem dX4_comesTold_256 : decode cX4_comesTold 256 = .ok (.iload 5, 2) := qz_1 .iload 5 qo_21 (by decide +kernel)
theorem dX4_comesTold_258 : decode cX4_comesTold 258 = .ok (.invokevirtual 182, 3) := qz_2 .invokevirtual 0 182 qo_182 (by decide +kernel) rfl
theorem dX4_comesTold_261 : decode cX4_comesTold 261 = .ok (.iload 6, 2) := qz_1 .iload 6 qo_21 (by decide +kernel)
theorem dX4_comesTold_263 : decode cX4_comesTold 263 = .ok (.ireturn, 1) := qd_p qo_172 (by decide +kernel)
theorem dX4_comesTold_264 : decode cX4_comesTold 264 = .ok (.iload_n 2, 1) := qd_p qo_28 (by decide +kernel)
theorem dX4_comesTold_265 : decode cX4_comesTold 265 = .ok (.bipush 8, 2) := qz_s1 .bipush 8 qo_16 (by decide +kernel) rfl
theorem dX4_comesTold_267 : decode cX4_comesTold 267 = .ok (.if_icmp .ge 7, 3) := qz_s2 (.if_icmp .ge) 0 7 qo_162 (by decide +kernel) rfl
theorem dX4_comesTold_270 : decode cX4_comesTold 270 = .ok (.iconst 1, 1) := qd_p qo_4 (by decide +kernel)
theorem dX4_comesTold_271 : decode cX4_comesTold 271 = .ok (.goto 4, 3) := qz_s2 .goto 0 4 qo_167 (by decide +kernel) rfl
theorem dX4_comesTold_274 : decode cX4_comesTold 274 = .ok (.iconst 0, 1) := qd_p qo_3 (by decide +kernel)
theorem dX4_comesTold_275 : decode cX4_comesTold 275 = .ok (.istore 6, 2) := qz_1 .istore 6 qo_54 (by decide +kernel)
theorem dX4_comesTold_277 : decode cX4_comesTold 277 = .ok (.iload 6, 2) := qz_1 .iload 6 qo_21 (by decide +kernel)
theorem dX4_comesTold_279 : decode cX4_comesTold 279 = .ok (.ifCond .eq 10, 3) := qz_s2 (.ifCond .eq) 0 10 qo_153 (by decide +kernel) rfl
theorem dX4_comesTold_282 : decode cX4_comesTold 282 = .ok (.aload_n 0, 1) := qd_p qo_42 (by decide +kernel)
theorem dX4_comesTold_283 : decode cX4_comesTold 283 = .ok (.getfield 7, 3) := qz_2 .getfield 0 7 qo_180 (by decide +kernel) rfl
theorem dX4_comesTold_286 : decode cX4_comesTold 286 = .ok (.iload_n 2, 1) := qd_p qo_28 (by decide +kernel)
theorem dX4_comesTold_287 : decode cX4_comesTold 287 = .ok (.iload_n 3, 1) := qd_p qo_29 (by decide +kernel)
theorem dX4_comesTold_288 : decode cX4_comesTold 288 = .ok (.iastore, 1) := qd_p qo_79 (by decide +kernel)
theorem dX4_comesTold_289 : decode cX4_comesTold 289 = .ok (.iload 6, 2) := qz_1 .iload 6 qo_21 (by decide +kernel)
theorem dX4_comesTold_291 : decode cX4_comesTold 291 = .ok (.ireturn, 1) := qd_p qo_172 (by decide +kernel)
theorem dX4_comesTold_292 : decode cX4_comesTold 292 = .ok (.aload_n 0, 1) := qd_p qo_42 (by decide +kernel)
theorem dX4_comesTold_293 : decode cX4_comesTold 293 = .ok (.iload_n 2, 1) := qd_p qo_28 (by decide +kernel)
theorem dX4_comesTold_294 : decode cX4_comesTold 294 = .ok (.invokevirtual 179, 3) := qz_2 .invokevirtual 0 179 qo_182 (by decide +kernel) rfl
theorem dX4_comesTold_297 : decode cX4_comesTold 297 = .ok (.ifCond .eq 13, 3) := qz_s2 (.ifCond .eq) 0 13 qo_153 (by decide +kernel) rfl
theorem dX4_comesTold_300 : decode cX4_comesTold 300 = .ok (.iload_n 3, 1) := qd_p qo_29 (by decide +kernel)
theorem dX4_comesTold_301 : decode cX4_comesTold 301 = .ok (.bipush 8, 2) := qz_s1 .bipush 8 qo_16 (by decide +kernel) rfl
theorem dX4_comesTold_303 : decode cX4_comesTold 303 = .ok (.if_icmp .ge 7, 3) := qz_s2 (.if_icmp .ge) 0 7 qo_162 (by decide +kernel) rfl
theorem dX4_comesTold_306 : decode cX4_comesTold 306 = .ok (.iconst 1, 1) := qd_p qo_4 (by decide +kernel)
theorem dX4_comesTold_307 : decode cX4_comesTold 307 = .ok (.goto 4, 3) := qz_s2 .goto 0 4 qo_167 (by decide +kernel) rfl
theorem dX4_comesTold_310 : decode cX4_comesTold 310 = .ok (.iconst 0, 1) := qd_p qo_3 (by decide +kernel)
theorem dX4_comesTold_311 : decode cX4_comesTold 311 = .ok (.istore 6, 2) := qz_1 .istore 6 qo_54 (by decide +kernel)
theorem dX4_comesTold_313 : decode cX4_comesTold 313 = .ok (.iload 6, 2) := qz_1 .iload 6 qo_21 (by decide +kernel)
theorem dX4_comesTold_315 : decode cX4_comesTold 315 = .ok (.ifCond .eq 15, 3) := qz_s2 (.ifCond .eq) 0 15 qo_153 (by decide +kernel) rfl
theorem dX4_comesTold_318 : decode cX4_comesTold 318 = .ok (.aload_n 0, 1) := qd_p qo_42 (by decide +kernel)
theorem dX4_comesTold_319 : decode cX4_comesTold 319 = .ok (.getfield 13, 3) := qz_2 .getfield 0 13 qo_180 (by decide +kernel) rfl
theorem dX4_comesTold_322 : decode cX4_comesTold 322 = .ok (.iload_n 2, 1) := qd_p qo_28 (by decide +kernel)
theorem dX4_comesTold_323 : decode cX4_comesTold 323 = .ok (.dup2, 1) := qd_p qo_92 (by decide +kernel)
theorem dX4_comesTold_324 : decode cX4_comesTold 324 = .ok (.iaload, 1) := qd_p qo_46 (by decide +kernel)
theorem dX4_comesTold_325 : decode cX4_comesTold 325 = .ok (.iconst 1, 1) := qd_p qo_4 (by decide +kernel)
theorem dX4_comesTold_326 : decode cX4_comesTold 326 = .ok (.iload_n 3, 1) := qd_p qo_29 (by decide +kernel)
theorem dX4_comesTold_327 : decode cX4_comesTold 327 = .ok (.ishl, 1) := qd_p qo_120 (by decide +kernel)
theorem dX4_comesTold_328 : decode cX4_comesTold 328 = .ok (.ixor, 1) := qd_p qo_130 (by decide +kernel)
theorem dX4_comesTold_329 : decode cX4_comesTold 329 = .ok (.iastore, 1) := qd_p qo_79 (by decide +kernel)
theorem dX4_comesTold_330 : decode cX4_comesTold 330 = .ok (.iload 6, 2) := qz_1 .iload 6 qo_21 (by decide +kernel)
theorem dX4_comesTold_332 : decode cX4_comesTold 332 = .ok (.ireturn, 1) := qd_p qo_172 (by decide +kernel)
theorem dX4_comesTold_333 : decode cX4_comesTold 333 = .ok (.aload_n 0, 1) := qd_p qo_42 (by decide +kernel)
theorem dX4_comesTold_334 : decode cX4_comesTold 334 = .ok (.iload_n 2, 1) := qd_p qo_28 (by decide +kernel)
theorem dX4_comesTold_335 : decode cX4_comesTold 335 = .ok (.putfield 115, 3) := qz_2 .putfield 0 115 qo_181 (by decide +kernel) rfl
theorem dX4_comesTold_338 : decode cX4_comesTold 338 = .ok (.iload_n 2, 1) := qd_p qo_28 (by decide +kernel)
theorem dX4_comesTold_339 : decode cX4_comesTold 339 = .ok (.iconst 3, 1) := qd_p qo_6 (by decide +kernel)
theorem dX4_comesTold_340 : decode cX4_comesTold 340 = .ok (.if_icmp .ge 7, 3) := qz_s2 (.if_icmp .ge) 0 7 qo_162 (by decide +kernel) rfl
theorem dX4_comesTold_343 : decode cX4_comesTold 343 = .ok (.iconst 1, 1) := qd_p qo_4 (by decide +kernel)
theorem dX4_comesTold_344 : decode cX4_comesTold 344 = .ok (.goto 4, 3) := qz_s2 .goto 0 4 qo_167 (by decide +kernel) rfl
theorem dX4_comesTold_347 : decode cX4_comesTold 347 = .ok (.iconst 0, 1) := qd_p qo_3 (by decide +kernel)
theorem dX4_comesTold_348 : decode cX4_comesTold 348 = .ok (.ireturn, 1) := qd_p qo_172 (by decide +kernel)
theorem dX4_comesTold_349 : decode cX4_comesTold 349 = .ok (.iload_n 2, 1) := qd_p qo_28 (by decide +kernel)
theorem dX4_comesTold_350 : decode cX4_comesTold 350 = .ok (.i2l, 1) := qd_p qo_133 (by decide +kernel)
theorem dX4_comesTold_351 : decode cX4_comesTold 351 = .ok (.lconst 1, 1) := qd_p qo_10 (by decide +kernel)
theorem dX4_comesTold_352 : decode cX4_comesTold 352 = .ok (.ldc2_w 186, 3) := qz_2 .ldc2_w 0 186 qo_20 (by decide +kernel) rfl
theorem dX4_comesTold_355 : decode cX4_comesTold 355 = .ok (.invokestatic 77, 3) := qz_2 .invokestatic 0 77 qo_184 (by decide +kernel) rfl
theorem dX4_comesTold_358 : decode cX4_comesTold 358 = .ok (.ifCond .eq 19, 3) := qz_s2 (.ifCond .eq) 0 19 qo_153 (by decide +kernel) rfl
theorem dX4_comesTold_361 : decode cX4_comesTold 361 = .ok (.aload_n 0, 1) := qd_p qo_42 (by decide +kernel)
theorem dX4_comesTold_362 : decode cX4_comesTold 362 = .ok (.getfield 140, 3) := qz_2 .getfield 0 140 qo_180 (by decide +kernel) rfl
theorem dX4_comesTold_365 : decode cX4_comesTold 365 = .ok (.iload_n 2, 1) := qd_p qo_28 (by decide +kernel)
theorem dX4_comesTold_366 : decode cX4_comesTold 366 = .ok (.iadd, 1) := qd_p qo_96 (by decide +kernel)
theorem dX4_comesTold_367 : decode cX4_comesTold 367 = .ok (.sipush 9999, 3) := qz_s2 .sipush 39 15 qo_17 (by decide +kernel) rfl
theorem dX4_comesTold_370 : decode cX4_comesTold 370 = .ok (.if_icmp .gt 7, 3) := qz_s2 (.if_icmp .gt) 0 7 qo_163 (by decide +kernel) rfl
theorem dX4_comesTold_373 : decode cX4_comesTold 373 = .ok (.iconst 1, 1) := qd_p qo_4 (by decide +kernel)
theorem dX4_comesTold_374 : decode cX4_comesTold 374 = .ok (.goto 4, 3) := qz_s2 .goto 0 4 qo_167 (by decide +kernel) rfl
theorem dX4_comesTold_377 : decode cX4_comesTold 377 = .ok (.iconst 0, 1) := qd_p qo_3 (by decide +kernel)
theorem dX4_comesTold_378 : decode cX4_comesTold 378 = .ok (.istore 6, 2) := qz_1 .istore 6 qo_54 (by decide +kernel)
theorem dX4_comesTold_380 : decode cX4_comesTold 380 = .ok (.iload 6, 2) := qz_1 .iload 6 qo_21 (by decide +kernel)
theorem dX4_comesTold_382 : decode cX4_comesTold 382 = .ok (.ifCond .eq 8, 3) := qz_s2 (.ifCond .eq) 0 8 qo_153 (by decide +kernel) rfl
theorem dX4_comesTold_385 : decode cX4_comesTold 385 = .ok (.aload_n 0, 1) := qd_p qo_42 (by decide +kernel)
theorem dX4_comesTold_386 : decode cX4_comesTold 386 = .ok (.iload_n 2, 1) := qd_p qo_28 (by decide +kernel)
theorem dX4_comesTold_387 : decode cX4_comesTold 387 = .ok (.invokevirtual 188, 3) := qz_2 .invokevirtual 0 188 qo_182 (by decide +kernel) rfl
theorem dX4_comesTold_390 : decode cX4_comesTold 390 = .ok (.iload 6, 2) := qz_1 .iload 6 qo_21 (by decide +kernel)
theorem dX4_comesTold_392 : decode cX4_comesTold 392 = .ok (.ireturn, 1) := qd_p qo_172 (by decide +kernel)
theorem dX4_carry_0 : decode cX4_carry 0 = .ok (.aload_n 0, 1) := qd_p qo_42 (by decide +kernel)
theorem dX4_carry_1 : decode cX4_carry 1 = .ok (.getfield 207, 3) := qz_2 .getfield 0 207 qo_180 (by decide +kernel) rfl
theorem dX4_carry_4 : decode cX4_carry 4 = .ok (.ifCond .eq 13, 3) := qz_s2 (.ifCond .eq) 0 13 qo_153 (by decide +kernel) rfl
theorem dX4_carry_7 : decode cX4_carry 7 = .ok (.aload_n 0, 1) := qd_p qo_42 (by decide +kernel)
theorem dX4_carry_8 : decode cX4_carry 8 = .ok (.getfield 210, 3) := qz_2 .getfield 0 210 qo_180 (by decide +kernel) rfl
theorem dX4_carry_11 : decode cX4_carry 11 = .ok (.aload_n 0, 1) := qd_p qo_42 (by decide +kernel)
theorem dX4_carry_12 : decode cX4_carry 12 = .ok (.getfield 213, 3) := qz_2 .getfield 0 213 qo_180 (by decide +kernel) rfl
theorem dX4_carry_15 : decode cX4_carry 15 = .ok (.iload_n 1, 1) := qd_p qo_27 (by decide +kernel)
theorem dX4_carry_16 : decode cX4_carry 16 = .ok (.iastore, 1) := qd_p qo_79 (by decide +kernel)
theorem dX4_carry_17 : decode cX4_carry 17 = .ok (.aload_n 0, 1) := qd_p qo_42 (by decide +kernel)
theorem dX4_carry_18 : decode cX4_carry 18 = .ok (.dup, 1) := qd_p qo_89 (by decide +kernel)
theorem dX4_carry_19 : decode cX4_carry 19 = .ok (.getfield 213, 3) := qz_2 .getfield 0 213 qo_180 (by decide +kernel) rfl
theorem dX4_carry_22 : decode cX4_carry 22 = .ok (.iconst 1, 1) := qd_p qo_4 (by decide +kernel)
theorem dX4_carry_23 : decode cX4_carry 23 = .ok (.iadd, 1) := qd_p qo_96 (by decide +kernel)
theorem dX4_carry_24 : decode cX4_carry 24 = .ok (.putfield 213, 3) := qz_2 .putfield 0 213 qo_181 (by decide +kernel) rfl
theorem dX4_carry_27 : decode cX4_carry 27 = .ok (.aload_n 0, 1) := qd_p qo_42 (by decide +kernel)
theorem dX4_carry_28 : decode cX4_carry 28 = .ok (.getfield 210, 3) := qz_2 .getfield 0 210 qo_180 (by decide +kernel) rfl
theorem dX4_carry_31 : decode cX4_carry 31 = .ok (.aload_n 0, 1) := qd_p qo_42 (by decide +kernel)
theorem dX4_carry_32 : decode cX4_carry 32 = .ok (.getfield 213, 3) := qz_2 .getfield 0 213 qo_180 (by decide +kernel) rfl
theorem dX4_carry_35 : decode cX4_carry 35 = .ok (.iconst 1, 1) := qd_p qo_4 (by decide +kernel)
theorem dX4_carry_36 : decode cX4_carry 36 = .ok (.isub, 1) := qd_p qo_100 (by decide +kernel)
theorem dX4_carry_37 : decode cX4_carry 37 = .ok (.iaload, 1) := qd_p qo_46 (by decide +kernel)
theorem dX4_carry_38 : decode cX4_carry 38 = .ok (.ireturn, 1) := qd_p qo_172 (by decide +kernel)
theorem dX4_carryAll_0 : decode cX4_carryAll 0 = .ok (.aload_n 0, 1) := qd_p qo_42 (by decide +kernel)
theorem dX4_carryAll_1 : decode cX4_carryAll 1 = .ok (.aload_n 1, 1) := qd_p qo_43 (by decide +kernel)
theorem dX4_carryAll_2 : decode cX4_carryAll 2 = .ok (.putfield 210, 3) := qz_2 .putfield 0 210 qo_181 (by decide +kernel) rfl
theorem dX4_carryAll_5 : decode cX4_carryAll 5 = .ok (.aload_n 0, 1) := qd_p qo_42 (by decide +kernel)
theorem dX4_carryAll_6 : decode cX4_carryAll 6 = .ok (.iload_n 2, 1) := qd_p qo_28 (by decide +kernel)
theorem dX4_carryAll_7 : decode cX4_carryAll 7 = .ok (.putfield 207, 3) := qz_2 .putfield 0 207 qo_181 (by decide +kernel) rfl
theorem dX4_carryAll_10 : decode cX4_carryAll 10 = .ok (.aload_n 0, 1) := qd_p qo_42 (by decide +kernel)
theorem dX4_carryAll_11 : decode cX4_carryAll 11 = .ok (.iconst 0, 1) := qd_p qo_3 (by decide +kernel)
theorem dX4_carryAll_12 : decode cX4_carryAll 12 = .ok (.putfield 213, 3) := qz_2 .putfield 0 213 qo_181 (by decide +kernel) rfl
theorem dX4_carryAll_15 : decode cX4_carryAll 15 = .ok (.aload_n 0, 1) := qd_p qo_42 (by decide +kernel)
theorem dX4_carryAll_16 : decode cX4_carryAll 16 = .ok (.aload_n 0, 1) := qd_p qo_42 (by decide +kernel)
theorem dX4_carryAll_17 : decode cX4_carryAll 17 = .ok (.aload_n 0, 1) := qd_p qo_42 (by decide +kernel)
theorem dX4_carryAll_18 : decode cX4_carryAll 18 = .ok (.getfield 81, 3) := qz_2 .getfield 0 81 qo_180 (by decide +kernel) rfl
theorem dX4_carryAll_21 : decode cX4_carryAll 21 = .ok (.invokevirtual 216, 3) := qz_2 .invokevirtual 0 216 qo_182 (by decide +kernel) rfl
theorem dX4_carryAll_24 : decode cX4_carryAll 24 = .ok (.putfield 81, 3) := qz_2 .putfield 0 81 qo_181 (by decide +kernel) rfl
theorem dX4_carryAll_27 : decode cX4_carryAll 27 = .ok (.aload_n 0, 1) := qd_p qo_42 (by decide +kernel)
theorem dX4_carryAll_28 : decode cX4_carryAll 28 = .ok (.aload_n 0, 1) := qd_p qo_42 (by decide +kernel)
theorem dX4_carryAll_29 : decode cX4_carryAll 29 = .ok (.aload_n 0, 1) := qd_p qo_42 (by decide +kernel)
theorem dX4_carryAll_30 : decode cX4_carryAll 30 = .ok (.getfield 74, 3) := qz_2 .getfield 0 74 qo_180 (by decide +kernel) rfl
theorem dX4_carryAll_33 : decode cX4_carryAll 33 = .ok (.invokevirtual 216, 3) := qz_2 .invokevirtual 0 216 qo_182 (by decide +kernel) rfl
theorem dX4_carryAll_36 : decode cX4_carryAll 36 = .ok (.putfield 74, 3) := qz_2 .putfield 0 74 qo_181 (by decide +kernel) rfl
theorem dX4_carryAll_39 : decode cX4_carryAll 39 = .ok (.aload_n 0, 1) := qd_p qo_42 (by decide +kernel)
theorem dX4_carryAll_40 : decode cX4_carryAll 40 = .ok (.aload_n 0, 1) := qd_p qo_42 (by decide +kernel)
theorem dX4_carryAll_41 : decode cX4_carryAll 41 = .ok (.aload_n 0, 1) := qd_p qo_42 (by decide +kernel)
theorem dX4_carryAll_42 : decode cX4_carryAll 42 = .ok (.getfield 115, 3) := qz_2 .getfield 0 115 qo_180 (by decide +kernel) rfl
theorem dX4_carryAll_45 : decode cX4_carryAll 45 = .ok (.invokevirtual 216, 3) := qz_2 .invokevirtual 0 216 qo_182 (by decide +kernel) rfl
theorem dX4_carryAll_48 : decode cX4_carryAll 48 = .ok (.putfield 115, 3) := qz_2 .putfield 0 115 qo_181 (by decide +kernel) rfl
theorem dX4_carryAll_51 : decode cX4_carryAll 51 = .ok (.aload_n 0, 1) := qd_p qo_42 (by decide +kernel)
theorem dX4_carryAll_52 : decode cX4_carryAll 52 = .ok (.aload_n 0, 1) := qd_p qo_42 (by decide +kernel)
theorem dX4_carryAll_53 : decode cX4_carryAll 53 = .ok (.aload_n 0, 1) := qd_p qo_42 (by decide +kernel)
theorem dX4_carryAll_54 : decode cX4_carryAll 54 = .ok (.getfield 140, 3) := qz_2 .getfield 0 140 qo_180 (by decide +kernel) rfl
theorem dX4_carryAll_57 : decode cX4_carryAll 57 = .ok (.invokevirtual 216, 3) := qz_2 .invokevirtual 0 216 qo_182 (by decide +kernel) rfl
theorem dX4_carryAll_60 : decode cX4_carryAll 60 = .ok (.putfield 140, 3) := qz_2 .putfield 0 140 qo_181 (by decide +kernel) rfl
theorem dX4_carryAll_63 : decode cX4_carryAll 63 = .ok (.iconst 0, 1) := qd_p qo_3 (by decide +kernel)
theorem dX4_carryAll_64 : decode cX4_carryAll 64 = .ok (.istore_n 3, 1) := qd_p qo_62 (by decide +kernel)
theorem dX4_carryAll_65 : decode cX4_carryAll 65 = .ok (.iload_n 3, 1) := qd_p qo_29 (by decide +kernel)
theorem dX4_carryAll_66 : decode cX4_carryAll 66 = .ok (.bipush 8, 2) := qz_s1 .bipush 8 qo_16 (by decide +kernel) rfl
theorem dX4_carryAll_68 : decode cX4_carryAll 68 = .ok (.if_icmp .ge 25, 3) := qz_s2 (.if_icmp .ge) 0 25 qo_162 (by decide +kernel) rfl
theorem dX4_carryAll_71 : decode cX4_carryAll 71 = .ok (.aload_n 0, 1) := qd_p qo_42 (by decide +kernel)
theorem dX4_carryAll_72 : decode cX4_carryAll 72 = .ok (.getfield 7, 3) := qz_2 .getfield 0 7 qo_180 (by decide +kernel) rfl
theorem dX4_carryAll_75 : decode cX4_carryAll 75 = .ok (.iload_n 3, 1) := qd_p qo_29 (by decide +kernel)
theorem dX4_carryAll_76 : decode cX4_carryAll 76 = .ok (.aload_n 0, 1) := qd_p qo_42 (by decide +kernel)
theorem dX4_carryAll_77 : decode cX4_carryAll 77 = .ok (.aload_n 0, 1) := qd_p qo_42 (by decide +kernel)
theorem dX4_carryAll_78 : decode cX4_carryAll 78 = .ok (.getfield 7, 3) := qz_2 .getfield 0 7 qo_180 (by decide +kernel) rfl
theorem dX4_carryAll_81 : decode cX4_carryAll 81 = .ok (.iload_n 3, 1) := qd_p qo_29 (by decide +kernel)
theorem dX4_carryAll_82 : decode cX4_carryAll 82 = .ok (.iaload, 1) := qd_p qo_46 (by decide +kernel)
theorem dX4_carryAll_83 : decode cX4_carryAll 83 = .ok (.invokevirtual 216, 3) := qz_2 .invokevirtual 0 216 qo_182 (by decide +kernel) rfl
theorem dX4_carryAll_86 : decode cX4_carryAll 86 = .ok (.iastore, 1) := qd_p qo_79 (by decide +kernel)
theorem dX4_carryAll_87 : decode cX4_carryAll 87 = .ok (.iinc 3 1, 3) := qd_i (x := 3) (y := 1) qo_132 (by decide +kernel) rfl
theorem dX4_carryAll_90 : decode cX4_carryAll 90 = .ok (.goto (-25), 3) := qz_s2 .goto 255 231 qo_167 (by decide +kernel) rfl
theorem dX4_carryAll_93 : decode cX4_carryAll 93 = .ok (.iconst 0, 1) := qd_p qo_3 (by decide +kernel)
theorem dX4_carryAll_94 : decode cX4_carryAll 94 = .ok (.istore_n 3, 1) := qd_p qo_62 (by decide +kernel)
theorem dX4_carryAll_95 : decode cX4_carryAll 95 = .ok (.iload_n 3, 1) := qd_p qo_29 (by decide +kernel)
theorem dX4_carryAll_96 : decode cX4_carryAll 96 = .ok (.bipush 6, 2) := qz_s1 .bipush 6 qo_16 (by decide +kernel) rfl
theorem dX4_carryAll_98 : decode cX4_carryAll 98 = .ok (.if_icmp .ge 25, 3) := qz_s2 (.if_icmp .ge) 0 25 qo_162 (by decide +kernel) rfl
theorem dX4_carryAll_101 : decode cX4_carryAll 101 = .ok (.aload_n 0, 1) := qd_p qo_42 (by decide +kernel)
theorem dX4_carryAll_102 : decode cX4_carryAll 102 = .ok (.getfield 13, 3) := qz_2 .getfield 0 13 qo_180 (by decide +kernel) rfl
theorem dX4_carryAll_105 : decode cX4_carryAll 105 = .ok (.iload_n 3, 1) := qd_p qo_29 (by decide +kernel)
theorem dX4_carryAll_106 : decode cX4_carryAll 106 = .ok (.aload_n 0, 1) := qd_p qo_42 (by decide +kernel)
theorem dX4_carryAll_107 : decode cX4_carryAll 107 = .ok (.aload_n 0, 1) := qd_p qo_42 (by decide +kernel)
theorem dX4_carryAll_108 : decode cX4_carryAll 108 = .ok (.getfield 13, 3) := qz_2 .getfield 0 13 qo_180 (by decide +kernel) rfl
theorem dX4_carryAll_111 : decode cX4_carryAll 111 = .ok (.iload_n 3, 1) := qd_p qo_29 (by decide +kernel)
theorem dX4_carryAll_112 : decode cX4_carryAll 112 = .ok (.iaload, 1) := qd_p qo_46 (by decide +kernel)
theorem dX4_carryAll_113 : decode cX4_carryAll 113 = .ok (.invokevirtual 216, 3) := qz_2 .invokevirtual 0 216 qo_182 (by decide +kernel) rfl
theorem dX4_carryAll_116 : decode cX4_carryAll 116 = .ok (.iastore, 1) := qd_p qo_79 (by decide +kernel)
theorem dX4_carryAll_117 : decode cX4_carryAll 117 = .ok (.iinc 3 1, 3) := qd_i (x := 3) (y := 1) qo_132 (by decide +kernel) rfl
theorem dX4_carryAll_120 : decode cX4_carryAll 120 = .ok (.goto (-25), 3) := qz_s2 .goto 255 231 qo_167 (by decide +kernel) rfl
theorem dX4_carryAll_123 : decode cX4_carryAll 123 = .ok (.iconst 0, 1) := qd_p qo_3 (by decide +kernel)
theorem dX4_carryAll_124 : decode cX4_carryAll 124 = .ok (.istore_n 3, 1) := qd_p qo_62 (by decide +kernel)
theorem dX4_carryAll_125 : decode cX4_carryAll 125 = .ok (.iload_n 3, 1) := qd_p qo_29 (by decide +kernel)
theorem dX4_carryAll_126 : decode cX4_carryAll 126 = .ok (.iconst 5, 1) := qd_p qo_8 (by decide +kernel)
theorem dX4_carryAll_127 : decode cX4_carryAll 127 = .ok (.if_icmp .ge 41, 3) := qz_s2 (.if_icmp .ge) 0 41 qo_162 (by decide +kernel) rfl
theorem dX4_carryAll_130 : decode cX4_carryAll 130 = .ok (.aload_n 0, 1) := qd_p qo_42 (by decide +kernel)
theorem dX4_carryAll_131 : decode cX4_carryAll 131 = .ok (.getfield 16, 3) := qz_2 .getfield 0 16 qo_180 (by decide +kernel) rfl
theorem dX4_carryAll_134 : decode cX4_carryAll 134 = .ok (.iload_n 3, 1) := qd_p qo_29 (by decide +kernel)
theorem dX4_carryAll_135 : decode cX4_carryAll 135 = .ok (.aload_n 0, 1) := qd_p qo_42 (by decide +kernel)
theorem dX4_carryAll_136 : decode cX4_carryAll 136 = .ok (.aload_n 0, 1) := qd_p qo_42 (by decide +kernel)
theorem dX4_carryAll_137 : decode cX4_carryAll 137 = .ok (.getfield 16, 3) := qz_2 .getfield 0 16 qo_180 (by decide +kernel) rfl
theorem dX4_carryAll_140 : decode cX4_carryAll 140 = .ok (.iload_n 3, 1) := qd_p qo_29 (by decide +kernel)
theorem dX4_carryAll_141 : decode cX4_carryAll 141 = .ok (.iaload, 1) := qd_p qo_46 (by decide +kernel)
theorem dX4_carryAll_142 : decode cX4_carryAll 142 = .ok (.invokevirtual 216, 3) := qz_2 .invokevirtual 0 216 qo_182 (by decide +kernel) rfl
theorem dX4_carryAll_145 : decode cX4_carryAll 145 = .ok (.iastore, 1) := qd_p qo_79 (by decide +kernel)
theorem dX4_carryAll_146 : decode cX4_carryAll 146 = .ok (.aload_n 0, 1) := qd_p qo_42 (by decide +kernel)
theorem dX4_carryAll_147 : decode cX4_carryAll 147 = .ok (.getfield 19, 3) := qz_2 .getfield 0 19 qo_180 (by decide +kernel) rfl
theorem dX4_carryAll_150 : decode cX4_carryAll 150 = .ok (.iload_n 3, 1) := qd_p qo_29 (by decide +kernel)
theorem dX4_carryAll_151 : decode cX4_carryAll 151 = .ok (.aload_n 0, 1) := qd_p qo_42 (by decide +kernel)
theorem dX4_carryAll_152 : decode cX4_carryAll 152 = .ok (.aload_n 0, 1) := qd_p qo_42 (by decide +kernel)
theorem dX4_carryAll_153 : decode cX4_carryAll 153 = .ok (.getfield 19, 3) := qz_2 .getfield 0 19 qo_180 (by decide +kernel) rfl
theorem dX4_carryAll_156 : decode cX4_carryAll 156 = .ok (.iload_n 3, 1) := qd_p qo_29 (by decide +kernel)
theorem dX4_carryAll_157 : decode cX4_carryAll 157 = .ok (.iaload, 1) := qd_p qo_46 (by decide +kernel)
theorem dX4_carryAll_158 : decode cX4_carryAll 158 = .ok (.invokevirtual 216, 3) := qz_2 .invokevirtual 0 216 qo_182 (by decide +kernel) rfl
theorem dX4_carryAll_161 : decode cX4_carryAll 161 = .ok (.iastore, 1) := qd_p qo_79 (by decide +kernel)
theorem dX4_carryAll_162 : decode cX4_carryAll 162 = .ok (.iinc 3 1, 3) := qd_i (x := 3) (y := 1) qo_132 (by decide +kernel) rfl
theorem dX4_carryAll_165 : decode cX4_carryAll 165 = .ok (.goto (-40), 3) := qz_s2 .goto 255 216 qo_167 (by decide +kernel) rfl
theorem dX4_carryAll_168 : decode cX4_carryAll 168 = .ok (.iconst 0, 1) := qd_p qo_3 (by decide +kernel)
theorem dX4_carryAll_169 : decode cX4_carryAll 169 = .ok (.istore_n 3, 1) := qd_p qo_62 (by decide +kernel)
theorem dX4_carryAll_170 : decode cX4_carryAll 170 = .ok (.iload_n 3, 1) := qd_p qo_29 (by decide +kernel)
theorem dX4_carryAll_171 : decode cX4_carryAll 171 = .ok (.bipush 120, 2) := qz_s1 .bipush 120 qo_16 (by decide +kernel) rfl
theorem dX4_carryAll_173 : decode cX4_carryAll 173 = .ok (.if_icmp .ge 25, 3) := qz_s2 (.if_icmp .ge) 0 25 qo_162 (by decide +kernel) rfl
theorem dX4_carryAll_176 : decode cX4_carryAll 176 = .ok (.aload_n 0, 1) := qd_p qo_42 (by decide +kernel)
theorem dX4_carryAll_177 : decode cX4_carryAll 177 = .ok (.getfield 22, 3) := qz_2 .getfield 0 22 qo_180 (by decide +kernel) rfl
theorem dX4_carryAll_180 : decode cX4_carryAll 180 = .ok (.iload_n 3, 1) := qd_p qo_29 (by decide +kernel)
theorem dX4_carryAll_181 : decode cX4_carryAll 181 = .ok (.aload_n 0, 1) := qd_p qo_42 (by decide +kernel)
theorem dX4_carryAll_182 : decode cX4_carryAll 182 = .ok (.aload_n 0, 1) := qd_p qo_42 (by decide +kernel)
theorem dX4_carryAll_183 : decode cX4_carryAll 183 = .ok (.getfield 22, 3) := qz_2 .getfield 0 22 qo_180 (by decide +kernel) rfl
theorem dX4_carryAll_186 : decode cX4_carryAll 186 = .ok (.iload_n 3, 1) := qd_p qo_29 (by decide +kernel)
theorem dX4_carryAll_187 : decode cX4_carryAll 187 = .ok (.iaload, 1) := qd_p qo_46 (by decide +kernel)
theorem dX4_carryAll_188 : decode cX4_carryAll 188 = .ok (.invokevirtual 216, 3) := qz_2 .invokevirtual 0 216 qo_182 (by decide +kernel) rfl
theorem dX4_carryAll_191 : decode cX4_carryAll 191 = .ok (.iastore, 1) := qd_p qo_79 (by decide +kernel)
theorem dX4_carryAll_192 : decode cX4_carryAll 192 = .ok (.iinc 3 1, 3) := qd_i (x := 3) (y := 1) qo_132 (by decide +kernel) rfl
theorem dX4_carryAll_195 : decode cX4_carryAll 195 = .ok (.goto (-25), 3) := qz_s2 .goto 255 231 qo_167 (by decide +kernel) rfl
theorem dX4_carryAll_198 : decode cX4_carryAll 198 = .ok (.iconst 0, 1) := qd_p qo_3 (by decide +kernel)
theorem dX4_carryAll_199 : decode cX4_carryAll 199 = .ok (.istore_n 3, 1) := qd_p qo_62 (by decide +kernel)
theorem dX4_carryAll_200 : decode cX4_carryAll 200 = .ok (.iload_n 3, 1) := qd_p qo_29 (by decide +kernel)
theorem dX4_carryAll_201 : decode cX4_carryAll 201 = .ok (.bipush 40, 2) := qz_s1 .bipush 40 qo_16 (by decide +kernel) rfl
theorem dX4_carryAll_203 : decode cX4_carryAll 203 = .ok (.if_icmp .ge 25, 3) := qz_s2 (.if_icmp .ge) 0 25 qo_162 (by decide +kernel) rfl
theorem dX4_carryAll_206 : decode cX4_carryAll 206 = .ok (.aload_n 0, 1) := qd_p qo_42 (by decide +kernel)
theorem dX4_carryAll_207 : decode cX4_carryAll 207 = .ok (.getfield 25, 3) := qz_2 .getfield 0 25 qo_180 (by decide +kernel) rfl
theorem dX4_carryAll_210 : decode cX4_carryAll 210 = .ok (.iload_n 3, 1) := qd_p qo_29 (by decide +kernel)
theorem dX4_carryAll_211 : decode cX4_carryAll 211 = .ok (.aload_n 0, 1) := qd_p qo_42 (by decide +kernel)
theorem dX4_carryAll_212 : decode cX4_carryAll 212 = .ok (.aload_n 0, 1) := qd_p qo_42 (by decide +kernel)
theorem dX4_carryAll_213 : decode cX4_carryAll 213 = .ok (.getfield 25, 3) := qz_2 .getfield 0 25 qo_180 (by decide +kernel) rfl
theorem dX4_carryAll_216 : decode cX4_carryAll 216 = .ok (.iload_n 3, 1) := qd_p qo_29 (by decide +kernel)
theorem dX4_carryAll_217 : decode cX4_carryAll 217 = .ok (.iaload, 1) := qd_p qo_46 (by decide +kernel)
theorem dX4_carryAll_218 : decode cX4_carryAll 218 = .ok (.invokevirtual 216, 3) := qz_2 .invokevirtual 0 216 qo_182 (by decide +kernel) rfl
theorem dX4_carryAll_221 : decode cX4_carryAll 221 = .ok (.iastore, 1) := qd_p qo_79 (by decide +kernel)
theorem dX4_carryAll_222 : decode cX4_carryAll 222 = .ok (.iinc 3 1, 3) := qd_i (x := 3) (y := 1) qo_132 (by decide +kernel) rfl
theorem dX4_carryAll_225 : decode cX4_carryAll 225 = .ok (.goto (-25), 3) := qz_s2 .goto 255 231 qo_167 (by decide +kernel) rfl
theorem dX4_carryAll_228 : decode cX4_carryAll 228 = .ok (.return_, 1) := qd_p qo_177 (by decide +kernel)
theorem dX4_think_0 : decode cX4_think 0 = .ok (.aload_n 0, 1) := qd_p qo_42 (by decide +kernel)
theorem dX4_think_1 : decode cX4_think 1 = .ok (.aload_n 0, 1) := qd_p qo_42 (by decide +kernel)
theorem dX4_think_2 : decode cX4_think 2 = .ok (.getfield 49, 3) := qz_2 .getfield 0 49 qo_180 (by decide +kernel) rfl
theorem dX4_think_5 : decode cX4_think 5 = .ok (.iconst 1, 1) := qd_p qo_4 (by decide +kernel)
theorem dX4_think_6 : decode cX4_think 6 = .ok (.invokevirtual 219, 3) := qz_2 .invokevirtual 0 219 qo_182 (by decide +kernel) rfl
theorem dX4_think_9 : decode cX4_think 9 = .ok (.return_, 1) := qd_p qo_177 (by decide +kernel)
theorem dX4_again_0 : decode cX4_again 0 = .ok (.aload_n 0, 1) := qd_p qo_42 (by decide +kernel)
theorem dX4_again_1 : decode cX4_again 1 = .ok (.aload_n 0, 1) := qd_p qo_42 (by decide +kernel)
theorem dX4_again_2 : decode cX4_again 2 = .ok (.getfield 49, 3) := qz_2 .getfield 0 49 qo_180 (by decide +kernel) rfl
theorem dX4_again_5 : decode cX4_again 5 = .ok (.iconst 0, 1) := qd_p qo_3 (by decide +kernel)
theorem dX4_again_6 : decode cX4_again 6 = .ok (.invokevirtual 219, 3) := qz_2 .invokevirtual 0 219 qo_182 (by decide +kernel) rfl
theorem dX4_again_9 : decode cX4_again 9 = .ok (.return_, 1) := qd_p qo_177 (by decide +kernel)
theorem dX4_terrace_0 : decode cX4_terrace 0 = .ok (.aload_n 0, 1) := qd_p qo_42 (by decide +kernel)
theorem dX4_terrace_1 : decode cX4_terrace 1 = .ok (.iconst 0, 1) := qd_p qo_3 (by decide +kernel)
theorem dX4_terrace_2 : decode cX4_terrace 2 = .ok (.putfield 70, 3) := qz_2 .putfield 0 70 qo_181 (by decide +kernel) rfl
theorem dX4_terrace_5 : decode cX4_terrace 5 = .ok (.aload_n 0, 1) := qd_p qo_42 (by decide +kernel)
theorem dX4_terrace_6 : decode cX4_terrace 6 = .ok (.iconst 0, 1) := qd_p qo_3 (by decide +kernel)
theorem dX4_terrace_7 : decode cX4_terrace 7 = .ok (.putfield 149, 3) := qz_2 .putfield 0 149 qo_181 (by decide +kernel) rfl
theorem dX4_terrace_10 : decode cX4_terrace 10 = .ok (.aload_n 0, 1) := qd_p qo_42 (by decide +kernel)
theorem dX4_terrace_11 : decode cX4_terrace 11 = .ok (.iconst 0, 1) := qd_p qo_3 (by decide +kernel)
theorem dX4_terrace_12 : decode cX4_terrace 12 = .ok (.putfield 152, 3) := qz_2 .putfield 0 152 qo_181 (by decide +kernel) rfl
theorem dX4_terrace_15 : decode cX4_terrace 15 = .ok (.aload_n 0, 1) := qd_p qo_42 (by decide +kernel)
theorem dX4_terrace_16 : decode cX4_terrace 16 = .ok (.iconst 0, 1) := qd_p qo_3 (by decide +kernel)
theorem dX4_terrace_17 : decode cX4_terrace 17 = .ok (.putfield 166, 3) := qz_2 .putfield 0 166 qo_181 (by decide +kernel) rfl
theorem dX4_terrace_20 : decode cX4_terrace 20 = .ok (.aload_n 0, 1) := qd_p qo_42 (by decide +kernel)
theorem dX4_terrace_21 : decode cX4_terrace 21 = .ok (.getfield 152, 3) := qz_2 .getfield 0 152 qo_180 (by decide +kernel) rfl
theorem dX4_terrace_24 : decode cX4_terrace 24 = .ok (.ifCond .ne 28, 3) := qz_s2 (.ifCond .ne) 0 28 qo_154 (by decide +kernel) rfl
theorem dX4_terrace_27 : decode cX4_terrace 27 = .ok (.aload_n 0, 1) := qd_p qo_42 (by decide +kernel)
theorem dX4_terrace_28 : decode cX4_terrace 28 = .ok (.getfield 166, 3) := qz_2 .getfield 0 166 qo_180 (by decide +kernel) rfl
theorem dX4_terrace_31 : decode cX4_terrace 31 = .ok (.ifCond .eq 14, 3) := qz_s2 (.ifCond .eq) 0 14 qo_153 (by decide +kernel) rfl
theorem dX4_terrace_34 : decode cX4_terrace 34 = .ok (.aload_n 0, 1) := qd_p qo_42 (by decide +kernel)
theorem dX4_terrace_35 : decode cX4_terrace 35 = .ok (.getfield 149, 3) := qz_2 .getfield 0 149 qo_180 (by decide +kernel) rfl
theorem dX4_terrace_38 : decode cX4_terrace 38 = .ok (.aload_n 0, 1) := qd_p qo_42 (by decide +kernel)
theorem dX4_terrace_39 : decode cX4_terrace 39 = .ok (.getfield 146, 3) := qz_2 .getfield 0 146 qo_180 (by decide +kernel) rfl
theorem dX4_terrace_42 : decode cX4_terrace 42 = .ok (.if_icmp .ge 10, 3) := qz_s2 (.if_icmp .ge) 0 10 qo_162 (by decide +kernel) rfl
theorem dX4_terrace_45 : decode cX4_terrace 45 = .ok (.aload_n 0, 1) := qd_p qo_42 (by decide +kernel)
theorem dX4_terrace_46 : decode cX4_terrace 46 = .ok (.invokevirtual 192, 3) := qz_2 .invokevirtual 0 192 qo_182 (by decide +kernel) rfl
theorem dX4_terrace_49 : decode cX4_terrace 49 = .ok (.goto (-29), 3) := qz_s2 .goto 255 227 qo_167 (by decide +kernel) rfl
theorem dX4_terrace_52 : decode cX4_terrace 52 = .ok (.aload_n 0, 1) := qd_p qo_42 (by decide +kernel)
theorem dX4_terrace_53 : decode cX4_terrace 53 = .ok (.iconst 0, 1) := qd_p qo_3 (by decide +kernel)
theorem dX4_terrace_54 : decode cX4_terrace 54 = .ok (.putfield 146, 3) := qz_2 .putfield 0 146 qo_181 (by decide +kernel) rfl
theorem dX4_terrace_57 : decode cX4_terrace 57 = .ok (.aload_n 0, 1) := qd_p qo_42 (by decide +kernel)
theorem dX4_terrace_58 : decode cX4_terrace 58 = .ok (.getfield 152, 3) := qz_2 .getfield 0 152 qo_180 (by decide +kernel) rfl
theorem dX4_terrace_61 : decode cX4_terrace 61 = .ok (.ifCond .eq 12, 3) := qz_s2 (.ifCond .eq) 0 12 qo_153 (by decide +kernel) rfl
theorem dX4_terrace_64 : decode cX4_terrace 64 = .ok (.sipush (-1000), 3) := qz_s2 .sipush 252 24 qo_17 (by decide +kernel) rfl
theorem dX4_terrace_67 : decode cX4_terrace 67 = .ok (.aload_n 0, 1) := qd_p qo_42 (by decide +kernel)
theorem dX4_terrace_68 : decode cX4_terrace 68 = .ok (.getfield 149, 3) := qz_2 .getfield 0 149 qo_180 (by decide +kernel) rfl
theorem dX4_terrace_71 : decode cX4_terrace 71 = .ok (.isub, 1) := qd_p qo_100 (by decide +kernel)
theorem dX4_terrace_72 : decode cX4_terrace 72 = .ok (.ireturn, 1) := qd_p qo_172 (by decide +kernel)
theorem dX4_terrace_73 : decode cX4_terrace 73 = .ok (.aload_n 0, 1) := qd_p qo_42 (by decide +kernel)
theorem dX4_terrace_74 : decode cX4_terrace 74 = .ok (.invokevirtual 195, 3) := qz_2 .invokevirtual 0 195 qo_182 (by decide +kernel) rfl
theorem dX4_terrace_77 : decode cX4_terrace 77 = .ok (.iconst 0, 1) := qd_p qo_3 (by decide +kernel)
theorem dX4_terrace_78 : decode cX4_terrace 78 = .ok (.istore_n 1, 1) := qd_p qo_60 (by decide +kernel)
theorem dX4_terrace_79 : decode cX4_terrace 79 = .ok (.iload_n 1, 1) := qd_p qo_27 (by decide +kernel)
theorem dX4_terrace_80 : decode cX4_terrace 80 = .ok (.aload_n 0, 1) := qd_p qo_42 (by decide +kernel)
theorem dX4_terrace_81 : decode cX4_terrace 81 = .ok (.getfield 166, 3) := qz_2 .getfield 0 166 qo_180 (by decide +kernel) rfl
theorem dX4_terrace_84 : decode cX4_terrace 84 = .ok (.if_icmp .ge 32, 3) := qz_s2 (.if_icmp .ge) 0 32 qo_162 (by decide +kernel) rfl
theorem dX4_terrace_87 : decode cX4_terrace 87 = .ok (.aload_n 0, 1) := qd_p qo_42 (by decide +kernel)
theorem dX4_terrace_88 : decode cX4_terrace 88 = .ok (.iload_n 1, 1) := qd_p qo_27 (by decide +kernel)
theorem dX4_terrace_89 : decode cX4_terrace 89 = .ok (.invokevirtual 198, 3) := qz_2 .invokevirtual 0 198 qo_182 (by decide +kernel) rfl
theorem dX4_terrace_92 : decode cX4_terrace 92 = .ok (.ifCond .ne 18, 3) := qz_s2 (.ifCond .ne) 0 18 qo_154 (by decide +kernel) rfl
theorem dX4_terrace_95 : decode cX4_terrace 95 = .ok (.aload_n 0, 1) := qd_p qo_42 (by decide +kernel)
theorem dX4_terrace_96 : decode cX4_terrace 96 = .ok (.invokevirtual 201, 3) := qz_2 .invokevirtual 0 201 qo_182 (by decide +kernel) rfl
theorem dX4_terrace_99 : decode cX4_terrace 99 = .ok (.sipush (-2000), 3) := qz_s2 .sipush 248 48 qo_17 (by decide +kernel) rfl
theorem dX4_terrace_102 : decode cX4_terrace 102 = .ok (.aload_n 0, 1) := qd_p qo_42 (by decide +kernel)
theorem dX4_terrace_103 : decode cX4_terrace 103 = .ok (.getfield 40, 3) := qz_2 .getfield 0 40 qo_180 (by decide +kernel) rfl
theorem dX4_terrace_106 : decode cX4_terrace 106 = .ok (.iload_n 1, 1) := qd_p qo_27 (by decide +kernel)
theorem dX4_terrace_107 : decode cX4_terrace 107 = .ok (.iaload, 1) := qd_p qo_46 (by decide +kernel)
theorem dX4_terrace_108 : decode cX4_terrace 108 = .ok (.isub, 1) := qd_p qo_100 (by decide +kernel)
theorem dX4_terrace_109 : decode cX4_terrace 109 = .ok (.ireturn, 1) := qd_p qo_172 (by decide +kernel)
theorem dX4_terrace_110 : decode cX4_terrace 110 = .ok (.iinc 1 1, 3) := qd_i (x := 1) (y := 1) qo_132 (by decide +kernel) rfl
theorem dX4_terrace_113 : decode cX4_terrace 113 = .ok (.goto (-34), 3) := qz_s2 .goto 255 222 qo_167 (by decide +kernel) rfl
theorem dX4_terrace_116 : decode cX4_terrace 116 = .ok (.aload_n 0, 1) := qd_p qo_42 (by decide +kernel)
theorem dX4_terrace_117 : decode cX4_terrace 117 = .ok (.iconst 0, 1) := qd_p qo_3 (by decide +kernel)
theorem dX4_terrace_118 : decode cX4_terrace 118 = .ok (.putfield 204, 3) := qz_2 .putfield 0 204 qo_181 (by decide +kernel) rfl
theorem dX4_terrace_121 : decode cX4_terrace 121 = .ok (.aload_n 0, 1) := qd_p qo_42 (by decide +kernel)
theorem dX4_terrace_122 : decode cX4_terrace 122 = .ok (.getfield 166, 3) := qz_2 .getfield 0 166 qo_180 (by decide +kernel) rfl
theorem dX4_terrace_125 : decode cX4_terrace 125 = .ok (.ireturn, 1) := qd_p qo_172 (by decide +kernel)
theorem dX4_image_0 : decode cX4_image 0 = .ok (.aload_n 0, 1) := qd_p qo_42 (by decide +kernel)
theorem dX4_image_1 : decode cX4_image 1 = .ok (.iconst 0, 1) := qd_p qo_3 (by decide +kernel)
theorem dX4_image_2 : decode cX4_image 2 = .ok (.putfield 70, 3) := qz_2 .putfield 0 70 qo_181 (by decide +kernel) rfl
theorem dX4_image_5 : decode cX4_image 5 = .ok (.aload_n 0, 1) := qd_p qo_42 (by decide +kernel)
theorem dX4_image_6 : decode cX4_image 6 = .ok (.iconst 1, 1) := qd_p qo_4 (by decide +kernel)
theorem dX4_image_7 : decode cX4_image 7 = .ok (.putfield 223, 3) := qz_2 .putfield 0 223 qo_181 (by decide +kernel) rfl
theorem dX4_image_10 : decode cX4_image 10 = .ok (.aload_n 0, 1) := qd_p qo_42 (by decide +kernel)
theorem dX4_image_11 : decode cX4_image 11 = .ok (.aload_n 0, 1) := qd_p qo_42 (by decide +kernel)
theorem dX4_image_12 : decode cX4_image 12 = .ok (.getfield 52, 3) := qz_2 .getfield 0 52 qo_180 (by decide +kernel) rfl
theorem dX4_image_15 : decode cX4_image 15 = .ok (.iconst 1, 1) := qd_p qo_4 (by decide +kernel)
theorem dX4_image_16 : decode cX4_image 16 = .ok (.invokevirtual 219, 3) := qz_2 .invokevirtual 0 219 qo_182 (by decide +kernel) rfl
theorem dX4_image_19 : decode cX4_image 19 = .ok (.aload_n 0, 1) := qd_p qo_42 (by decide +kernel)
theorem dX4_image_20 : decode cX4_image 20 = .ok (.getfield 140, 3) := qz_2 .getfield 0 140 qo_180 (by decide +kernel) rfl
theorem dX4_image_23 : decode cX4_image 23 = .ok (.ireturn, 1) := qd_p qo_172 (by decide +kernel)
theorem dX4_restore_0 : decode cX4_restore 0 = .ok (.aload_n 0, 1) := qd_p qo_42 (by decide +kernel)
theorem dX4_restore_1 : decode cX4_restore 1 = .ok (.iconst 0, 1) := qd_p qo_3 (by decide +kernel)
theorem dX4_restore_2 : decode cX4_restore 2 = .ok (.putfield 70, 3) := qz_2 .putfield 0 70 qo_181 (by decide +kernel) rfl
theorem dX4_restore_5 : decode cX4_restore 5 = .ok (.aload_n 0, 1) := qd_p qo_42 (by decide +kernel)
theorem dX4_restore_6 : decode cX4_restore 6 = .ok (.getfield 223, 3) := qz_2 .getfield 0 223 qo_180 (by decide +kernel) rfl
theorem dX4_restore_9 : decode cX4_restore 9 = .ok (.ifCond .ne 10, 3) := qz_s2 (.ifCond .ne) 0 10 qo_154 (by decide +kernel) rfl
theorem dX4_restore_12 : decode cX4_restore 12 = .ok (.aload_n 0, 1) := qd_p qo_42 (by decide +kernel)
theorem dX4_restore_13 : decode cX4_restore 13 = .ok (.bipush (-3), 2) := qz_s1 .bipush 253 qo_16 (by decide +kernel) rfl
theorem dX4_restore_15 : decode cX4_restore 15 = .ok (.invokevirtual 143, 3) := qz_2 .invokevirtual 0 143 qo_182 (by decide +kernel) rfl
theorem dX4_restore_18 : decode cX4_restore 18 = .ok (.ireturn, 1) := qd_p qo_172 (by decide +kernel)
theorem dX4_restore_19 : decode cX4_restore 19 = .ok (.aload_n 0, 1) := qd_p qo_42 (by decide +kernel)
theorem dX4_restore_20 : decode cX4_restore 20 = .ok (.aload_n 0, 1) := qd_p qo_42 (by decide +kernel)
theorem dX4_restore_21 : decode cX4_restore 21 = .ok (.getfield 52, 3) := qz_2 .getfield 0 52 qo_180 (by decide +kernel) rfl
theorem dX4_restore_24 : decode cX4_restore 24 = .ok (.iconst 0, 1) := qd_p qo_3 (by decide +kernel)
theorem dX4_restore_25 : decode cX4_restore 25 = .ok (.invokevirtual 219, 3) := qz_2 .invokevirtual 0 219 qo_182 (by decide +kernel) rfl
theorem dX4_restore_28 : decode cX4_restore 28 = .ok (.aload_n 0, 1) := qd_p qo_42 (by decide +kernel)
theorem dX4_restore_29 : decode cX4_restore 29 = .ok (.iconst 0, 1) := qd_p qo_3 (by decide +kernel)
theorem dX4_restore_30 : decode cX4_restore 30 = .ok (.putfield 204, 3) := qz_2 .putfield 0 204 qo_181 (by decide +kernel) rfl
theorem dX4_restore_33 : decode cX4_restore 33 = .ok (.aload_n 0, 1) := qd_p qo_42 (by decide +kernel)
theorem dX4_restore_34 : decode cX4_restore 34 = .ok (.getfield 140, 3) := qz_2 .getfield 0 140 qo_180 (by decide +kernel) rfl
theorem dX4_restore_37 : decode cX4_restore 37 = .ok (.ireturn, 1) := qd_p qo_172 (by decide +kernel)
theorem dX4_keepTurn_0 : decode cX4_keepTurn 0 = .ok (.aload_n 0, 1) := qd_p qo_42 (by decide +kernel)
theorem dX4_keepTurn_1 : decode cX4_keepTurn 1 = .ok (.getfield 204, 3) := qz_2 .getfield 0 204 qo_180 (by decide +kernel) rfl
theorem dX4_keepTurn_4 : decode cX4_keepTurn 4 = .ok (.bipush 8, 2) := qz_s1 .bipush 8 qo_16 (by decide +kernel) rfl
theorem dX4_keepTurn_6 : decode cX4_keepTurn 6 = .ok (.if_icmp .ne 46, 3) := qz_s2 (.if_icmp .ne) 0 46 qo_160 (by decide +kernel) rfl
theorem dX4_keepTurn_9 : decode cX4_keepTurn 9 = .ok (.sipush 188, 3) := qz_s2 .sipush 0 188 qo_17 (by decide +kernel) rfl
theorem dX4_keepTurn_12 : decode cX4_keepTurn 12 = .ok (.istore_n 1, 1) := qd_p qo_60 (by decide +kernel)
theorem dX4_keepTurn_13 : decode cX4_keepTurn 13 = .ok (.iload_n 1, 1) := qd_p qo_27 (by decide +kernel)
theorem dX4_keepTurn_14 : decode cX4_keepTurn 14 = .ok (.sipush 1504, 3) := qz_s2 .sipush 5 224 qo_17 (by decide +kernel) rfl
theorem dX4_keepTurn_17 : decode cX4_keepTurn 17 = .ok (.if_icmp .ge 25, 3) := qz_s2 (.if_icmp .ge) 0 25 qo_162 (by decide +kernel) rfl
theorem dX4_keepTurn_20 : decode cX4_keepTurn 20 = .ok (.aload_n 0, 1) := qd_p qo_42 (by decide +kernel)
theorem dX4_keepTurn_21 : decode cX4_keepTurn 21 = .ok (.getfield 55, 3) := qz_2 .getfield 0 55 qo_180 (by decide +kernel) rfl
theorem dX4_keepTurn_24 : decode cX4_keepTurn 24 = .ok (.iload_n 1, 1) := qd_p qo_27 (by decide +kernel)
theorem dX4_keepTurn_25 : decode cX4_keepTurn 25 = .ok (.sipush 188, 3) := qz_s2 .sipush 0 188 qo_17 (by decide +kernel) rfl
theorem dX4_keepTurn_28 : decode cX4_keepTurn 28 = .ok (.isub, 1) := qd_p qo_100 (by decide +kernel)
theorem dX4_keepTurn_29 : decode cX4_keepTurn 29 = .ok (.aload_n 0, 1) := qd_p qo_42 (by decide +kernel)
theorem dX4_keepTurn_30 : decode cX4_keepTurn 30 = .ok (.getfield 55, 3) := qz_2 .getfield 0 55 qo_180 (by decide +kernel) rfl
theorem dX4_keepTurn_33 : decode cX4_keepTurn 33 = .ok (.iload_n 1, 1) := qd_p qo_27 (by decide +kernel)
theorem dX4_keepTurn_34 : decode cX4_keepTurn 34 = .ok (.iaload, 1) := qd_p qo_46 (by decide +kernel)
theorem dX4_keepTurn_35 : decode cX4_keepTurn 35 = .ok (.iastore, 1) := qd_p qo_79 (by decide +kernel)
theorem dX4_keepTurn_36 : decode cX4_keepTurn 36 = .ok (.iinc 1 1, 3) := qd_i (x := 1) (y := 1) qo_132 (by decide +kernel) rfl
theorem dX4_keepTurn_39 : decode cX4_keepTurn 39 = .ok (.goto (-26), 3) := qz_s2 .goto 255 230 qo_167 (by decide +kernel) rfl
theorem dX4_keepTurn_42 : decode cX4_keepTurn 42 = .ok (.aload_n 0, 1) := qd_p qo_42 (by decide +kernel)
theorem dX4_keepTurn_43 : decode cX4_keepTurn 43 = .ok (.dup, 1) := qd_p qo_89 (by decide +kernel)
theorem dX4_keepTurn_44 : decode cX4_keepTurn 44 = .ok (.getfield 204, 3) := qz_2 .getfield 0 204 qo_180 (by decide +kernel) rfl
theorem dX4_keepTurn_47 : decode cX4_keepTurn 47 = .ok (.iconst 1, 1) := qd_p qo_4 (by decide +kernel)
theorem dX4_keepTurn_48 : decode cX4_keepTurn 48 = .ok (.isub, 1) := qd_p qo_100 (by decide +kernel)
theorem dX4_keepTurn_49 : decode cX4_keepTurn 49 = .ok (.putfield 204, 3) := qz_2 .putfield 0 204 qo_181 (by decide +kernel) rfl
theorem dX4_keepTurn_52 : decode cX4_keepTurn 52 = .ok (.aload_n 0, 1) := qd_p qo_42 (by decide +kernel)
theorem dX4_keepTurn_53 : decode cX4_keepTurn 53 = .ok (.aload_n 0, 1) := qd_p qo_42 (by decide +kernel)
theorem dX4_keepTurn_54 : decode cX4_keepTurn 54 = .ok (.getfield 58, 3) := qz_2 .getfield 0 58 qo_180 (by decide +kernel) rfl
theorem dX4_keepTurn_57 : decode cX4_keepTurn 57 = .ok (.iconst 1, 1) := qd_p qo_4 (by decide +kernel)
theorem dX4_keepTurn_58 : decode cX4_keepTurn 58 = .ok (.invokevirtual 219, 3) := qz_2 .invokevirtual 0 219 qo_182 (by decide +kernel) rfl
theorem dX4_keepTurn_61 : decode cX4_keepTurn 61 = .ok (.iconst 0, 1) := qd_p qo_3 (by decide +kernel)
theorem dX4_keepTurn_62 : decode cX4_keepTurn 62 = .ok (.istore_n 1, 1) := qd_p qo_60 (by decide +kernel)
theorem dX4_keepTurn_63 : decode cX4_keepTurn 63 = .ok (.iload_n 1, 1) := qd_p qo_27 (by decide +kernel)
theorem dX4_keepTurn_64 : decode cX4_keepTurn 64 = .ok (.sipush 188, 3) := qz_s2 .sipush 0 188 qo_17 (by decide +kernel) rfl
theorem dX4_keepTurn_67 : decode cX4_keepTurn 67 = .ok (.if_icmp .ge 30, 3) := qz_s2 (.if_icmp .ge) 0 30 qo_162 (by decide +kernel) rfl
theorem dX4_keepTurn_70 : decode cX4_keepTurn 70 = .ok (.aload_n 0, 1) := qd_p qo_42 (by decide +kernel)
theorem dX4_keepTurn_71 : decode cX4_keepTurn 71 = .ok (.getfield 55, 3) := qz_2 .getfield 0 55 qo_180 (by decide +kernel) rfl
theorem dX4_keepTurn_74 : decode cX4_keepTurn 74 = .ok (.sipush 188, 3) := qz_s2 .sipush 0 188 qo_17 (by decide +kernel) rfl
theorem dX4_keepTurn_77 : decode cX4_keepTurn 77 = .ok (.aload_n 0, 1) := qd_p qo_42 (by decide +kernel)
theorem dX4_keepTurn_78 : decode cX4_keepTurn 78 = .ok (.getfield 204, 3) := qz_2 .getfield 0 204 qo_180 (by decide +kernel) rfl
theorem dX4_keepTurn_81 : decode cX4_keepTurn 81 = .ok (.imul, 1) := qd_p qo_104 (by decide +kernel)
theorem dX4_keepTurn_82 : decode cX4_keepTurn 82 = .ok (.iload_n 1, 1) := qd_p qo_27 (by decide +kernel)
theorem dX4_keepTurn_83 : decode cX4_keepTurn 83 = .ok (.iadd, 1) := qd_p qo_96 (by decide +kernel)
theorem dX4_keepTurn_84 : decode cX4_keepTurn 84 = .ok (.aload_n 0, 1) := qd_p qo_42 (by decide +kernel)
theorem dX4_keepTurn_85 : decode cX4_keepTurn 85 = .ok (.getfield 58, 3) := qz_2 .getfield 0 58 qo_180 (by decide +kernel) rfl
theorem dX4_keepTurn_88 : decode cX4_keepTurn 88 = .ok (.iload_n 1, 1) := qd_p qo_27 (by decide +kernel)
theorem dX4_keepTurn_89 : decode cX4_keepTurn 89 = .ok (.iaload, 1) := qd_p qo_46 (by decide +kernel)
theorem dX4_keepTurn_90 : decode cX4_keepTurn 90 = .ok (.iastore, 1) := qd_p qo_79 (by decide +kernel)
theorem dX4_keepTurn_91 : decode cX4_keepTurn 91 = .ok (.iinc 1 1, 3) := qd_i (x := 1) (y := 1) qo_132 (by decide +kernel) rfl
theorem dX4_keepTurn_94 : decode cX4_keepTurn 94 = .ok (.goto (-31), 3) := qz_s2 .goto 255 225 qo_167 (by decide +kernel) rfl
theorem dX4_keepTurn_97 : decode cX4_keepTurn 97 = .ok (.aload_n 0, 1) := qd_p qo_42 (by decide +kernel)
theorem dX4_keepTurn_98 : decode cX4_keepTurn 98 = .ok (.dup, 1) := qd_p qo_89 (by decide +kernel)
theorem dX4_keepTurn_99 : decode cX4_keepTurn 99 = .ok (.getfield 204, 3) := qz_2 .getfield 0 204 qo_180 (by decide +kernel) rfl
theorem dX4_keepTurn_102 : decode cX4_keepTurn 102 = .ok (.iconst 1, 1) := qd_p qo_4 (by decide +kernel)
theorem dX4_keepTurn_103 : decode cX4_keepTurn 103 = .ok (.iadd, 1) := qd_p qo_96 (by decide +kernel)
theorem dX4_keepTurn_104 : decode cX4_keepTurn 104 = .ok (.putfield 204, 3) := qz_2 .putfield 0 204 qo_181 (by decide +kernel) rfl
theorem dX4_keepTurn_107 : decode cX4_keepTurn 107 = .ok (.return_, 1) := qd_p qo_177 (by decide +kernel)
theorem dX4_back_0 : decode cX4_back 0 = .ok (.aload_n 0, 1) := qd_p qo_42 (by decide +kernel)
theorem dX4_back_1 : decode cX4_back 1 = .ok (.iconst 0, 1) := qd_p qo_3 (by decide +kernel)
theorem dX4_back_2 : decode cX4_back 2 = .ok (.putfield 70, 3) := qz_2 .putfield 0 70 qo_181 (by decide +kernel) rfl
theorem dX4_back_5 : decode cX4_back 5 = .ok (.aload_n 0, 1) := qd_p qo_42 (by decide +kernel)
theorem dX4_back_6 : decode cX4_back 6 = .ok (.getfield 204, 3) := qz_2 .getfield 0 204 qo_180 (by decide +kernel) rfl
theorem dX4_back_9 : decode cX4_back 9 = .ok (.ifCond .ne 10, 3) := qz_s2 (.ifCond .ne) 0 10 qo_154 (by decide +kernel) rfl
theorem dX4_back_12 : decode cX4_back 12 = .ok (.aload_n 0, 1) := qd_p qo_42 (by decide +kernel)
theorem dX4_back_13 : decode cX4_back 13 = .ok (.bipush (-3), 2) := qz_s1 .bipush 253 qo_16 (by decide +kernel) rfl
theorem dX4_back_15 : decode cX4_back 15 = .ok (.invokevirtual 143, 3) := qz_2 .invokevirtual 0 143 qo_182 (by decide +kernel) rfl
theorem dX4_back_18 : decode cX4_back 18 = .ok (.ireturn, 1) := qd_p qo_172 (by decide +kernel)
theorem dX4_back_19 : decode cX4_back 19 = .ok (.aload_n 0, 1) := qd_p qo_42 (by decide +kernel)
theorem dX4_back_20 : decode cX4_back 20 = .ok (.dup, 1) := qd_p qo_89 (by decide +kernel)
theorem dX4_back_21 : decode cX4_back 21 = .ok (.getfield 204, 3) := qz_2 .getfield 0 204 qo_180 (by decide +kernel) rfl
theorem dX4_back_24 : decode cX4_back 24 = .ok (.iconst 1, 1) := qd_p qo_4 (by decide +kernel)
theorem dX4_back_25 : decode cX4_back 25 = .ok (.isub, 1) := qd_p qo_100 (by decide +kernel)
theorem dX4_back_26 : decode cX4_back 26 = .ok (.putfield 204, 3) := qz_2 .putfield 0 204 qo_181 (by decide +kernel) rfl
theorem dX4_back_29 : decode cX4_back 29 = .ok (.iconst 0, 1) := qd_p qo_3 (by decide +kernel)
theorem dX4_back_30 : decode cX4_back 30 = .ok (.istore_n 1, 1) := qd_p qo_60 (by decide +kernel)
theorem dX4_back_31 : decode cX4_back 31 = .ok (.iload_n 1, 1) := qd_p qo_27 (by decide +kernel)
theorem dX4_back_32 : decode cX4_back 32 = .ok (.sipush 188, 3) := qz_s2 .sipush 0 188 qo_17 (by decide +kernel) rfl
theorem dX4_back_35 : decode cX4_back 35 = .ok (.if_icmp .ge 30, 3) := qz_s2 (.if_icmp .ge) 0 30 qo_162 (by decide +kernel) rfl
theorem dX4_back_38 : decode cX4_back 38 = .ok (.aload_n 0, 1) := qd_p qo_42 (by decide +kernel)
theorem dX4_back_39 : decode cX4_back 39 = .ok (.getfield 58, 3) := qz_2 .getfield 0 58 qo_180 (by decide +kernel) rfl
theorem dX4_back_42 : decode cX4_back 42 = .ok (.iload_n 1, 1) := qd_p qo_27 (by decide +kernel)
theorem dX4_back_43 : decode cX4_back 43 = .ok (.aload_n 0, 1) := qd_p qo_42 (by decide +kernel)
theorem dX4_back_44 : decode cX4_back 44 = .ok (.getfield 55, 3) := qz_2 .getfield 0 55 qo_180 (by decide +kernel) rfl
theorem dX4_back_47 : decode cX4_back 47 = .ok (.sipush 188, 3) := qz_s2 .sipush 0 188 qo_17 (by decide +kernel) rfl
theorem dX4_back_50 : decode cX4_back 50 = .ok (.aload_n 0, 1) := qd_p qo_42 (by decide +kernel)
theorem dX4_back_51 : decode cX4_back 51 = .ok (.getfield 204, 3) := qz_2 .getfield 0 204 qo_180 (by decide +kernel) rfl
theorem dX4_back_54 : decode cX4_back 54 = .ok (.imul, 1) := qd_p qo_104 (by decide +kernel)
theorem dX4_back_55 : decode cX4_back 55 = .ok (.iload_n 1, 1) := qd_p qo_27 (by decide +kernel)
theorem dX4_back_56 : decode cX4_back 56 = .ok (.iadd, 1) := qd_p qo_96 (by decide +kernel)
theorem dX4_back_57 : decode cX4_back 57 = .ok (.iaload, 1) := qd_p qo_46 (by decide +kernel)
theorem dX4_back_58 : decode cX4_back 58 = .ok (.iastore, 1) := qd_p qo_79 (by decide +kernel)
theorem dX4_back_59 : decode cX4_back 59 = .ok (.iinc 1 1, 3) := qd_i (x := 1) (y := 1) qo_132 (by decide +kernel) rfl
theorem dX4_back_62 : decode cX4_back 62 = .ok (.goto (-31), 3) := qz_s2 .goto 255 225 qo_167 (by decide +kernel) rfl
theorem dX4_back_65 : decode cX4_back 65 = .ok (.aload_n 0, 1) := qd_p qo_42 (by decide +kernel)
theorem dX4_back_66 : decode cX4_back 66 = .ok (.aload_n 0, 1) := qd_p qo_42 (by decide +kernel)
theorem dX4_back_67 : decode cX4_back 67 = .ok (.getfield 58, 3) := qz_2 .getfield 0 58 qo_180 (by decide +kernel) rfl
theorem dX4_back_70 : decode cX4_back 70 = .ok (.iconst 0, 1) := qd_p qo_3 (by decide +kernel)
theorem dX4_back_71 : decode cX4_back 71 = .ok (.invokevirtual 219, 3) := qz_2 .invokevirtual 0 219 qo_182 (by decide +kernel) rfl
theorem dX4_back_74 : decode cX4_back 74 = .ok (.aload_n 0, 1) := qd_p qo_42 (by decide +kernel)
theorem dX4_back_75 : decode cX4_back 75 = .ok (.getfield 204, 3) := qz_2 .getfield 0 204 qo_180 (by decide +kernel) rfl
theorem dX4_back_78 : decode cX4_back 78 = .ok (.ireturn, 1) := qd_p qo_172 (by decide +kernel)
theorem dX4_paneOf_0 : decode cX4_paneOf 0 = .ok (.aload_n 0, 1) := qd_p qo_42 (by decide +kernel)
theorem dX4_paneOf_1 : decode cX4_paneOf 1 = .ok (.iconst 0, 1) := qd_p qo_3 (by decide +kernel)
theorem dX4_paneOf_2 : decode cX4_paneOf 2 = .ok (.putfield 70, 3) := qz_2 .putfield 0 70 qo_181 (by decide +kernel) rfl
theorem dX4_paneOf_5 : decode cX4_paneOf 5 = .ok (.aload_n 0, 1) := qd_p qo_42 (by decide +kernel)
theorem dX4_paneOf_6 : decode cX4_paneOf 6 = .ok (.iload_n 1, 1) := qd_p qo_27 (by decide +kernel)
theorem dX4_paneOf_7 : decode cX4_paneOf 7 = .ok (.invokevirtual 179, 3) := qz_2 .invokevirtual 0 179 qo_182 (by decide +kernel) rfl
theorem dX4_paneOf_10 : decode cX4_paneOf 10 = .ok (.ifCond .eq 13, 3) := qz_s2 (.ifCond .eq) 0 13 qo_153 (by decide +kernel) rfl
theorem dX4_paneOf_13 : decode cX4_paneOf 13 = .ok (.iload_n 2, 1) := qd_p qo_28 (by decide +kernel)
theorem dX4_paneOf_14 : decode cX4_paneOf 14 = .ok (.i2l, 1) := qd_p qo_133 (by decide +kernel)
theorem dX4_paneOf_15 : decode cX4_paneOf 15 = .ok (.lconst 0, 1) := qd_p qo_9 (by decide +kernel)
theorem dX4_paneOf_16 : decode cX4_paneOf 16 = .ok (.lconst 1, 1) := qd_p qo_10 (by decide +kernel)
theorem dX4_paneOf_17 : decode cX4_paneOf 17 = .ok (.invokestatic 77, 3) := qz_2 .invokestatic 0 77 qo_184 (by decide +kernel) rfl
theorem dX4_paneOf_20 : decode cX4_paneOf 20 = .ok (.ifCond .ne 22, 3) := qz_s2 (.ifCond .ne) 0 22 qo_154 (by decide +kernel) rfl
theorem dX4_paneOf_23 : decode cX4_paneOf 23 = .ok (.aload_n 0, 1) := qd_p qo_42 (by decide +kernel)
theorem dX4_paneOf_24 : decode cX4_paneOf 24 = .ok (.aload_n 0, 1) := qd_p qo_42 (by decide +kernel)
theorem dX4_paneOf_25 : decode cX4_paneOf 25 = .ok (.iload_n 1, 1) := qd_p qo_27 (by decide +kernel)
theorem dX4_paneOf_26 : decode cX4_paneOf 26 = .ok (.invokevirtual 179, 3) := qz_2 .invokevirtual 0 179 qo_182 (by decide +kernel) rfl
theorem dX4_paneOf_29 : decode cX4_paneOf 29 = .ok (.ifCond .eq 8, 3) := qz_s2 (.ifCond .eq) 0 8 qo_153 (by decide +kernel) rfl
theorem dX4_paneOf_32 : decode cX4_paneOf 32 = .ok (.bipush (-2), 2) := qz_s1 .bipush 254 qo_16 (by decide +kernel) rfl
theorem dX4_paneOf_34 : decode cX4_paneOf 34 = .ok (.goto 4, 3) := qz_s2 .goto 0 4 qo_167 (by decide +kernel) rfl
theorem dX4_paneOf_37 : decode cX4_paneOf 37 = .ok (.iconst (-1), 1) := qd_p qo_2 (by decide +kernel)
theorem dX4_paneOf_38 : decode cX4_paneOf 38 = .ok (.invokevirtual 143, 3) := qz_2 .invokevirtual 0 143 qo_182 (by decide +kernel) rfl
theorem dX4_paneOf_41 : decode cX4_paneOf 41 = .ok (.ireturn, 1) := qd_p qo_172 (by decide +kernel)
theorem dX4_paneOf_42 : decode cX4_paneOf 42 = .ok (.iconst 0, 1) := qd_p qo_3 (by decide +kernel)
theorem dX4_paneOf_43 : decode cX4_paneOf 43 = .ok (.istore_n 3, 1) := qd_p qo_62 (by decide +kernel)
theorem dX4_paneOf_44 : decode cX4_paneOf 44 = .ok (.iconst 0, 1) := qd_p qo_3 (by decide +kernel)
theorem dX4_paneOf_45 : decode cX4_paneOf 45 = .ok (.istore 4, 2) := qz_1 .istore 4 qo_54 (by decide +kernel)
theorem dX4_paneOf_47 : decode cX4_paneOf 47 = .ok (.iload 4, 2) := qz_1 .iload 4 qo_21 (by decide +kernel)
theorem dX4_paneOf_49 : decode cX4_paneOf 49 = .ok (.bipush 24, 2) := qz_s1 .bipush 24 qo_16 (by decide +kernel) rfl
theorem dX4_paneOf_51 : decode cX4_paneOf 51 = .ok (.aload_n 0, 1) := qd_p qo_42 (by decide +kernel)
theorem dX4_paneOf_52 : decode cX4_paneOf 52 = .ok (.getfield 74, 3) := qz_2 .getfield 0 74 qo_180 (by decide +kernel) rfl
theorem dX4_paneOf_55 : decode cX4_paneOf 55 = .ok (.imul, 1) := qd_p qo_104 (by decide +kernel)
theorem dX4_paneOf_56 : decode cX4_paneOf 56 = .ok (.if_icmp .ge 28, 3) := qz_s2 (.if_icmp .ge) 0 28 qo_162 (by decide +kernel) rfl
theorem dX4_paneOf_59 : decode cX4_paneOf 59 = .ok (.iload_n 3, 1) := qd_p qo_29 (by decide +kernel)
theorem dX4_paneOf_60 : decode cX4_paneOf 60 = .ok (.aload_n 0, 1) := qd_p qo_42 (by decide +kernel)
theorem dX4_paneOf_61 : decode cX4_paneOf 61 = .ok (.getfield 22, 3) := qz_2 .getfield 0 22 qo_180 (by decide +kernel) rfl
theorem dX4_paneOf_64 : decode cX4_paneOf 64 = .ok (.iload 4, 2) := qz_1 .iload 4 qo_21 (by decide +kernel)
theorem dX4_paneOf_66 : decode cX4_paneOf 66 = .ok (.iaload, 1) := qd_p qo_46 (by decide +kernel)
theorem dX4_paneOf_67 : decode cX4_paneOf 67 = .ok (.iload_n 1, 1) := qd_p qo_27 (by decide +kernel)
theorem dX4_paneOf_68 : decode cX4_paneOf 68 = .ok (.if_icmp .ne 7, 3) := qz_s2 (.if_icmp .ne) 0 7 qo_160 (by decide +kernel) rfl
theorem dX4_paneOf_71 : decode cX4_paneOf 71 = .ok (.iconst 1, 1) := qd_p qo_4 (by decide +kernel)
theorem dX4_paneOf_72 : decode cX4_paneOf 72 = .ok (.goto 4, 3) := qz_s2 .goto 0 4 qo_167 (by decide +kernel) rfl
theorem dX4_paneOf_75 : decode cX4_paneOf 75 = .ok (.iconst 0, 1) := qd_p qo_3 (by decide +kernel)
theorem dX4_paneOf_76 : decode cX4_paneOf 76 = .ok (.iadd, 1) := qd_p qo_96 (by decide +kernel)
theorem dX4_paneOf_77 : decode cX4_paneOf 77 = .ok (.istore_n 3, 1) := qd_p qo_62 (by decide +kernel)
theorem dX4_paneOf_78 : decode cX4_paneOf 78 = .ok (.iinc 4 1, 3) := qd_i (x := 4) (y := 1) qo_132 (by decide +kernel) rfl
theorem dX4_paneOf_81 : decode cX4_paneOf 81 = .ok (.goto (-34), 3) := qz_s2 .goto 255 222 qo_167 (by decide +kernel) rfl
theorem dX4_paneOf_84 : decode cX4_paneOf 84 = .ok (.iload_n 2, 1) := qd_p qo_28 (by decide +kernel)
theorem dX4_paneOf_85 : decode cX4_paneOf 85 = .ok (.ifCond .ne 12, 3) := qz_s2 (.ifCond .ne) 0 12 qo_154 (by decide +kernel) rfl
theorem dX4_paneOf_88 : decode cX4_paneOf 88 = .ok (.aload_n 0, 1) := qd_p qo_42 (by decide +kernel)
theorem dX4_paneOf_89 : decode cX4_paneOf 89 = .ok (.getfield 13, 3) := qz_2 .getfield 0 13 qo_180 (by decide +kernel) rfl
theorem dX4_paneOf_92 : decode cX4_paneOf 92 = .ok (.iload_n 1, 1) := qd_p qo_27 (by decide +kernel)
theorem dX4_paneOf_93 : decode cX4_paneOf 93 = .ok (.iaload, 1) := qd_p qo_46 (by decide +kernel)
theorem dX4_paneOf_94 : decode cX4_paneOf 94 = .ok (.goto 4, 3) := qz_s2 .goto 0 4 qo_167 (by decide +kernel) rfl
theorem dX4_paneOf_97 : decode cX4_paneOf 97 = .ok (.iload_n 3, 1) := qd_p qo_29 (by decide +kernel)
theorem dX4_paneOf_98 : decode cX4_paneOf 98 = .ok (.ireturn, 1) := qd_p qo_172 (by decide +kernel)
theorem dX4_lookerOf_0 : decode cX4_lookerOf 0 = .ok (.aload_n 0, 1) := qd_p qo_42 (by decide +kernel)
theorem dX4_lookerOf_1 : decode cX4_lookerOf 1 = .ok (.iconst 0, 1) := qd_p qo_3 (by decide +kernel)
theorem dX4_lookerOf_2 : decode cX4_lookerOf 2 = .ok (.putfield 70, 3) := qz_2 .putfield 0 70 qo_181 (by decide +kernel) rfl
theorem dX4_lookerOf_5 : decode cX4_lookerOf 5 = .ok (.aload_n 0, 1) := qd_p qo_42 (by decide +kernel)
theorem dX4_lookerOf_6 : decode cX4_lookerOf 6 = .ok (.iload_n 1, 1) := qd_p qo_27 (by decide +kernel)
theorem dX4_lookerOf_7 : decode cX4_lookerOf 7 = .ok (.invokevirtual 88, 3) := qz_2 .invokevirtual 0 88 qo_182 (by decide +kernel) rfl
theorem dX4_lookerOf_10 : decode cX4_lookerOf 10 = .ok (.ifCond .eq 15, 3) := qz_s2 (.ifCond .eq) 0 15 qo_153 (by decide +kernel) rfl
theorem dX4_lookerOf_13 : decode cX4_lookerOf 13 = .ok (.iload_n 2, 1) := qd_p qo_28 (by decide +kernel)
theorem dX4_lookerOf_14 : decode cX4_lookerOf 14 = .ok (.i2l, 1) := qd_p qo_133 (by decide +kernel)
theorem dX4_lookerOf_15 : decode cX4_lookerOf 15 = .ok (.lconst 0, 1) := qd_p qo_9 (by decide +kernel)
theorem dX4_lookerOf_16 : decode cX4_lookerOf 16 = .ok (.ldc2_w 226, 3) := qz_2 .ldc2_w 0 226 qo_20 (by decide +kernel) rfl
theorem dX4_lookerOf_19 : decode cX4_lookerOf 19 = .ok (.invokestatic 77, 3) := qz_2 .invokestatic 0 77 qo_184 (by decide +kernel) rfl
theorem dX4_lookerOf_22 : decode cX4_lookerOf 22 = .ok (.ifCond .ne 22, 3) := qz_s2 (.ifCond .ne) 0 22 qo_154 (by decide +kernel) rfl
theorem dX4_lookerOf_25 : decode cX4_lookerOf 25 = .ok (.aload_n 0, 1) := qd_p qo_42 (by decide +kernel)
theorem dX4_lookerOf_26 : decode cX4_lookerOf 26 = .ok (.aload_n 0, 1) := qd_p qo_42 (by decide +kernel)
theorem dX4_lookerOf_27 : decode cX4_lookerOf 27 = .ok (.iload_n 1, 1) := qd_p qo_27 (by decide +kernel)
theorem dX4_lookerOf_28 : decode cX4_lookerOf 28 = .ok (.invokevirtual 88, 3) := qz_2 .invokevirtual 0 88 qo_182 (by decide +kernel) rfl
theorem dX4_lookerOf_31 : decode cX4_lookerOf 31 = .ok (.ifCond .eq 8, 3) := qz_s2 (.ifCond .eq) 0 8 qo_153 (by decide +kernel) rfl
theorem dX4_lookerOf_34 : decode cX4_lookerOf 34 = .ok (.bipush (-2), 2) := qz_s1 .bipush 254 qo_16 (by decide +kernel) rfl
theorem dX4_lookerOf_36 : decode cX4_lookerOf 36 = .ok (.goto 4, 3) := qz_s2 .goto 0 4 qo_167 (by decide +kernel) rfl
theorem dX4_lookerOf_39 : decode cX4_lookerOf 39 = .ok (.iconst (-1), 1) := qd_p qo_2 (by decide +kernel)
theorem dX4_lookerOf_40 : decode cX4_lookerOf 40 = .ok (.invokevirtual 143, 3) := qz_2 .invokevirtual 0 143 qo_182 (by decide +kernel) rfl
theorem dX4_lookerOf_43 : decode cX4_lookerOf 43 = .ok (.ireturn, 1) := qd_p qo_172 (by decide +kernel)
theorem dX4_lookerOf_44 : decode cX4_lookerOf 44 = .ok (.aload_n 0, 1) := qd_p qo_42 (by decide +kernel)
theorem dX4_lookerOf_45 : decode cX4_lookerOf 45 = .ok (.invokevirtual 134, 3) := qz_2 .invokevirtual 0 134 qo_182 (by decide +kernel) rfl
theorem dX4_lookerOf_48 : decode cX4_lookerOf 48 = .ok (.iload_n 2, 1) := qd_p qo_28 (by decide +kernel)
theorem dX4_lookerOf_49 : decode cX4_lookerOf 49 = .ok (.ifCond .ne 12, 3) := qz_s2 (.ifCond .ne) 0 12 qo_154 (by decide +kernel) rfl
theorem dX4_lookerOf_52 : decode cX4_lookerOf 52 = .ok (.aload_n 0, 1) := qd_p qo_42 (by decide +kernel)
theorem dX4_lookerOf_53 : decode cX4_lookerOf 53 = .ok (.getfield 16, 3) := qz_2 .getfield 0 16 qo_180 (by decide +kernel) rfl
theorem dX4_lookerOf_56 : decode cX4_lookerOf 56 = .ok (.iload_n 1, 1) := qd_p qo_27 (by decide +kernel)
theorem dX4_lookerOf_57 : decode cX4_lookerOf 57 = .ok (.iaload, 1) := qd_p qo_46 (by decide +kernel)
theorem dX4_lookerOf_58 : decode cX4_lookerOf 58 = .ok (.goto 36, 3) := qz_s2 .goto 0 36 qo_167 (by decide +kernel) rfl
theorem dX4_lookerOf_61 : decode cX4_lookerOf 61 = .ok (.iload_n 2, 1) := qd_p qo_28 (by decide +kernel)
theorem dX4_lookerOf_62 : decode cX4_lookerOf 62 = .ok (.iconst 1, 1) := qd_p qo_4 (by decide +kernel)
theorem dX4_lookerOf_63 : decode cX4_lookerOf 63 = .ok (.if_icmp .ne 12, 3) := qz_s2 (.if_icmp .ne) 0 12 qo_160 (by decide +kernel) rfl
theorem dX4_lookerOf_66 : decode cX4_lookerOf 66 = .ok (.aload_n 0, 1) := qd_p qo_42 (by decide +kernel)
theorem dX4_lookerOf_67 : decode cX4_lookerOf 67 = .ok (.getfield 19, 3) := qz_2 .getfield 0 19 qo_180 (by decide +kernel) rfl
theorem dX4_lookerOf_70 : decode cX4_lookerOf 70 = .ok (.iload_n 1, 1) := qd_p qo_27 (by decide +kernel)
theorem dX4_lookerOf_71 : decode cX4_lookerOf 71 = .ok (.iaload, 1) := qd_p qo_46 (by decide +kernel)
theorem dX4_lookerOf_72 : decode cX4_lookerOf 72 = .ok (.goto 22, 3) := qz_s2 .goto 0 22 qo_167 (by decide +kernel) rfl
theorem dX4_lookerOf_75 : decode cX4_lookerOf 75 = .ok (.iload_n 2, 1) := qd_p qo_28 (by decide +kernel)
theorem dX4_lookerOf_76 : decode cX4_lookerOf 76 = .ok (.iconst 2, 1) := qd_p qo_5 (by decide +kernel)
theorem dX4_lookerOf_77 : decode cX4_lookerOf 77 = .ok (.if_icmp .ne 11, 3) := qz_s2 (.if_icmp .ne) 0 11 qo_160 (by decide +kernel) rfl
theorem dX4_lookerOf_80 : decode cX4_lookerOf 80 = .ok (.aload_n 0, 1) := qd_p qo_42 (by decide +kernel)
theorem dX4_lookerOf_81 : decode cX4_lookerOf 81 = .ok (.iload_n 1, 1) := qd_p qo_27 (by decide +kernel)
theorem dX4_lookerOf_82 : decode cX4_lookerOf 82 = .ok (.invokevirtual 228, 3) := qz_2 .invokevirtual 0 228 qo_182 (by decide +kernel) rfl
theorem dX4_lookerOf_85 : decode cX4_lookerOf 85 = .ok (.goto 9, 3) := qz_s2 .goto 0 9 qo_167 (by decide +kernel) rfl
theorem dX4_lookerOf_88 : decode cX4_lookerOf 88 = .ok (.aload_n 0, 1) := qd_p qo_42 (by decide +kernel)
theorem dX4_lookerOf_89 : decode cX4_lookerOf 89 = .ok (.iload_n 1, 1) := qd_p qo_27 (by decide +kernel)
theorem dX4_lookerOf_90 : decode cX4_lookerOf 90 = .ok (.iconst 0, 1) := qd_p qo_3 (by decide +kernel)
theorem dX4_lookerOf_91 : decode cX4_lookerOf 91 = .ok (.invokevirtual 128, 3) := qz_2 .invokevirtual 0 128 qo_182 (by decide +kernel) rfl
theorem dX4_lookerOf_94 : decode cX4_lookerOf 94 = .ok (.ireturn, 1) := qd_p qo_172 (by decide +kernel)
section
variable {p : Program} {l : Launch} {e : Env} {s : State} {m : MethodId} {args : Array Value} {below : List Frame} {meth : Method} {c : Code} {D : va_G} {tI tII : ClassId} {B : Nat}
set_option maxHeartbeats 4000000 in
set_option maxRecDepth 100000 in
theorem w_X4_comesTold_164 (C : wt_C p s m args meth c RX4 cX4_comesTold 7 (some .boolean) D tI tII) {F : Nat} {x6 : Int32} {σ : Mem} {r : Int32} {σ' : Mem} {H : Heap} {locs : List Loc} {ls : Array Slot} (hf : j_X4_comesTold_164 F x6 σ = some (r, σ')) (hM : wt_St D tI tII B σ s H locs) (hl : lv_has ls 7 [(6, .int x6)]) : W p l e rm_X4_comesTold s m args below meth c H locs 0 0 (MQ below (wt_Qi D tI tII B r σ') args s 0 0 (fun q => B ≤ q)) (F0 m 164 ls []) := by
  obtain ⟨hx, hb, hts, hown, hml, hr, hlk, hK⟩ := id C
  replace hf := Eq.trans j_X4_comesTold_164_e.symm hf
  refine lv_iload hx hb dX4_comesTold_164 (lv_at hl 0 rfl) ?_
  obtain ⟨hz9, hf⟩ := wt_bz_of hf
  exact wt_zret hx hb hr hlk hK hM hz9 hf dX4_comesTold_166
set_option maxHeartbeats 4000000 in
set_option maxRecDepth 100000 in
theorem w_X4_comesTold_137 (C : wt_C p s m args meth c RX4 cX4_comesTold 7 (some .boolean) D tI tII) {F : Nat} {x2 : Int32} {t0 : Int32} {σ : Mem} {r : Int32} {σ' : Mem} {H : Heap} {locs : List Loc} {ls : Array Slot} (hf : j_X4_comesTold_137 F x2 t0 σ = some (r, σ')) (hM : wt_St D tI tII B σ s H locs) (hl : lv_has ls 7 [(0, .ref (B + 101)), (2, .int x2)]) : W p l e rm_X4_comesTold s m args below meth c H locs 0 0 (MQ below (wt_Qi D tI tII B r σ') args s 0 0 (fun q => B ≤ q)) (F0 m 137 ls [.int t0]) := by
  obtain ⟨hx, hb, hts, hown, hml, hr, hlk, hK⟩ := id C
  replace hf := Eq.trans j_X4_comesTold_137_e.symm hf
  refine lv_istore (lv' := [(6, .int t0), (0, .ref (B + 101)), (2, .int x2)]) hx hb dX4_comesTold_137 hl (by decide) rfl (fun ls hl => ?_)
  refine lv_iload hx hb dX4_comesTold_139 (lv_at hl 0 rfl) ?_
  refine wq_if_eq (tgt := 164) hx hb dX4_comesTold_141 (by decide) hf (fun hf => ?_) (fun hf => ?_)
  · exact w_X4_comesTold_164 C hf hM (lv_sub hl [0] rfl)
  refine lv_aload_n hx hb dX4_comesTold_144 rfl (lv_at hl 1 rfl) ?_
  refine gf_X4_shows  hx hb hts hown hK hM tw_712 dX4_comesTold_145 ?_
  refine lv_aload_n hx hb dX4_comesTold_148 rfl (lv_at hl 1 rfl) ?_
  refine gf_X4_panes  hx hb hts hown hK hM tw_711 dX4_comesTold_149 ?_
  refine lv_iload_n hx hb dX4_comesTold_152 rfl (lv_at hl 2 rfl) ?_
  obtain ⟨i1, hf⟩ := wt_chk_of hf
  refine wt_ist hx hb hK hM wt_a103 i1 dX4_comesTold_153 hf (fun s2 H locs hf hM => ?_)
  refine lv_aload_n hx hb dX4_comesTold_154 rfl (lv_at hl 1 rfl) ?_
  refine lv_dup hx hb dX4_comesTold_155 rfl ?_
  refine gf_X4_panes  hx hb hts hown hK hM tw_711 dX4_comesTold_156 ?_
  refine lv_iconst (v := 1) hx hb dX4_comesTold_159 (by decide) ?_
  refine lv_iadd hx hb dX4_comesTold_160 ?_
  refine pf_X4_panes  hx hb hts hown hK hM tw_711 dX4_comesTold_161 hf (fun s3 H locs hf hM => ?_)
  exact w_X4_comesTold_164 C hf hM (lv_sub hl [0] rfl)
set_option maxHeartbeats 4000000 in
set_option maxRecDepth 100000 in
theorem w_X4_comesTold_136 (C : wt_C p s m args meth c RX4 cX4_comesTold 7 (some .boolean) D tI tII) {F : Nat} {x2 : Int32} {σ : Mem} {r : Int32} {σ' : Mem} {H : Heap} {locs : List Loc} {ls : Array Slot} (hf : j_X4_comesTold_136 F x2 σ = some (r, σ')) (hM : wt_St D tI tII B σ s H locs) (hl : lv_has ls 7 [(0, .ref (B + 101)), (2, .int x2)]) : W p l e rm_X4_comesTold s m args below meth c H locs 0 0 (MQ below (wt_Qi D tI tII B r σ') args s 0 0 (fun q => B ≤ q)) (F0 m 136 ls []) := by
  obtain ⟨hx, hb, hts, hown, hml, hr, hlk, hK⟩ := id C
  replace hf := Eq.trans j_X4_comesTold_136_e.symm hf
  refine lv_iconst (v := 0) hx hb dX4_comesTold_136 (by decide) ?_
  exact w_X4_comesTold_137 C hf hM hl
set_option maxHeartbeats 4000000 in
set_option maxRecDepth 100000 in
theorem w_X4_comesTold_199 (C : wt_C p s m args meth c RX4 cX4_comesTold 7 (some .boolean) D tI tII) {F : Nat} {x6 : Int32} {σ : Mem} {r : Int32} {σ' : Mem} {H : Heap} {locs : List Loc} {ls : Array Slot} (hf : j_X4_comesTold_199 F x6 σ = some (r, σ')) (hM : wt_St D tI tII B σ s H locs) (hl : lv_has ls 7 [(6, .int x6)]) : W p l e rm_X4_comesTold s m args below meth c H locs 0 0 (MQ below (wt_Qi D tI tII B r σ') args s 0 0 (fun q => B ≤ q)) (F0 m 199 ls []) := by
  obtain ⟨hx, hb, hts, hown, hml, hr, hlk, hK⟩ := id C
  replace hf := Eq.trans j_X4_comesTold_199_e.symm hf
  refine lv_iload hx hb dX4_comesTold_199 (lv_at hl 0 rfl) ?_
  obtain ⟨hz9, hf⟩ := wt_bz_of hf
  exact wt_zret hx hb hr hlk hK hM hz9 hf dX4_comesTold_201
set_option maxHeartbeats 4000000 in
set_option maxRecDepth 100000 in
theorem w_X4_comesTold_186 (C : wt_C p s m args meth c RX4 cX4_comesTold 7 (some .boolean) D tI tII) {F : Nat} {x2 : Int32} {x3 : Int32} {t0 : Int32} {σ : Mem} {r : Int32} {σ' : Mem} {H : Heap} {locs : List Loc} {ls : Array Slot} (hf : j_X4_comesTold_186 F x2 x3 t0 σ = some (r, σ')) (hM : wt_St D tI tII B σ s H locs) (hl : lv_has ls 7 [(0, .ref (B + 101)), (2, .int x2), (3, .int x3)]) : W p l e rm_X4_comesTold s m args below meth c H locs 0 0 (MQ below (wt_Qi D tI tII B r σ') args s 0 0 (fun q => B ≤ q)) (F0 m 186 ls [.int t0]) := by
  obtain ⟨hx, hb, hts, hown, hml, hr, hlk, hK⟩ := id C
  replace hf := Eq.trans j_X4_comesTold_186_e.symm hf
  refine lv_istore (lv' := [(6, .int t0), (0, .ref (B + 101)), (2, .int x2), (3, .int x3)]) hx hb dX4_comesTold_186 hl (by decide) rfl (fun ls hl => ?_)
  refine lv_iload hx hb dX4_comesTold_188 (lv_at hl 0 rfl) ?_
  refine wq_if_eq (tgt := 199) hx hb dX4_comesTold_190 (by decide) hf (fun hf => ?_) (fun hf => ?_)
  · exact w_X4_comesTold_199 C hf hM (lv_sub hl [0] rfl)
  refine lv_aload_n hx hb dX4_comesTold_193 rfl (lv_at hl 1 rfl) ?_
  refine lv_iload_n hx hb dX4_comesTold_194 rfl (lv_at hl 2 rfl) ?_
  refine lv_iload_n hx hb dX4_comesTold_195 rfl (lv_at hl 3 rfl) ?_
  refine wt_callVv (As := [.int x2, .int x3]) (rest := []) hx hb hml hts hown hK hM wt_rc_X4 cw_X4_176 hd_X4_lookerComes rfl ⟨qz_b rfl, qz_b rfl⟩ ⟨rfl, rfl⟩ hl.1 rfl (qz_b rfl) dX4_comesTold_196 hf (fun _ _ h9 => c_X4_lookerComes h9) (fun r4 s5 H locs hf hM => ?_)
  exact w_X4_comesTold_199 C hf hM (lv_sub hl [0] rfl)
set_option maxHeartbeats 4000000 in
set_option maxRecDepth 100000 in
theorem w_X4_comesTold_185 (C : wt_C p s m args meth c RX4 cX4_comesTold 7 (some .boolean) D tI tII) {F : Nat} {x2 : Int32} {x3 : Int32} {σ : Mem} {r : Int32} {σ' : Mem} {H : Heap} {locs : List Loc} {ls : Array Slot} (hf : j_X4_comesTold_185 F x2 x3 σ = some (r, σ')) (hM : wt_St D tI tII B σ s H locs) (hl : lv_has ls 7 [(0, .ref (B + 101)), (2, .int x2), (3, .int x3)]) : W p l e rm_X4_comesTold s m args below meth c H locs 0 0 (MQ below (wt_Qi D tI tII B r σ') args s 0 0 (fun q => B ≤ q)) (F0 m 185 ls []) := by
  obtain ⟨hx, hb, hts, hown, hml, hr, hlk, hK⟩ := id C
  replace hf := Eq.trans j_X4_comesTold_185_e.symm hf
  refine lv_iconst (v := 0) hx hb dX4_comesTold_185 (by decide) ?_
  exact w_X4_comesTold_186 C hf hM hl
set_option maxHeartbeats 4000000 in
set_option maxRecDepth 100000 in
theorem w_X4_comesTold_261 (C : wt_C p s m args meth c RX4 cX4_comesTold 7 (some .boolean) D tI tII) {F : Nat} {x6 : Int32} {σ : Mem} {r : Int32} {σ' : Mem} {H : Heap} {locs : List Loc} {ls : Array Slot} (hf : j_X4_comesTold_261 F x6 σ = some (r, σ')) (hM : wt_St D tI tII B σ s H locs) (hl : lv_has ls 7 [(6, .int x6)]) : W p l e rm_X4_comesTold s m args below meth c H locs 0 0 (MQ below (wt_Qi D tI tII B r σ') args s 0 0 (fun q => B ≤ q)) (F0 m 261 ls []) := by
  obtain ⟨hx, hb, hts, hown, hml, hr, hlk, hK⟩ := id C
  replace hf := Eq.trans j_X4_comesTold_261_e.symm hf
  refine lv_iload hx hb dX4_comesTold_261 (lv_at hl 0 rfl) ?_
  obtain ⟨hz9, hf⟩ := wt_bz_of hf
  exact wt_zret hx hb hr hlk hK hM hz9 hf dX4_comesTold_263
set_option maxHeartbeats 4000000 in
set_option maxRecDepth 100000 in
theorem w_X4_comesTold_244 (C : wt_C p s m args meth c RX4 cX4_comesTold 7 (some .boolean) D tI tII) {F : Nat} {x2 : Int32} {x3 : Int32} {x4 : Int32} {x5 : Int32} {t0 : Int32} {σ : Mem} {r : Int32} {σ' : Mem} {H : Heap} {locs : List Loc} {ls : Array Slot} (hf : j_X4_comesTold_244 F x2 x3 x4 x5 t0 σ = some (r, σ')) (hM : wt_St D tI tII B σ s H locs) (hl : lv_has ls 7 [(0, .ref (B + 101)), (2, .int x2), (3, .int x3), (4, .int x4), (5, .int x5)]) : W p l e rm_X4_comesTold s m args below meth c H locs 0 0 (MQ below (wt_Qi D tI tII B r σ') args s 0 0 (fun q => B ≤ q)) (F0 m 244 ls [.int t0]) := by
  obtain ⟨hx, hb, hts, hown, hml, hr, hlk, hK⟩ := id C
  replace hf := Eq.trans j_X4_comesTold_244_e.symm hf
  refine lv_istore (lv' := [(6, .int t0), (0, .ref (B + 101)), (2, .int x2), (3, .int x3), (4, .int x4), (5, .int x5)]) hx hb dX4_comesTold_244 hl (by decide) rfl (fun ls hl => ?_)
  refine lv_iload hx hb dX4_comesTold_246 (lv_at hl 0 rfl) ?_
  refine wq_if_eq (tgt := 261) hx hb dX4_comesTold_248 (by decide) hf (fun hf => ?_) (fun hf => ?_)
  · exact w_X4_comesTold_261 C hf hM (lv_sub hl [0] rfl)
  refine lv_aload_n hx hb dX4_comesTold_251 rfl (lv_at hl 1 rfl) ?_
  refine lv_iload_n hx hb dX4_comesTold_252 rfl (lv_at hl 2 rfl) ?_
  refine lv_iload_n hx hb dX4_comesTold_253 rfl (lv_at hl 3 rfl) ?_
  refine lv_iload hx hb dX4_comesTold_254 (lv_at hl 4 rfl) ?_
  refine lv_iload hx hb dX4_comesTold_256 (lv_at hl 5 rfl) ?_
  refine wt_callVv (As := [.int x2, .int x3, .int x4, .int x5]) (rest := []) hx hb hml hts hown hK hM wt_rc_X4 cw_X4_182 hd_X4_stand rfl ⟨qz_b rfl, qz_b rfl⟩ ⟨rfl, rfl⟩ hl.1 rfl (qz_b rfl) dX4_comesTold_258 hf (fun _ _ h9 => c_X4_stand h9) (fun r6 s7 H locs hf hM => ?_)
  exact w_X4_comesTold_261 C hf hM (lv_sub hl [0] rfl)
set_option maxHeartbeats 4000000 in
set_option maxRecDepth 100000 in
theorem w_X4_comesTold_239 (C : wt_C p s m args meth c RX4 cX4_comesTold 7 (some .boolean) D tI tII) {F : Nat} {x2 : Int32} {x3 : Int32} {x4 : Int32} {x5 : Int32} {σ : Mem} {r : Int32} {σ' : Mem} {H : Heap} {locs : List Loc} {ls : Array Slot} (hf : j_X4_comesTold_239 F x2 x3 x4 x5 σ = some (r, σ')) (hM : wt_St D tI tII B σ s H locs) (hl : lv_has ls 7 [(0, .ref (B + 101)), (2, .int x2), (3, .int x3), (4, .int x4), (5, .int x5)]) : W p l e rm_X4_comesTold s m args below meth c H locs 0 0 (MQ below (wt_Qi D tI tII B r σ') args s 0 0 (fun q => B ≤ q)) (F0 m 239 ls []) := by
  obtain ⟨hx, hb, hts, hown, hml, hr, hlk, hK⟩ := id C
  replace hf := Eq.trans j_X4_comesTold_239_e.symm hf
  refine lv_iconst (v := 1) hx hb dX4_comesTold_239 (by decide) ?_
  refine lv_goto (tgt := 244) hx hb dX4_comesTold_240 (by decide) ?_
  exact w_X4_comesTold_244 C hf hM hl
set_option maxHeartbeats 4000000 in
set_option maxRecDepth 100000 in
theorem w_X4_comesTold_243 (C : wt_C p s m args meth c RX4 cX4_comesTold 7 (some .boolean) D tI tII) {F : Nat} {x2 : Int32} {x3 : Int32} {x4 : Int32} {x5 : Int32} {σ : Mem} {r : Int32} {σ' : Mem} {H : Heap} {locs : List Loc} {ls : Array Slot} (hf : j_X4_comesTold_243 F x2 x3 x4 x5 σ = some (r, σ')) (hM : wt_St D tI tII B σ s H locs) (hl : lv_has ls 7 [(0, .ref (B + 101)), (2, .int x2), (3, .int x3), (4, .int x4), (5, .int x5)]) : W p l e rm_X4_comesTold s m args below meth c H locs 0 0 (MQ below (wt_Qi D tI tII B r σ') args s 0 0 (fun q => B ≤ q)) (F0 m 243 ls []) := by
  obtain ⟨hx, hb, hts, hown, hml, hr, hlk, hK⟩ := id C
  replace hf := Eq.trans j_X4_comesTold_243_e.symm hf
  refine lv_iconst (v := 0) hx hb dX4_comesTold_243 (by decide) ?_
  exact w_X4_comesTold_244 C hf hM hl
set_option maxHeartbeats 4000000 in
set_option maxRecDepth 100000 in
theorem w_X4_comesTold_289 (C : wt_C p s m args meth c RX4 cX4_comesTold 7 (some .boolean) D tI tII) {F : Nat} {x6 : Int32} {σ : Mem} {r : Int32} {σ' : Mem} {H : Heap} {locs : List Loc} {ls : Array Slot} (hf : j_X4_comesTold_289 F x6 σ = some (r, σ')) (hM : wt_St D tI tII B σ s H locs) (hl : lv_has ls 7 [(6, .int x6)]) : W p l e rm_X4_comesTold s m args below meth c H locs 0 0 (MQ below (wt_Qi D tI tII B r σ') args s 0 0 (fun q => B ≤ q)) (F0 m 289 ls []) := by
  obtain ⟨hx, hb, hts, hown, hml, hr, hlk, hK⟩ := id C
  replace hf := Eq.trans j_X4_comesTold_289_e.symm hf
  refine lv_iload hx hb dX4_comesTold_289 (lv_at hl 0 rfl) ?_
  obtain ⟨hz9, hf⟩ := wt_bz_of hf
  exact wt_zret hx hb hr hlk hK hM hz9 hf dX4_comesTold_291
set_option maxHeartbeats 4000000 in
set_option maxRecDepth 100000 in
theorem w_X4_comesTold_275 (C : wt_C p s m args meth c RX4 cX4_comesTold 7 (some .boolean) D tI tII) {F : Nat} {x2 : Int32} {x3 : Int32} {t0 : Int32} {σ : Mem} {r : Int32} {σ' : Mem} {H : Heap} {locs : List Loc} {ls : Array Slot} (hf : j_X4_comesTold_275 F x2 x3 t0 σ = some (r, σ')) (hM : wt_St D tI tII B σ s H locs) (hl : lv_has ls 7 [(0, .ref (B + 101)), (2, .int x2), (3, .int x3)]) : W p l e rm_X4_comesTold s m args below meth c H locs 0 0 (MQ below (wt_Qi D tI tII B r σ') args s 0 0 (fun q => B ≤ q)) (F0 m 275 ls [.int t0]) := by
  obtain ⟨hx, hb, hts, hown, hml, hr, hlk, hK⟩ := id C
  replace hf := Eq.trans j_X4_comesTold_275_e.symm hf
  refine lv_istore (lv' := [(6, .int t0), (0, .ref (B + 101)), (2, .int x2), (3, .int x3)]) hx hb dX4_comesTold_275 hl (by decide) rfl (fun ls hl => ?_)
  refine lv_iload hx hb dX4_comesTold_277 (lv_at hl 0 rfl) ?_
  refine wq_if_eq (tgt := 289) hx hb dX4_comesTold_279 (by decide) hf (fun hf => ?_) (fun hf => ?_)
  · exact w_X4_comesTold_289 C hf hM (lv_sub hl [0] rfl)
  refine lv_aload_n hx hb dX4_comesTold_282 rfl (lv_at hl 1 rfl) ?_
  refine gf_X4_worths  hx hb hts hown hK hM tw_710 dX4_comesTold_283 ?_
  refine lv_iload_n hx hb dX4_comesTold_286 rfl (lv_at hl 2 rfl) ?_
  refine lv_iload_n hx hb dX4_comesTold_287 rfl (lv_at hl 3 rfl) ?_
  obtain ⟨i8, hf⟩ := wt_chk_of hf
  refine wt_ist hx hb hK hM wt_a102 i8 dX4_comesTold_288 hf (fun s9 H locs hf hM => ?_)
  exact w_X4_comesTold_289 C hf hM (lv_sub hl [0] rfl)
set_option maxHeartbeats 4000000 in
set_option maxRecDepth 100000 in
theorem w_X4_comesTold_330 (C : wt_C p s m args meth c RX4 cX4_comesTold 7 (some .boolean) D tI tII) {F : Nat} {x6 : Int32} {σ : Mem} {r : Int32} {σ' : Mem} {H : Heap} {locs : List Loc} {ls : Array Slot} (hf : j_X4_comesTold_330 F x6 σ = some (r, σ')) (hM : wt_St D tI tII B σ s H locs) (hl : lv_has ls 7 [(6, .int x6)]) : W p l e rm_X4_comesTold s m args below meth c H locs 0 0 (MQ below (wt_Qi D tI tII B r σ') args s 0 0 (fun q => B ≤ q)) (F0 m 330 ls []) := by
  obtain ⟨hx, hb, hts, hown, hml, hr, hlk, hK⟩ := id C
  replace hf := Eq.trans j_X4_comesTold_330_e.symm hf
  refine lv_iload hx hb dX4_comesTold_330 (lv_at hl 0 rfl) ?_
  obtain ⟨hz9, hf⟩ := wt_bz_of hf
  exact wt_zret hx hb hr hlk hK hM hz9 hf dX4_comesTold_332
set_option maxHeartbeats 4000000 in
set_option maxRecDepth 100000 in
theorem w_X4_comesTold_311 (C : wt_C p s m args meth c RX4 cX4_comesTold 7 (some .boolean) D tI tII) {F : Nat} {x2 : Int32} {x3 : Int32} {t0 : Int32} {σ : Mem} {r : Int32} {σ' : Mem} {H : Heap} {locs : List Loc} {ls : Array Slot} (hf : j_X4_comesTold_311 F x2 x3 t0 σ = some (r, σ')) (hM : wt_St D tI tII B σ s H locs) (hl : lv_has ls 7 [(0, .ref (B + 101)), (2, .int x2), (3, .int x3)]) : W p l e rm_X4_comesTold s m args below meth c H locs 0 0 (MQ below (wt_Qi D tI tII B r σ') args s 0 0 (fun q => B ≤ q)) (F0 m 311 ls [.int t0]) := by
  obtain ⟨hx, hb, hts, hown, hml, hr, hlk, hK⟩ := id C
  replace hf := Eq.trans j_X4_comesTold_311_e.symm hf
  refine lv_istore (lv' := [(6, .int t0), (0, .ref (B + 101)), (2, .int x2), (3, .int x3)]) hx hb dX4_comesTold_311 hl (by decide) rfl (fun ls hl => ?_)
  refine lv_iload hx hb dX4_comesTold_313 (lv_at hl 0 rfl) ?_
  refine wq_if_eq (tgt := 330) hx hb dX4_comesTold_315 (by decide) hf (fun hf => ?_) (fun hf => ?_)
  · exact w_X4_comesTold_330 C hf hM (lv_sub hl [0] rfl)
  refine lv_aload_n hx hb dX4_comesTold_318 rfl (lv_at hl 1 rfl) ?_
  refine gf_X4_shows  hx hb hts hown hK hM tw_712 dX4_comesTold_319 ?_
  refine lv_iload_n hx hb dX4_comesTold_322 rfl (lv_at hl 2 rfl) ?_
  refine lv_dup2_11 hx hb dX4_comesTold_323 rfl rfl ?_
  obtain ⟨i10, hf⟩ := wt_chk_of hf
  refine wt_ild hx hb hK hM wt_a103 i10 dX4_comesTold_324 ?_
  refine lv_iconst (v := 1) hx hb dX4_comesTold_325 (by decide) ?_
  refine lv_iload_n hx hb dX4_comesTold_326 rfl (lv_at hl 3 rfl) ?_
  refine lv_ishl hx hb dX4_comesTold_327 ?_
  refine lv_ixor hx hb dX4_comesTold_328 ?_
  refine wt_ist hx hb hK hM wt_a103 i10 dX4_comesTold_329 hf (fun s11 H locs hf hM => ?_)
  exact w_X4_comesTold_330 C hf hM (lv_sub hl [0] rfl)
set_option maxHeartbeats 4000000 in
set_option maxRecDepth 100000 in
theorem w_X4_comesTold_310 (C : wt_C p s m args meth c RX4 cX4_comesTold 7 (some .boolean) D tI tII) {F : Nat} {x2 : Int32} {x3 : Int32} {σ : Mem} {r : Int32} {σ' : Mem} {H : Heap} {locs : List Loc} {ls : Array Slot} (hf : j_X4_comesTold_310 F x2 x3 σ = some (r, σ')) (hM : wt_St D tI tII B σ s H locs) (hl : lv_has ls 7 [(0, .ref (B + 101)), (2, .int x2), (3, .int x3)]) : W p l e rm_X4_comesTold s m args below meth c H locs 0 0 (MQ below (wt_Qi D tI tII B r σ') args s 0 0 (fun q => B ≤ q)) (F0 m 310 ls []) := by
  obtain ⟨hx, hb, hts, hown, hml, hr, hlk, hK⟩ := id C
  replace hf := Eq.trans j_X4_comesTold_310_e.symm hf
  refine lv_iconst (v := 0) hx hb dX4_comesTold_310 (by decide) ?_
  exact w_X4_comesTold_311 C hf hM hl
set_option maxHeartbeats 4000000 in
set_option maxRecDepth 100000 in
theorem w_X4_comesTold_390 (C : wt_C p s m args meth c RX4 cX4_comesTold 7 (some .boolean) D tI tII) {F : Nat} {x6 : Int32} {σ : Mem} {r : Int32} {σ' : Mem} {H : Heap} {locs : List Loc} {ls : Array Slot} (hf : j_X4_comesTold_390 F x6 σ = some (r, σ')) (hM : wt_St D tI tII B σ s H locs) (hl : lv_has ls 7 [(6, .int x6)]) : W p l e rm_X4_comesTold s m args below meth c H locs 0 0 (MQ below (wt_Qi D tI tII B r σ') args s 0 0 (fun q => B ≤ q)) (F0 m 390 ls []) := by
  obtain ⟨hx, hb, hts, hown, hml, hr, hlk, hK⟩ := id C
  replace hf := Eq.trans j_X4_comesTold_390_e.symm hf
  refine lv_iload hx hb dX4_comesTold_390 (lv_at hl 0 rfl) ?_
  obtain ⟨hz9, hf⟩ := wt_bz_of hf
  exact wt_zret hx hb hr hlk hK hM hz9 hf dX4_comesTold_392
set_option maxHeartbeats 4000000 in
set_option maxRecDepth 100000 in
theorem w_X4_comesTold_378 (C : wt_C p s m args meth c RX4 cX4_comesTold 7 (some .boolean) D tI tII) {F : Nat} {x2 : Int32} {t0 : Int32} {σ : Mem} {r : Int32} {σ' : Mem} {H : Heap} {locs : List Loc} {ls : Array Slot} (hf : j_X4_comesTold_378 F x2 t0 σ = some (r, σ')) (hM : wt_St D tI tII B σ s H locs) (hl : lv_has ls 7 [(0, .ref (B + 101)), (2, .int x2)]) : W p l e rm_X4_comesTold s m args below meth c H locs 0 0 (MQ below (wt_Qi D tI tII B r σ') args s 0 0 (fun q => B ≤ q)) (F0 m 378 ls [.int t0]) := by
  obtain ⟨hx, hb, hts, hown, hml, hr, hlk, hK⟩ := id C
  replace hf := Eq.trans j_X4_comesTold_378_e.symm hf
  refine lv_istore (lv' := [(6, .int t0), (0, .ref (B + 101)), (2, .int x2)]) hx hb dX4_comesTold_378 hl (by decide) rfl (fun ls hl => ?_)
  refine lv_iload hx hb dX4_comesTold_380 (lv_at hl 0 rfl) ?_
  refine wq_if_eq (tgt := 390) hx hb dX4_comesTold_382 (by decide) hf (fun hf => ?_) (fun hf => ?_)
  · exact w_X4_comesTold_390 C hf hM (lv_sub hl [0] rfl)
  refine lv_aload_n hx hb dX4_comesTold_385 rfl (lv_at hl 1 rfl) ?_
  refine lv_iload_n hx hb dX4_comesTold_386 rfl (lv_at hl 2 rfl) ?_
  refine wt_callVv (As := [.int x2]) (rest := []) hx hb hml hts hown hK hM wt_rc_X4 cw_X4_188 hd_X4_goDays rfl ⟨qz_b rfl, qz_b rfl⟩ ⟨rfl, rfl⟩ hl.1 rfl (qz_b rfl) dX4_comesTold_387 hf (fun _ _ h9 => c_X4_goDays h9) (fun r12 s13 H locs hf hM => ?_)
  exact w_X4_comesTold_390 C hf hM (lv_sub hl [0] rfl)
set_option maxHeartbeats 4000000 in
set_option maxRecDepth 100000 in
theorem w_X4_comesTold_377 (C : wt_C p s m args meth c RX4 cX4_comesTold 7 (some .boolean) D tI tII) {F : Nat} {x2 : Int32} {σ : Mem} {r : Int32} {σ' : Mem} {H : Heap} {locs : List Loc} {ls : Array Slot} (hf : j_X4_comesTold_377 F x2 σ = some (r, σ')) (hM : wt_St D tI tII B σ s H locs) (hl : lv_has ls 7 [(0, .ref (B + 101)), (2, .int x2)]) : W p l e rm_X4_comesTold s m args below meth c H locs 0 0 (MQ below (wt_Qi D tI tII B r σ') args s 0 0 (fun q => B ≤ q)) (F0 m 377 ls []) := by
  obtain ⟨hx, hb, hts, hown, hml, hr, hlk, hK⟩ := id C
  replace hf := Eq.trans j_X4_comesTold_377_e.symm hf
  refine lv_iconst (v := 0) hx hb dX4_comesTold_377 (by decide) ?_
  exact w_X4_comesTold_378 C hf hM hl
set_option maxHeartbeats 4000000 in
set_option maxRecDepth 100000 in
theorem w_X4_comesTold_0 (C : wt_C p s m args meth c RX4 cX4_comesTold 7 (some .boolean) D tI tII) {F : Nat} {x1 : Int32} {σ : Mem} {r : Int32} {σ' : Mem} {H : Heap} {locs : List Loc} {ls : Array Slot} (hf : f_X4_comesTold F x1 σ = some (r, σ')) (hM : wt_St D tI tII B σ s H locs) (hl : lv_has ls 7 [(0, .ref (B + 101)), (1, .int x1)]) : W p l e rm_X4_comesTold s m args below meth c H locs 0 0 (MQ below (wt_Qi D tI tII B r σ') args s 0 0 (fun q => B ≤ q)) (F0 m 0 ls []) := by
  obtain ⟨hx, hb, hts, hown, hml, hr, hlk, hK⟩ := id C
  replace hf := Eq.trans f_X4_comesTold_e.symm hf
  refine lv_aload_n hx hb dX4_comesTold_0 rfl (lv_at hl 0 rfl) ?_
  refine gf_X4_told  hx hb hts hown hK hM tw_731 dX4_comesTold_1 ?_
  refine lv_iconst (v := 4) hx hb dX4_comesTold_4 (by decide) ?_
  refine lv_iload_n hx hb dX4_comesTold_5 rfl (lv_at hl 1 rfl) ?_
  refine lv_imul hx hb dX4_comesTold_6 ?_
  obtain ⟨i14, hf⟩ := wt_chk_of hf
  refine wt_ild hx hb hK hM wt_a114 i14 dX4_comesTold_7 ?_
  refine wt_leti hf (fun z15 hf => ?_)
  refine lv_istore_n (lv' := [(2, .int z15), (0, .ref (B + 101)), (1, .int x1)]) hx hb dX4_comesTold_8 rfl hl (by decide) rfl (fun ls hl => ?_)
  refine lv_aload_n hx hb dX4_comesTold_9 rfl (lv_at hl 1 rfl) ?_
  refine gf_X4_told  hx hb hts hown hK hM tw_731 dX4_comesTold_10 ?_
  refine lv_iconst (v := 4) hx hb dX4_comesTold_13 (by decide) ?_
  refine lv_iload_n hx hb dX4_comesTold_14 rfl (lv_at hl 2 rfl) ?_
  refine lv_imul hx hb dX4_comesTold_15 ?_
  refine lv_iconst (v := 1) hx hb dX4_comesTold_16 (by decide) ?_
  refine lv_iadd hx hb dX4_comesTold_17 ?_
  obtain ⟨i16, hf⟩ := wt_chk_of hf
  refine wt_ild hx hb hK hM wt_a114 i16 dX4_comesTold_18 ?_
  refine wt_leti hf (fun z17 hf => ?_)
  refine lv_istore_n (lv' := [(3, .int z17), (2, .int z15), (0, .ref (B + 101)), (1, .int x1)]) hx hb dX4_comesTold_19 rfl hl (by decide) rfl (fun ls hl => ?_)
  refine lv_aload_n hx hb dX4_comesTold_20 rfl (lv_at hl 2 rfl) ?_
  refine gf_X4_told  hx hb hts hown hK hM tw_731 dX4_comesTold_21 ?_
  refine lv_iconst (v := 4) hx hb dX4_comesTold_24 (by decide) ?_
  refine lv_iload_n hx hb dX4_comesTold_25 rfl (lv_at hl 3 rfl) ?_
  refine lv_imul hx hb dX4_comesTold_26 ?_
  refine lv_iconst (v := 2) hx hb dX4_comesTold_27 (by decide) ?_
  refine lv_iadd hx hb dX4_comesTold_28 ?_
  obtain ⟨i18, hf⟩ := wt_chk_of hf
  refine wt_ild hx hb hK hM wt_a114 i18 dX4_comesTold_29 ?_
  refine wt_leti hf (fun z19 hf => ?_)
  refine lv_istore (lv' := [(4, .int z19), (3, .int z17), (2, .int z15), (0, .ref (B + 101)), (1, .int x1)]) hx hb dX4_comesTold_30 hl (by decide) rfl (fun ls hl => ?_)
  refine lv_aload_n hx hb dX4_comesTold_32 rfl (lv_at hl 3 rfl) ?_
  refine gf_X4_told  hx hb hts hown hK hM tw_731 dX4_comesTold_33 ?_
  refine lv_iconst (v := 4) hx hb dX4_comesTold_36 (by decide) ?_
  refine lv_iload_n hx hb dX4_comesTold_37 rfl (lv_at hl 4 rfl) ?_
  refine lv_imul hx hb dX4_comesTold_38 ?_
  refine lv_iconst (v := 3) hx hb dX4_comesTold_39 (by decide) ?_
  refine lv_iadd hx hb dX4_comesTold_40 ?_
  obtain ⟨i20, hf⟩ := wt_chk_of hf
  refine wt_ild hx hb hK hM wt_a114 i20 dX4_comesTold_41 ?_
  refine wt_leti hf (fun z21 hf => ?_)
  refine lv_istore (lv' := [(5, .int z21), (4, .int z19), (3, .int z17), (2, .int z15), (0, .ref (B + 101)), (1, .int x1)]) hx hb dX4_comesTold_42 hl (by decide) rfl (fun ls hl => ?_)
  refine lv_iconst (v := 1) hx hb dX4_comesTold_44 (by decide) ?_
  refine lv_istore (lv' := [(6, .int (1 : Int32)), (5, .int z21), (4, .int z19), (3, .int z17), (2, .int z15), (0, .ref (B + 101)), (1, .int x1)]) hx hb dX4_comesTold_45 hl (by decide) rfl (fun ls hl => ?_)
  refine lv_aload_n hx hb dX4_comesTold_47 rfl (lv_at hl 5 rfl) ?_
  refine gf_X4_letterOf  hx hb hts hown hK hM tw_730 dX4_comesTold_48 ?_
  refine lv_iload_n hx hb dX4_comesTold_51 rfl (lv_at hl 6 rfl) ?_
  obtain ⟨i22, hf⟩ := wt_chk_of hf
  refine wt_ild hx hb hK hM wt_a113 i22 dX4_comesTold_52 ?_
  refine wq_key hf (fun e9 hf => ?_) (fun n23_108 hf => ?_)
  · refine lv_tableIn (off := 114) (tgt := 167) hx hb dX4_comesTold_53 (by rw [e9]; decide) (by rw [e9]; decide) (by rw [e9]; rfl) (by decide) ?_
    refine lv_iload_n hx hb dX4_comesTold_167 rfl (lv_at hl 4 rfl) ?_
    refine lv_bipush (v := 6) hx hb dX4_comesTold_168 (by decide) ?_
    refine wq_icmp_ge (tgt := 185) hx hb dX4_comesTold_170 (by decide) hf (fun hf => ?_) (fun hf => ?_)
    · exact w_X4_comesTold_185 C hf hM (lv_sub hl [5, 4, 3] rfl)
    refine lv_aload_n hx hb dX4_comesTold_173 rfl (lv_at hl 5 rfl) ?_
    refine gf_X4_lookers  hx hb hts hown hK hM tw_713 dX4_comesTold_174 ?_
    refine lv_iconst (v := 5) hx hb dX4_comesTold_177 (by decide) ?_
    refine wq_icmp_ge (tgt := 185) hx hb dX4_comesTold_178 (by decide) hf (fun hf => ?_) (fun hf => ?_)
    · exact w_X4_comesTold_185 C hf hM (lv_sub hl [5, 4, 3] rfl)
    refine lv_iconst (v := 1) hx hb dX4_comesTold_181 (by decide) ?_
    refine lv_goto (tgt := 186) hx hb dX4_comesTold_182 (by decide) ?_
    exact w_X4_comesTold_186 C hf hM (lv_sub hl [5, 4, 3] rfl)
  refine wq_key hf (fun e9 hf => ?_) (fun n23_112 hf => ?_)
  · refine lv_tableIn (off := 63) (tgt := 116) hx hb dX4_comesTold_53 (by rw [e9]; decide) (by rw [e9]; decide) (by rw [e9]; rfl) (by decide) ?_
    refine lv_iload_n hx hb dX4_comesTold_116 rfl (lv_at hl 4 rfl) ?_
    refine lv_sipush (v := 255) hx hb dX4_comesTold_117 (by decide) ?_
    refine wq_icmp_gt (tgt := 136) hx hb dX4_comesTold_120 (by decide) hf (fun hf => ?_) (fun hf => ?_)
    · exact w_X4_comesTold_136 C hf hM (lv_sub hl [5, 4] rfl)
    refine lv_aload_n hx hb dX4_comesTold_123 rfl (lv_at hl 5 rfl) ?_
    refine gf_X4_panes  hx hb hts hown hK hM tw_711 dX4_comesTold_124 ?_
    refine lv_bipush (v := 6) hx hb dX4_comesTold_127 (by decide) ?_
    refine wq_icmp_ge (tgt := 136) hx hb dX4_comesTold_129 (by decide) hf (fun hf => ?_) (fun hf => ?_)
    · exact w_X4_comesTold_136 C hf hM (lv_sub hl [5, 4] rfl)
    refine lv_iconst (v := 1) hx hb dX4_comesTold_132 (by decide) ?_
    refine lv_goto (tgt := 137) hx hb dX4_comesTold_133 (by decide) ?_
    exact w_X4_comesTold_137 C hf hM (lv_sub hl [5, 4] rfl)
  refine wq_key hf (fun e9 hf => ?_) (fun n23_115 hf => ?_)
  · refine lv_tableIn (off := 149) (tgt := 202) hx hb dX4_comesTold_53 (by rw [e9]; decide) (by rw [e9]; decide) (by rw [e9]; rfl) (by decide) ?_
    refine lv_aload_n hx hb dX4_comesTold_202 rfl (lv_at hl 5 rfl) ?_
    refine lv_iload_n hx hb dX4_comesTold_203 rfl (lv_at hl 4 rfl) ?_
    refine wt_callVi (As := [.int z15]) (rest := []) hx hb hml hts hown hK hM wt_rc_X4 cw_X4_88 hd_X4_isLooker rfl ⟨qz_b rfl, qz_b rfl⟩ ⟨rfl, rfl⟩ hl.1 rfl (qz_b rfl) dX4_comesTold_204 hf (fun _ _ h9 => c_X4_isLooker h9) (fun r24 s25 H locs hf hM => ?_)
    refine wq_if_eq (tgt := 243) hx hb dX4_comesTold_207 (by decide) hf (fun hf => ?_) (fun hf => ?_)
    · exact w_X4_comesTold_243 C hf hM (lv_sub hl [5, 4, 3, 2, 1] rfl)
    refine lv_iload_n hx hb dX4_comesTold_210 rfl (lv_at hl 3 rfl) ?_
    refine lv_iload hx hb dX4_comesTold_211 (lv_at hl 2 rfl) ?_
    refine wq_icmp_gt (tgt := 243) hx hb dX4_comesTold_213 (by decide) hf (fun hf => ?_) (fun hf => ?_)
    · exact w_X4_comesTold_243 C hf hM (lv_sub hl [5, 4, 3, 2, 1] rfl)
    refine lv_iload hx hb dX4_comesTold_216 (lv_at hl 2 rfl) ?_
    refine lv_bipush (v := 24) hx hb dX4_comesTold_218 (by decide) ?_
    refine wq_icmp_ge (tgt := 243) hx hb dX4_comesTold_220 (by decide) hf (fun hf => ?_) (fun hf => ?_)
    · exact w_X4_comesTold_243 C hf hM (lv_sub hl [5, 4, 3, 2, 1] rfl)
    refine lv_iload hx hb dX4_comesTold_223 (lv_at hl 1 rfl) ?_
    refine lv_bipush (v := 9) hx hb dX4_comesTold_225 (by decide) ?_
    refine wq_icmp_eq (tgt := 239) hx hb dX4_comesTold_227 (by decide) hf (fun hf => ?_) (fun hf => ?_)
    · exact w_X4_comesTold_239 C hf hM (lv_sub hl [5, 4, 3, 2, 1] rfl)
    refine lv_aload_n hx hb dX4_comesTold_230 rfl (lv_at hl 5 rfl) ?_
    refine lv_iload hx hb dX4_comesTold_231 (lv_at hl 1 rfl) ?_
    refine wt_callVi (As := [.int z21]) (rest := []) hx hb hml hts hown hK hM wt_rc_X4 cw_X4_179 hd_X4_isPane rfl ⟨qz_b rfl, qz_b rfl⟩ ⟨rfl, rfl⟩ hl.1 rfl (qz_b rfl) dX4_comesTold_233 hf (fun _ _ h9 => c_X4_isPane h9) (fun r26 s27 H locs hf hM => ?_)
    refine wq_if_eq (tgt := 243) hx hb dX4_comesTold_236 (by decide) hf (fun hf => ?_) (fun hf => ?_)
    · exact w_X4_comesTold_243 C hf hM (lv_sub hl [5, 4, 3, 2, 1] rfl)
    exact w_X4_comesTold_239 C hf hM (lv_sub hl [5, 4, 3, 2, 1] rfl)
  refine wq_key hf (fun e9 hf => ?_) (fun n23_117 hf => ?_)
  · refine lv_tableIn (off := 280) (tgt := 333) hx hb dX4_comesTold_53 (by rw [e9]; decide) (by rw [e9]; decide) (by rw [e9]; rfl) (by decide) ?_
    refine lv_aload_n hx hb dX4_comesTold_333 rfl (lv_at hl 5 rfl) ?_
    refine lv_iload_n hx hb dX4_comesTold_334 rfl (lv_at hl 4 rfl) ?_
    refine pf_X4_law0  hx hb hts hown hK hM tw_718 dX4_comesTold_335 hf (fun s28 H locs hf hM => ?_)
    refine lv_iload_n hx hb dX4_comesTold_338 rfl (lv_at hl 4 rfl) ?_
    refine lv_iconst (v := 3) hx hb dX4_comesTold_339 (by decide) ?_
    refine wq_icmp_ge (tgt := 347) hx hb dX4_comesTold_340 (by decide) hf (fun hf => ?_) (fun hf => ?_)
    · refine lv_iconst (v := 0) hx hb dX4_comesTold_347 (by decide) ?_
      exact wt_zret hx hb hr hlk hK hM (by decide) hf dX4_comesTold_348
    refine lv_iconst (v := 1) hx hb dX4_comesTold_343 (by decide) ?_
    refine lv_goto (tgt := 348) hx hb dX4_comesTold_344 (by decide) ?_
    exact wt_zret hx hb hr hlk hK hM (by decide) hf dX4_comesTold_348
  refine wq_key hf (fun e9 hf => ?_) (fun n23_118 hf => ?_)
  · refine lv_tableIn (off := 211) (tgt := 264) hx hb dX4_comesTold_53 (by rw [e9]; decide) (by rw [e9]; decide) (by rw [e9]; rfl) (by decide) ?_
    refine lv_iload_n hx hb dX4_comesTold_264 rfl (lv_at hl 4 rfl) ?_
    refine lv_bipush (v := 8) hx hb dX4_comesTold_265 (by decide) ?_
    refine wq_icmp_ge (tgt := 274) hx hb dX4_comesTold_267 (by decide) hf (fun hf => ?_) (fun hf => ?_)
    · refine lv_iconst (v := 0) hx hb dX4_comesTold_274 (by decide) ?_
      exact w_X4_comesTold_275 C hf hM (lv_sub hl [5, 4, 3] rfl)
    refine lv_iconst (v := 1) hx hb dX4_comesTold_270 (by decide) ?_
    refine lv_goto (tgt := 275) hx hb dX4_comesTold_271 (by decide) ?_
    exact w_X4_comesTold_275 C hf hM (lv_sub hl [5, 4, 3] rfl)
  refine wq_key hf (fun e9 hf => ?_) (fun n23_119 hf => ?_)
  · refine lv_tableIn (off := 239) (tgt := 292) hx hb dX4_comesTold_53 (by rw [e9]; decide) (by rw [e9]; decide) (by rw [e9]; rfl) (by decide) ?_
    refine lv_aload_n hx hb dX4_comesTold_292 rfl (lv_at hl 5 rfl) ?_
    refine lv_iload_n hx hb dX4_comesTold_293 rfl (lv_at hl 4 rfl) ?_
    refine wt_callVi (As := [.int z15]) (rest := []) hx hb hml hts hown hK hM wt_rc_X4 cw_X4_179 hd_X4_isPane rfl ⟨qz_b rfl, qz_b rfl⟩ ⟨rfl, rfl⟩ hl.1 rfl (qz_b rfl) dX4_comesTold_294 hf (fun _ _ h9 => c_X4_isPane h9) (fun r29 s30 H locs hf hM => ?_)
    refine wq_if_eq (tgt := 310) hx hb dX4_comesTold_297 (by decide) hf (fun hf => ?_) (fun hf => ?_)
    · exact w_X4_comesTold_310 C hf hM (lv_sub hl [5, 4, 3] rfl)
    refine lv_iload_n hx hb dX4_comesTold_300 rfl (lv_at hl 3 rfl) ?_
    refine lv_bipush (v := 8) hx hb dX4_comesTold_301 (by decide) ?_
    refine wq_icmp_ge (tgt := 310) hx hb dX4_comesTold_303 (by decide) hf (fun hf => ?_) (fun hf => ?_)
    · exact w_X4_comesTold_310 C hf hM (lv_sub hl [5, 4, 3] rfl)
    refine lv_iconst (v := 1) hx hb dX4_comesTold_306 (by decide) ?_
    refine lv_goto (tgt := 311) hx hb dX4_comesTold_307 (by decide) ?_
    exact w_X4_comesTold_311 C hf hM (lv_sub hl [5, 4, 3] rfl)
  refine wq_tableD (ks := [(108 : Int32), (112 : Int32), (115 : Int32), (117 : Int32), (118 : Int32), (119 : Int32)]) (tgt := 349) hx hb dX4_comesTold_53 (List.forall_mem_cons.mpr ⟨n23_108, List.forall_mem_cons.mpr ⟨n23_112, List.forall_mem_cons.mpr ⟨n23_115, List.forall_mem_cons.mpr ⟨n23_117, List.forall_mem_cons.mpr ⟨n23_118, List.forall_mem_cons.mpr ⟨n23_119, fun _ h9 => absurd h9 List.not_mem_nil⟩⟩⟩⟩⟩⟩) (by decide) (by decide) ?_
  refine lv_iload_n hx hb dX4_comesTold_349 rfl (lv_at hl 4 rfl) ?_
  refine lv_i2l (v := (Int32.toInt64 z15)) hx hb dX4_comesTold_350 rfl ?_
  refine lv_lconst (v := 1) hx hb dX4_comesTold_351 (by decide) ?_
  refine lv_ldc2 (v := 60) hx hb hown (hts _ tw_887) dX4_comesTold_352 ?_
  refine wt_callSi (As := [.long (Int32.toInt64 z15), .long (1 : Int64), .long (60 : Int64)]) (rest := []) hx hb hml hts hown hK hM cw_X4_77 hd_X4_in rfl ⟨qz_b rfl, qz_b rfl⟩ ⟨rfl, rfl⟩ hl.1 rfl (qz_b rfl) dX4_comesTold_355 hf (fun _ _ h9 => c_X4_in h9) (fun r31 s32 H locs hf hM => ?_)
  refine wq_if_eq (tgt := 377) hx hb dX4_comesTold_358 (by decide) hf (fun hf => ?_) (fun hf => ?_)
  · exact w_X4_comesTold_377 C hf hM (lv_sub hl [5, 4] rfl)
  refine lv_aload_n hx hb dX4_comesTold_361 rfl (lv_at hl 5 rfl) ?_
  refine gf_X4_today  hx hb hts hown hK hM tw_719 dX4_comesTold_362 ?_
  refine lv_iload_n hx hb dX4_comesTold_365 rfl (lv_at hl 4 rfl) ?_
  refine lv_iadd hx hb dX4_comesTold_366 ?_
  refine lv_sipush (v := 9999) hx hb dX4_comesTold_367 (by decide) ?_
  refine wq_icmp_gt (tgt := 377) hx hb dX4_comesTold_370 (by decide) hf (fun hf => ?_) (fun hf => ?_)
  · exact w_X4_comesTold_377 C hf hM (lv_sub hl [5, 4] rfl)
  refine lv_iconst (v := 1) hx hb dX4_comesTold_373 (by decide) ?_
  refine lv_goto (tgt := 378) hx hb dX4_comesTold_374 (by decide) ?_
  exact w_X4_comesTold_378 C hf hM (lv_sub hl [5, 4] rfl)
end
set_option maxHeartbeats 4000000 in
set_option maxRecDepth 100000 in
theorem c_X4_comesTold {l : Launch} {D : va_G} {tI tII : ClassId} {B F : Nat} {x1 : Int32} {σ σ' : Mem} {r : Int32} (hf : f_X4_comesTold F x1 σ = some (r, σ')) : wt_Mi l yX4_comesTold cX4_comesTold 7 (some .boolean) rm_X4_comesTold [.ref (B + 101), .int x1] D tI tII B σ r σ' := by
  refine Met.ofW (cc := cX4_comesTold) (maxL := 7) (ret := (some .boolean)) (by decide) rfl ?_
  intro p e s m args below meth c s₁ B9 hml hv
  obtain ⟨rfl, hP, hK⟩ := hv
  have hl := lv_entry ([.ref (B + 101), .int x1]) (n := 7) (qz_b rfl)
  rw [lg_entry_eq]
  generalize (lg_sl ([.ref (B + 101), .int x1]) ++ List.replicate (7 - (lg_sl ([.ref (B + 101), .int x1])).length) Slot.unset).toArray = ls at hl ⊢
  exact w_X4_comesTold_0 (wt_C_of B9 hml hK) hf ⟨hP, va_S.rf⟩ hl
section
variable {p : Program} {l : Launch} {e : Env} {s : State} {m : MethodId} {args : Array Value} {below : List Frame} {meth : Method} {c : Code} {D : va_G} {tI tII : ClassId} {B : Nat}
set_option maxHeartbeats 4000000 in
set_option maxRecDepth 100000 in
theorem w_X4_carry_17 (C : wt_C p s m args meth c RX4 cX4_carry 2 (some .int) D tI tII) {F : Nat} {σ : Mem} {r : Int32} {σ' : Mem} {H : Heap} {locs : List Loc} {ls : Array Slot} (hf : j_X4_carry_17 F σ = some (r, σ')) (hM : wt_St D tI tII B σ s H locs) (hl : lv_has ls 2 [(0, .ref (B + 101))]) : W p l e rm_X4_carry s m args below meth c H locs 0 0 (MQ below (wt_Qi D tI tII B r σ') args s 0 0 (fun q => B ≤ q)) (F0 m 17 ls []) := by
  obtain ⟨hx, hb, hts, hown, hml, hr, hlk, hK⟩ := id C
  replace hf := Eq.trans j_X4_carry_17_e.symm hf
  refine lv_aload_n hx hb dX4_carry_17 rfl (lv_at hl 0 rfl) ?_
  refine lv_dup hx hb dX4_carry_18 rfl ?_
  refine gf_X4_place0  hx hb hts hown hK hM tw_735 dX4_carry_19 ?_
  refine lv_iconst (v := 1) hx hb dX4_carry_22 (by decide) ?_
  refine lv_iadd hx hb dX4_carry_23 ?_
  refine pf_X4_place0  hx hb hts hown hK hM tw_735 dX4_carry_24 hf (fun s1 H locs hf hM => ?_)
  refine lv_aload_n hx hb dX4_carry_27 rfl (lv_at hl 0 rfl) ?_
  obtain ⟨rk2, hf⟩ := wt_rk_of hf
  refine gf_X4_keptIn rk2 hx hb hts hown hK hM tw_737 dX4_carry_28 ?_
  refine lv_aload_n hx hb dX4_carry_31 rfl (lv_at hl 0 rfl) ?_
  refine gf_X4_place0  hx hb hts hown hK hM tw_735 dX4_carry_32 ?_
  refine lv_iconst (v := 1) hx hb dX4_carry_35 (by decide) ?_
  refine lv_isub hx hb dX4_carry_36 ?_
  obtain ⟨i3, hf⟩ := wt_chk_of hf
  refine wt_ild hx hb hK hM (wt_rk_a rk2) i3 dX4_carry_37 ?_
  exact wt_iret hx hb hr hlk hK hM hf dX4_carry_38
set_option maxHeartbeats 4000000 in
set_option maxRecDepth 100000 in
theorem w_X4_carry_0 (C : wt_C p s m args meth c RX4 cX4_carry 2 (some .int) D tI tII) {F : Nat} {x1 : Int32} {σ : Mem} {r : Int32} {σ' : Mem} {H : Heap} {locs : List Loc} {ls : Array Slot} (hf : f_X4_carry F x1 σ = some (r, σ')) (hM : wt_St D tI tII B σ s H locs) (hl : lv_has ls 2 [(0, .ref (B + 101)), (1, .int x1)]) : W p l e rm_X4_carry s m args below meth c H locs 0 0 (MQ below (wt_Qi D tI tII B r σ') args s 0 0 (fun q => B ≤ q)) (F0 m 0 ls []) := by
  obtain ⟨hx, hb, hts, hown, hml, hr, hlk, hK⟩ := id C
  replace hf := Eq.trans f_X4_carry_e.symm hf
  refine lv_aload_n hx hb dX4_carry_0 rfl (lv_at hl 0 rfl) ?_
  refine gf_X4_isTaking  hx hb hts hown hK hM tw_736 dX4_carry_1 ?_
  refine wq_if_eq (tgt := 17) hx hb dX4_carry_4 (by decide) hf (fun hf => ?_) (fun hf => ?_)
  · exact w_X4_carry_17 C hf hM (lv_sub hl [0] rfl)
  refine lv_aload_n hx hb dX4_carry_7 rfl (lv_at hl 0 rfl) ?_
  obtain ⟨rk4, hf⟩ := wt_rk_of hf
  refine gf_X4_keptIn rk4 hx hb hts hown hK hM tw_737 dX4_carry_8 ?_
  refine lv_aload_n hx hb dX4_carry_11 rfl (lv_at hl 0 rfl) ?_
  refine gf_X4_place0  hx hb hts hown hK hM tw_735 dX4_carry_12 ?_
  refine lv_iload_n hx hb dX4_carry_15 rfl (lv_at hl 1 rfl) ?_
  obtain ⟨i5, hf⟩ := wt_chk_of hf
  refine wt_ist hx hb hK hM (wt_rk_a rk4) i5 dX4_carry_16 hf (fun s6 H locs hf hM => ?_)
  exact w_X4_carry_17 C hf hM (lv_sub hl [0] rfl)
end
set_option maxHeartbeats 4000000 in
set_option maxRecDepth 100000 in
theorem c_X4_carry {l : Launch} {D : va_G} {tI tII : ClassId} {B F : Nat} {x1 : Int32} {σ σ' : Mem} {r : Int32} (hf : f_X4_carry F x1 σ = some (r, σ')) : wt_Mi l yX4_carry cX4_carry 2 (some .int) rm_X4_carry [.ref (B + 101), .int x1] D tI tII B σ r σ' := by
  refine Met.ofW (cc := cX4_carry) (maxL := 2) (ret := (some .int)) (by decide) rfl ?_
  intro p e s m args below meth c s₁ B9 hml hv
  obtain ⟨rfl, hP, hK⟩ := hv
  have hl := lv_entry ([.ref (B + 101), .int x1]) (n := 2) (qz_b rfl)
  rw [lg_entry_eq]
  generalize (lg_sl ([.ref (B + 101), .int x1]) ++ List.replicate (2 - (lg_sl ([.ref (B + 101), .int x1])).length) Slot.unset).toArray = ls at hl ⊢
  exact w_X4_carry_0 (wt_C_of B9 hml hK) hf ⟨hP, va_S.rf⟩ hl
section
variable {p : Program} {l : Launch} {e : Env} {s : State} {m : MethodId} {args : Array Value} {below : List Frame} {meth : Method} {c : Code} {D : va_G} {tI tII : ClassId} {B : Nat}
set_option maxHeartbeats 4000000 in
set_option maxRecDepth 100000 in
theorem w_X4_carryAll_200 (C : wt_C p s m args meth c RX4 cX4_carryAll 4 none D tI tII) {F : Nat} {σ' : Mem} : ∀ (N : Nat) (x3 : Int32) (σ : Mem) (H : Heap) (locs : List Loc) (ls : Array Slot), lp_X4_carryAll_200 F N x3 σ = some ((), σ') → wt_St D tI tII B σ s H locs → lv_has ls 4 [(0, .ref (B + 101)), (3, .int x3)] → W p l e rm_X4_carryAll s m args below meth c H locs 0 0 (MQ below (wt_Qv D tI tII B σ') args s 0 0 (fun q => B ≤ q)) (F0 m 200 ls []) := by
  obtain ⟨hx, hb, hts, hown, hml, hr, hlk, hK⟩ := id C
  intro N
  induction N with
  | zero => intro x3 σ H locs ls hf; exact wt_none (show (none : Option (Unit × Mem)) = some ((), σ') from hf)
  | succ N ih =>
    intro x3 σ H locs ls hf hM hl
    replace hf := Eq.trans lp_X4_carryAll_200_s.symm hf
    refine lv_iload_n hx hb dX4_carryAll_200 rfl (lv_at hl 1 rfl) ?_
    refine lv_bipush (v := 40) hx hb dX4_carryAll_201 (by decide) ?_
    refine wq_icmp_ge (tgt := 228) hx hb dX4_carryAll_203 (by decide) hf (fun hf => ?_) (fun hf => ?_)
    · exact wt_vret hx hb hr hlk hK hM hf dX4_carryAll_228
    refine lv_aload_n hx hb dX4_carryAll_206 rfl (lv_at hl 0 rfl) ?_
    refine gf_X4_counted  hx hb hts hown hK hM tw_717 dX4_carryAll_207 ?_
    refine lv_iload_n hx hb dX4_carryAll_210 rfl (lv_at hl 1 rfl) ?_
    refine lv_aload_n hx hb dX4_carryAll_211 rfl (lv_at hl 0 rfl) ?_
    refine lv_aload_n hx hb dX4_carryAll_212 rfl (lv_at hl 0 rfl) ?_
    refine gf_X4_counted  hx hb hts hown hK hM tw_717 dX4_carryAll_213 ?_
    refine lv_iload_n hx hb dX4_carryAll_216 rfl (lv_at hl 1 rfl) ?_
    obtain ⟨i1, hf⟩ := wt_chk_of hf
    refine wt_ild hx hb hK hM wt_a107 i1 dX4_carryAll_217 ?_
    refine wt_callVi (As := [.int (σ 107 (Int32.toNatClampNeg x3))]) (rest := [.int x3, .ref (B + 107)]) hx hb hml hts hown hK hM wt_rc_X4 cw_X4_216 hd_X4_carry rfl ⟨qz_b rfl, qz_b rfl⟩ ⟨rfl, rfl⟩ hl.1 rfl (qz_b rfl) dX4_carryAll_218 hf (fun _ _ h9 => c_X4_carry h9) (fun r2 s3 H locs hf hM => ?_)
    refine wt_ist hx hb hK hM wt_a107 i1 dX4_carryAll_221 hf (fun s4 H locs hf hM => ?_)
    refine lv_iinc (v := (x3 + (1 : Int32))) (lv' := [(3, .int (x3 + (1 : Int32))), (0, .ref (B + 101))]) hx hb dX4_carryAll_222 hl (k := 1) rfl rfl (by decide) rfl (fun ls hl => ?_)
    refine lv_goto (tgt := 200) hx hb dX4_carryAll_225 (by decide) ?_
    exact ih _ _ _ _ _ hf hM (lv_sub hl [1, 0] rfl)
set_option maxHeartbeats 4000000 in
set_option maxRecDepth 100000 in
theorem w_X4_carryAll_170 (C : wt_C p s m args meth c RX4 cX4_carryAll 4 none D tI tII) {F : Nat} {σ' : Mem} : ∀ (N : Nat) (x3 : Int32) (σ : Mem) (H : Heap) (locs : List Loc) (ls : Array Slot), lp_X4_carryAll_170 F N x3 σ = some ((), σ') → wt_St D tI tII B σ s H locs → lv_has ls 4 [(0, .ref (B + 101)), (3, .int x3)] → W p l e rm_X4_carryAll s m args below meth c H locs 0 0 (MQ below (wt_Qv D tI tII B σ') args s 0 0 (fun q => B ≤ q)) (F0 m 170 ls []) := by
  obtain ⟨hx, hb, hts, hown, hml, hr, hlk, hK⟩ := id C
  intro N
  induction N with
  | zero => intro x3 σ H locs ls hf; exact wt_none (show (none : Option (Unit × Mem)) = some ((), σ') from hf)
  | succ N ih =>
    intro x3 σ H locs ls hf hM hl
    replace hf := Eq.trans lp_X4_carryAll_170_s.symm hf
    refine lv_iload_n hx hb dX4_carryAll_170 rfl (lv_at hl 1 rfl) ?_
    refine lv_bipush (v := 120) hx hb dX4_carryAll_171 (by decide) ?_
    refine wq_icmp_ge (tgt := 198) hx hb dX4_carryAll_173 (by decide) hf (fun hf => ?_) (fun hf => ?_)
    · refine lv_iconst (v := 0) hx hb dX4_carryAll_198 (by decide) ?_
      refine lv_istore_n (lv' := [(3, .int (0 : Int32)), (0, .ref (B + 101))]) hx hb dX4_carryAll_199 rfl hl (by decide) rfl (fun ls hl => ?_)
      exact w_X4_carryAll_200 C _ _ _ _ _ _ hf hM (lv_sub hl [1, 0] rfl)
    refine lv_aload_n hx hb dX4_carryAll_176 rfl (lv_at hl 0 rfl) ?_
    refine gf_X4_rosters  hx hb hts hown hK hM tw_716 dX4_carryAll_177 ?_
    refine lv_iload_n hx hb dX4_carryAll_180 rfl (lv_at hl 1 rfl) ?_
    refine lv_aload_n hx hb dX4_carryAll_181 rfl (lv_at hl 0 rfl) ?_
    refine lv_aload_n hx hb dX4_carryAll_182 rfl (lv_at hl 0 rfl) ?_
    refine gf_X4_rosters  hx hb hts hown hK hM tw_716 dX4_carryAll_183 ?_
    refine lv_iload_n hx hb dX4_carryAll_186 rfl (lv_at hl 1 rfl) ?_
    obtain ⟨i5, hf⟩ := wt_chk_of hf
    refine wt_ild hx hb hK hM wt_a106 i5 dX4_carryAll_187 ?_
    refine wt_callVi (As := [.int (σ 106 (Int32.toNatClampNeg x3))]) (rest := [.int x3, .ref (B + 106)]) hx hb hml hts hown hK hM wt_rc_X4 cw_X4_216 hd_X4_carry rfl ⟨qz_b rfl, qz_b rfl⟩ ⟨rfl, rfl⟩ hl.1 rfl (qz_b rfl) dX4_carryAll_188 hf (fun _ _ h9 => c_X4_carry h9) (fun r6 s7 H locs hf hM => ?_)
    refine wt_ist hx hb hK hM wt_a106 i5 dX4_carryAll_191 hf (fun s8 H locs hf hM => ?_)
    refine lv_iinc (v := (x3 + (1 : Int32))) (lv' := [(3, .int (x3 + (1 : Int32))), (0, .ref (B + 101))]) hx hb dX4_carryAll_192 hl (k := 1) rfl rfl (by decide) rfl (fun ls hl => ?_)
    refine lv_goto (tgt := 170) hx hb dX4_carryAll_195 (by decide) ?_
    exact ih _ _ _ _ _ hf hM (lv_sub hl [1, 0] rfl)
set_option maxHeartbeats 4000000 in
set_option maxRecDepth 100000 in
theorem w_X4_carryAll_125 (C : wt_C p s m args meth c RX4 cX4_carryAll 4 none D tI tII) {F : Nat} {σ' : Mem} : ∀ (N : Nat) (x3 : Int32) (σ : Mem) (H : Heap) (locs : List Loc) (ls : Array Slot), lp_X4_carryAll_125 F N x3 σ = some ((), σ') → wt_St D tI tII B σ s H locs → lv_has ls 4 [(0, .ref (B + 101)), (3, .int x3)] → W p l e rm_X4_carryAll s m args below meth c H locs 0 0 (MQ below (wt_Qv D tI tII B σ') args s 0 0 (fun q => B ≤ q)) (F0 m 125 ls []) := by
  obtain ⟨hx, hb, hts, hown, hml, hr, hlk, hK⟩ := id C
  intro N
  induction N with
  | zero => intro x3 σ H locs ls hf; exact wt_none (show (none : Option (Unit × Mem)) = some ((), σ') from hf)
  | succ N ih =>
    intro x3 σ H locs ls hf hM hl
    replace hf := Eq.trans lp_X4_carryAll_125_s.symm hf
    refine lv_iload_n hx hb dX4_carryAll_125 rfl (lv_at hl 1 rfl) ?_
    refine lv_iconst (v := 5) hx hb dX4_carryAll_126 (by decide) ?_
    refine wq_icmp_ge (tgt := 168) hx hb dX4_carryAll_127 (by decide) hf (fun hf => ?_) (fun hf => ?_)
    · refine lv_iconst (v := 0) hx hb dX4_carryAll_168 (by decide) ?_
      refine lv_istore_n (lv' := [(3, .int (0 : Int32)), (0, .ref (B + 101))]) hx hb dX4_carryAll_169 rfl hl (by decide) rfl (fun ls hl => ?_)
      exact w_X4_carryAll_170 C _ _ _ _ _ _ hf hM (lv_sub hl [1, 0] rfl)
    refine lv_aload_n hx hb dX4_carryAll_130 rfl (lv_at hl 0 rfl) ?_
    refine gf_X4_kinds  hx hb hts hown hK hM tw_714 dX4_carryAll_131 ?_
    refine lv_iload_n hx hb dX4_carryAll_134 rfl (lv_at hl 1 rfl) ?_
    refine lv_aload_n hx hb dX4_carryAll_135 rfl (lv_at hl 0 rfl) ?_
    refine lv_aload_n hx hb dX4_carryAll_136 rfl (lv_at hl 0 rfl) ?_
    refine gf_X4_kinds  hx hb hts hown hK hM tw_714 dX4_carryAll_137 ?_
    refine lv_iload_n hx hb dX4_carryAll_140 rfl (lv_at hl 1 rfl) ?_
    obtain ⟨i9, hf⟩ := wt_chk_of hf
    refine wt_ild hx hb hK hM wt_a104 i9 dX4_carryAll_141 ?_
    refine wt_callVi (As := [.int (σ 104 (Int32.toNatClampNeg x3))]) (rest := [.int x3, .ref (B + 104)]) hx hb hml hts hown hK hM wt_rc_X4 cw_X4_216 hd_X4_carry rfl ⟨qz_b rfl, qz_b rfl⟩ ⟨rfl, rfl⟩ hl.1 rfl (qz_b rfl) dX4_carryAll_142 hf (fun _ _ h9 => c_X4_carry h9) (fun r10 s11 H locs hf hM => ?_)
    refine wt_ist hx hb hK hM wt_a104 i9 dX4_carryAll_145 hf (fun s12 H locs hf hM => ?_)
    refine lv_aload_n hx hb dX4_carryAll_146 rfl (lv_at hl 0 rfl) ?_
    refine gf_X4_figures  hx hb hts hown hK hM tw_715 dX4_carryAll_147 ?_
    refine lv_iload_n hx hb dX4_carryAll_150 rfl (lv_at hl 1 rfl) ?_
    refine lv_aload_n hx hb dX4_carryAll_151 rfl (lv_at hl 0 rfl) ?_
    refine lv_aload_n hx hb dX4_carryAll_152 rfl (lv_at hl 0 rfl) ?_
    refine gf_X4_figures  hx hb hts hown hK hM tw_715 dX4_carryAll_153 ?_
    refine lv_iload_n hx hb dX4_carryAll_156 rfl (lv_at hl 1 rfl) ?_
    refine wt_ild hx hb hK hM wt_a105 i9 dX4_carryAll_157 ?_
    refine wt_callVi (As := [.int (s12 105 (Int32.toNatClampNeg x3))]) (rest := [.int x3, .ref (B + 105)]) hx hb hml hts hown hK hM wt_rc_X4 cw_X4_216 hd_X4_carry rfl ⟨qz_b rfl, qz_b rfl⟩ ⟨rfl, rfl⟩ hl.1 rfl (qz_b rfl) dX4_carryAll_158 hf (fun _ _ h9 => c_X4_carry h9) (fun r13 s14 H locs hf hM => ?_)
    refine wt_ist hx hb hK hM wt_a105 i9 dX4_carryAll_161 hf (fun s15 H locs hf hM => ?_)
    refine lv_iinc (v := (x3 + (1 : Int32))) (lv' := [(3, .int (x3 + (1 : Int32))), (0, .ref (B + 101))]) hx hb dX4_carryAll_162 hl (k := 1) rfl rfl (by decide) rfl (fun ls hl => ?_)
    refine lv_goto (tgt := 125) hx hb dX4_carryAll_165 (by decide) ?_
    exact ih _ _ _ _ _ hf hM (lv_sub hl [1, 0] rfl)
set_option maxHeartbeats 4000000 in
set_option maxRecDepth 100000 in
theorem w_X4_carryAll_95 (C : wt_C p s m args meth c RX4 cX4_carryAll 4 none D tI tII) {F : Nat} {σ' : Mem} : ∀ (N : Nat) (x3 : Int32) (σ : Mem) (H : Heap) (locs : List Loc) (ls : Array Slot), lp_X4_carryAll_95 F N x3 σ = some ((), σ') → wt_St D tI tII B σ s H locs → lv_has ls 4 [(0, .ref (B + 101)), (3, .int x3)] → W p l e rm_X4_carryAll s m args below meth c H locs 0 0 (MQ below (wt_Qv D tI tII B σ') args s 0 0 (fun q => B ≤ q)) (F0 m 95 ls []) := by
  obtain ⟨hx, hb, hts, hown, hml, hr, hlk, hK⟩ := id C
  intro N
  induction N with
  | zero => intro x3 σ H locs ls hf; exact wt_none (show (none : Option (Unit × Mem)) = some ((), σ') from hf)
  | succ N ih =>
    intro x3 σ H locs ls hf hM hl
    replace hf := Eq.trans lp_X4_carryAll_95_s.symm hf
    refine lv_iload_n hx hb dX4_carryAll_95 rfl (lv_at hl 1 rfl) ?_
    refine lv_bipush (v := 6) hx hb dX4_carryAll_96 (by decide) ?_
    refine wq_icmp_ge (tgt := 123) hx hb dX4_carryAll_98 (by decide) hf (fun hf => ?_) (fun hf => ?_)
    · refine lv_iconst (v := 0) hx hb dX4_carryAll_123 (by decide) ?_
      refine lv_istore_n (lv' := [(3, .int (0 : Int32)), (0, .ref (B + 101))]) hx hb dX4_carryAll_124 rfl hl (by decide) rfl (fun ls hl => ?_)
      exact w_X4_carryAll_125 C _ _ _ _ _ _ hf hM (lv_sub hl [1, 0] rfl)
    refine lv_aload_n hx hb dX4_carryAll_101 rfl (lv_at hl 0 rfl) ?_
    refine gf_X4_shows  hx hb hts hown hK hM tw_712 dX4_carryAll_102 ?_
    refine lv_iload_n hx hb dX4_carryAll_105 rfl (lv_at hl 1 rfl) ?_
    refine lv_aload_n hx hb dX4_carryAll_106 rfl (lv_at hl 0 rfl) ?_
    refine lv_aload_n hx hb dX4_carryAll_107 rfl (lv_at hl 0 rfl) ?_
    refine gf_X4_shows  hx hb hts hown hK hM tw_712 dX4_carryAll_108 ?_
    refine lv_iload_n hx hb dX4_carryAll_111 rfl (lv_at hl 1 rfl) ?_
    obtain ⟨i16, hf⟩ := wt_chk_of hf
    refine wt_ild hx hb hK hM wt_a103 i16 dX4_carryAll_112 ?_
    refine wt_callVi (As := [.int (σ 103 (Int32.toNatClampNeg x3))]) (rest := [.int x3, .ref (B + 103)]) hx hb hml hts hown hK hM wt_rc_X4 cw_X4_216 hd_X4_carry rfl ⟨qz_b rfl, qz_b rfl⟩ ⟨rfl, rfl⟩ hl.1 rfl (qz_b rfl) dX4_carryAll_113 hf (fun _ _ h9 => c_X4_carry h9) (fun r17 s18 H locs hf hM => ?_)
    refine wt_ist hx hb hK hM wt_a103 i16 dX4_carryAll_116 hf (fun s19 H locs hf hM => ?_)
    refine lv_iinc (v := (x3 + (1 : Int32))) (lv' := [(3, .int (x3 + (1 : Int32))), (0, .ref (B + 101))]) hx hb dX4_carryAll_117 hl (k := 1) rfl rfl (by decide) rfl (fun ls hl => ?_)
    refine lv_goto (tgt := 95) hx hb dX4_carryAll_120 (by decide) ?_
    exact ih _ _ _ _ _ hf hM (lv_sub hl [1, 0] rfl)
set_option maxHeartbeats 4000000 in
set_option maxRecDepth 100000 in
theorem w_X4_carryAll_65 (C : wt_C p s m args meth c RX4 cX4_carryAll 4 none D tI tII) {F : Nat} {σ' : Mem} : ∀ (N : Nat) (x3 : Int32) (σ : Mem) (H : Heap) (locs : List Loc) (ls : Array Slot), lp_X4_carryAll_65 F N x3 σ = some ((), σ') → wt_St D tI tII B σ s H locs → lv_has ls 4 [(0, .ref (B + 101)), (3, .int x3)] → W p l e rm_X4_carryAll s m args below meth c H locs 0 0 (MQ below (wt_Qv D tI tII B σ') args s 0 0 (fun q => B ≤ q)) (F0 m 65 ls []) := by
  obtain ⟨hx, hb, hts, hown, hml, hr, hlk, hK⟩ := id C
  intro N
  induction N with
  | zero => intro x3 σ H locs ls hf; exact wt_none (show (none : Option (Unit × Mem)) = some ((), σ') from hf)
  | succ N ih =>
    intro x3 σ H locs ls hf hM hl
    replace hf := Eq.trans lp_X4_carryAll_65_s.symm hf
    refine lv_iload_n hx hb dX4_carryAll_65 rfl (lv_at hl 1 rfl) ?_
    refine lv_bipush (v := 8) hx hb dX4_carryAll_66 (by decide) ?_
    refine wq_icmp_ge (tgt := 93) hx hb dX4_carryAll_68 (by decide) hf (fun hf => ?_) (fun hf => ?_)
    · refine lv_iconst (v := 0) hx hb dX4_carryAll_93 (by decide) ?_
      refine lv_istore_n (lv' := [(3, .int (0 : Int32)), (0, .ref (B + 101))]) hx hb dX4_carryAll_94 rfl hl (by decide) rfl (fun ls hl => ?_)
      exact w_X4_carryAll_95 C _ _ _ _ _ _ hf hM (lv_sub hl [1, 0] rfl)
    refine lv_aload_n hx hb dX4_carryAll_71 rfl (lv_at hl 0 rfl) ?_
    refine gf_X4_worths  hx hb hts hown hK hM tw_710 dX4_carryAll_72 ?_
    refine lv_iload_n hx hb dX4_carryAll_75 rfl (lv_at hl 1 rfl) ?_
    refine lv_aload_n hx hb dX4_carryAll_76 rfl (lv_at hl 0 rfl) ?_
    refine lv_aload_n hx hb dX4_carryAll_77 rfl (lv_at hl 0 rfl) ?_
    refine gf_X4_worths  hx hb hts hown hK hM tw_710 dX4_carryAll_78 ?_
    refine lv_iload_n hx hb dX4_carryAll_81 rfl (lv_at hl 1 rfl) ?_
    obtain ⟨i20, hf⟩ := wt_chk_of hf
    refine wt_ild hx hb hK hM wt_a102 i20 dX4_carryAll_82 ?_
    refine wt_callVi (As := [.int (σ 102 (Int32.toNatClampNeg x3))]) (rest := [.int x3, .ref (B + 102)]) hx hb hml hts hown hK hM wt_rc_X4 cw_X4_216 hd_X4_carry rfl ⟨qz_b rfl, qz_b rfl⟩ ⟨rfl, rfl⟩ hl.1 rfl (qz_b rfl) dX4_carryAll_83 hf (fun _ _ h9 => c_X4_carry h9) (fun r21 s22 H locs hf hM => ?_)
    refine wt_ist hx hb hK hM wt_a102 i20 dX4_carryAll_86 hf (fun s23 H locs hf hM => ?_)
    refine lv_iinc (v := (x3 + (1 : Int32))) (lv' := [(3, .int (x3 + (1 : Int32))), (0, .ref (B + 101))]) hx hb dX4_carryAll_87 hl (k := 1) rfl rfl (by decide) rfl (fun ls hl => ?_)
    refine lv_goto (tgt := 65) hx hb dX4_carryAll_90 (by decide) ?_
    exact ih _ _ _ _ _ hf hM (lv_sub hl [1, 0] rfl)
set_option maxHeartbeats 4000000 in
set_option maxRecDepth 100000 in
theorem w_X4_carryAll_0 (C : wt_C p s m args meth c RX4 cX4_carryAll 4 none D tI tII) {F : Nat} {a : Nat} {x2 : Int32} {σ : Mem} {σ' : Mem} {H : Heap} {locs : List Loc} {ls : Array Slot} (ha : wt_isA a 188) (hf : f_X4_carryAll F a x2 σ = some ((), σ')) (hM : wt_St D tI tII B σ s H locs) (hl : lv_has ls 4 [(0, .ref (B + 101)), (1, .ref (B + a)), (2, .int x2)]) : W p l e rm_X4_carryAll s m args below meth c H locs 0 0 (MQ below (wt_Qv D tI tII B σ') args s 0 0 (fun q => B ≤ q)) (F0 m 0 ls []) := by
  obtain ⟨hx, hb, hts, hown, hml, hr, hlk, hK⟩ := id C
  replace hf := Eq.trans f_X4_carryAll_e.symm hf
  refine lv_aload_n hx hb dX4_carryAll_0 rfl (lv_at hl 0 rfl) ?_
  refine lv_aload_n hx hb dX4_carryAll_1 rfl (lv_at hl 1 rfl) ?_
  refine pf_X4_keptIn ha hx hb hts hown hK hM tw_737 dX4_carryAll_2 hf (fun s24 H locs hf hM => ?_)
  refine lv_aload_n hx hb dX4_carryAll_5 rfl (lv_at hl 0 rfl) ?_
  refine lv_iload_n hx hb dX4_carryAll_6 rfl (lv_at hl 2 rfl) ?_
  obtain ⟨hz26, hf⟩ := wt_bz_of hf
  refine pf_X4_isTaking  hx hb hts hown hK hM tw_736 hz26 dX4_carryAll_7 hf (fun s25 H locs hf hM => ?_)
  refine lv_aload_n hx hb dX4_carryAll_10 rfl (lv_at hl 0 rfl) ?_
  refine lv_iconst (v := 0) hx hb dX4_carryAll_11 (by decide) ?_
  refine pf_X4_place0  hx hb hts hown hK hM tw_735 dX4_carryAll_12 hf (fun s27 H locs hf hM => ?_)
  refine lv_aload_n hx hb dX4_carryAll_15 rfl (lv_at hl 0 rfl) ?_
  refine lv_aload_n hx hb dX4_carryAll_16 rfl (lv_at hl 0 rfl) ?_
  refine lv_aload_n hx hb dX4_carryAll_17 rfl (lv_at hl 0 rfl) ?_
  refine gf_X4_panes  hx hb hts hown hK hM tw_711 dX4_carryAll_18 ?_
  refine wt_callVi (As := [.int (s27 101 1)]) (rest := [.ref (B + 101)]) hx hb hml hts hown hK hM wt_rc_X4 cw_X4_216 hd_X4_carry rfl ⟨qz_b rfl, qz_b rfl⟩ ⟨rfl, rfl⟩ hl.1 rfl (qz_b rfl) dX4_carryAll_21 hf (fun _ _ h9 => c_X4_carry h9) (fun r28 s29 H locs hf hM => ?_)
  refine pf_X4_panes  hx hb hts hown hK hM tw_711 dX4_carryAll_24 hf (fun s30 H locs hf hM => ?_)
  refine lv_aload_n hx hb dX4_carryAll_27 rfl (lv_at hl 0 rfl) ?_
  refine lv_aload_n hx hb dX4_carryAll_28 rfl (lv_at hl 0 rfl) ?_
  refine lv_aload_n hx hb dX4_carryAll_29 rfl (lv_at hl 0 rfl) ?_
  refine gf_X4_lookers  hx hb hts hown hK hM tw_713 dX4_carryAll_30 ?_
  refine wt_callVi (As := [.int (s30 101 3)]) (rest := [.ref (B + 101)]) hx hb hml hts hown hK hM wt_rc_X4 cw_X4_216 hd_X4_carry rfl ⟨qz_b rfl, qz_b rfl⟩ ⟨rfl, rfl⟩ hl.1 rfl (qz_b rfl) dX4_carryAll_33 hf (fun _ _ h9 => c_X4_carry h9) (fun r31 s32 H locs hf hM => ?_)
  refine pf_X4_lookers  hx hb hts hown hK hM tw_713 dX4_carryAll_36 hf (fun s33 H locs hf hM => ?_)
  refine lv_aload_n hx hb dX4_carryAll_39 rfl (lv_at hl 0 rfl) ?_
  refine lv_aload_n hx hb dX4_carryAll_40 rfl (lv_at hl 0 rfl) ?_
  refine lv_aload_n hx hb dX4_carryAll_41 rfl (lv_at hl 0 rfl) ?_
  refine gf_X4_law0  hx hb hts hown hK hM tw_718 dX4_carryAll_42 ?_
  refine wt_callVi (As := [.int (s33 101 8)]) (rest := [.ref (B + 101)]) hx hb hml hts hown hK hM wt_rc_X4 cw_X4_216 hd_X4_carry rfl ⟨qz_b rfl, qz_b rfl⟩ ⟨rfl, rfl⟩ hl.1 rfl (qz_b rfl) dX4_carryAll_45 hf (fun _ _ h9 => c_X4_carry h9) (fun r34 s35 H locs hf hM => ?_)
  refine pf_X4_law0  hx hb hts hown hK hM tw_718 dX4_carryAll_48 hf (fun s36 H locs hf hM => ?_)
  refine lv_aload_n hx hb dX4_carryAll_51 rfl (lv_at hl 0 rfl) ?_
  refine lv_aload_n hx hb dX4_carryAll_52 rfl (lv_at hl 0 rfl) ?_
  refine lv_aload_n hx hb dX4_carryAll_53 rfl (lv_at hl 0 rfl) ?_
  refine gf_X4_today  hx hb hts hown hK hM tw_719 dX4_carryAll_54 ?_
  refine wt_callVi (As := [.int (s36 101 9)]) (rest := [.ref (B + 101)]) hx hb hml hts hown hK hM wt_rc_X4 cw_X4_216 hd_X4_carry rfl ⟨qz_b rfl, qz_b rfl⟩ ⟨rfl, rfl⟩ hl.1 rfl (qz_b rfl) dX4_carryAll_57 hf (fun _ _ h9 => c_X4_carry h9) (fun r37 s38 H locs hf hM => ?_)
  refine pf_X4_today  hx hb hts hown hK hM tw_719 dX4_carryAll_60 hf (fun s39 H locs hf hM => ?_)
  refine lv_iconst (v := 0) hx hb dX4_carryAll_63 (by decide) ?_
  refine lv_istore_n (lv' := [(3, .int (0 : Int32)), (0, .ref (B + 101)), (1, .ref (B + a)), (2, .int x2)]) hx hb dX4_carryAll_64 rfl hl (by decide) rfl (fun ls hl => ?_)
  exact w_X4_carryAll_65 C _ _ _ _ _ _ hf hM (lv_sub hl [1, 0] rfl)
end
set_option maxHeartbeats 4000000 in
set_option maxRecDepth 100000 in
theorem c_X4_carryAll {l : Launch} {D : va_G} {tI tII : ClassId} {B F : Nat} {a : Nat} {x2 : Int32} {σ σ' : Mem} (ha : wt_isA a 188) (hf : f_X4_carryAll F a x2 σ = some ((), σ')) : wt_Mv l yX4_carryAll cX4_carryAll 4 none rm_X4_carryAll [.ref (B + 101), .ref (B + a), .int x2] D tI tII B σ σ' := by
  refine Met.ofW (cc := cX4_carryAll) (maxL := 4) (ret := none) (by decide) rfl ?_
  intro p e s m args below meth c s₁ B9 hml hv
  obtain ⟨rfl, hP, hK⟩ := hv
  have hl := lv_entry ([.ref (B + 101), .ref (B + a), .int x2]) (n := 4) (qz_b rfl)
  rw [lg_entry_eq]
  generalize (lg_sl ([.ref (B + 101), .ref (B + a), .int x2]) ++ List.replicate (4 - (lg_sl ([.ref (B + 101), .ref (B + a), .int x2])).length) Slot.unset).toArray = ls at hl ⊢
  exact w_X4_carryAll_0 (wt_C_of B9 hml hK) ha hf ⟨hP, va_S.rf⟩ hl
section
variable {p : Program} {l : Launch} {e : Env} {s : State} {m : MethodId} {args : Array Value} {below : List Frame} {meth : Method} {c : Code} {D : va_G} {tI tII : ClassId} {B : Nat}
set_option maxHeartbeats 4000000 in
set_option maxRecDepth 100000 in
theorem w_X4_think_0 (C : wt_C p s m args meth c RX4 cX4_think 1 none D tI tII) {F : Nat} {σ : Mem} {σ' : Mem} {H : Heap} {locs : List Loc} {ls : Array Slot} (hf : f_X4_think F σ = some ((), σ')) (hM : wt_St D tI tII B σ s H locs) (hl : lv_has ls 1 [(0, .ref (B + 101))]) : W p l e rm_X4_think s m args below meth c H locs 0 0 (MQ below (wt_Qv D tI tII B σ') args s 0 0 (fun q => B ≤ q)) (F0 m 0 ls []) := by
  obtain ⟨hx, hb, hts, hown, hml, hr, hlk, hK⟩ := id C
  replace hf := Eq.trans f_X4_think_e.symm hf
  refine lv_aload_n hx hb dX4_think_0 rfl (lv_at hl 0 rfl) ?_
  refine lv_aload_n hx hb dX4_think_1 rfl (lv_at hl 0 rfl) ?_
  refine gf_X4_kept  hx hb hts hown hK hM tw_732 dX4_think_2 ?_
  refine lv_iconst (v := 1) hx hb dX4_think_5 (by decide) ?_
  refine wt_callVv (As := [.ref (B + 115), .int (1 : Int32)]) (rest := []) hx hb hml hts hown hK hM wt_rc_X4 cw_X4_219 hd_X4_carryAll rfl ⟨qz_b rfl, qz_b rfl⟩ ⟨rfl, rfl⟩ hl.1 rfl (qz_b rfl) dX4_think_6 hf (fun _ _ h9 => c_X4_carryAll wt_a115 h9) (fun r1 s2 H locs hf hM => ?_)
  exact wt_vret hx hb hr hlk hK hM hf dX4_think_9
end
set_option maxHeartbeats 4000000 in
set_option maxRecDepth 100000 in
theorem c_X4_think {l : Launch} {D : va_G} {tI tII : ClassId} {B F : Nat} {σ σ' : Mem} (hf : f_X4_think F σ = some ((), σ')) : wt_Mv l yX4_think cX4_think 1 none rm_X4_think [.ref (B + 101)] D tI tII B σ σ' := by
  refine Met.ofW (cc := cX4_think) (maxL := 1) (ret := none) (by decide) rfl ?_
  intro p e s m args below meth c s₁ B9 hml hv
  obtain ⟨rfl, hP, hK⟩ := hv
  have hl := lv_entry ([.ref (B + 101)]) (n := 1) (qz_b rfl)
  rw [lg_entry_eq]
  generalize (lg_sl ([.ref (B + 101)]) ++ List.replicate (1 - (lg_sl ([.ref (B + 101)])).length) Slot.unset).toArray = ls at hl ⊢
  exact w_X4_think_0 (wt_C_of B9 hml hK) hf ⟨hP, va_S.rf⟩ hl
section
variable {p : Program} {l : Launch} {e : Env} {s : State} {m : MethodId} {args : Array Value} {below : List Frame} {meth : Method} {c : Code} {D : va_G} {tI tII : ClassId} {B : Nat}
set_option maxHeartbeats 4000000 in
set_option maxRecDepth 100000 in
theorem w_X4_again_0 (C : wt_C p s m args meth c RX4 cX4_again 1 none D tI tII) {F : Nat} {σ : Mem} {σ' : Mem} {H : Heap} {locs : List Loc} {ls : Array Slot} (hf : f_X4_again F σ = some ((), σ')) (hM : wt_St D tI tII B σ s H locs) (hl : lv_has ls 1 [(0, .ref (B + 101))]) : W p l e rm_X4_again s m args below meth c H locs 0 0 (MQ below (wt_Qv D tI tII B σ') args s 0 0 (fun q => B ≤ q)) (F0 m 0 ls []) := by
  obtain ⟨hx, hb, hts, hown, hml, hr, hlk, hK⟩ := id C
  replace hf := Eq.trans f_X4_again_e.symm hf
  refine lv_aload_n hx hb dX4_again_0 rfl (lv_at hl 0 rfl) ?_
  refine lv_aload_n hx hb dX4_again_1 rfl (lv_at hl 0 rfl) ?_
  refine gf_X4_kept  hx hb hts hown hK hM tw_732 dX4_again_2 ?_
  refine lv_iconst (v := 0) hx hb dX4_again_5 (by decide) ?_
  refine wt_callVv (As := [.ref (B + 115), .int (0 : Int32)]) (rest := []) hx hb hml hts hown hK hM wt_rc_X4 cw_X4_219 hd_X4_carryAll rfl ⟨qz_b rfl, qz_b rfl⟩ ⟨rfl, rfl⟩ hl.1 rfl (qz_b rfl) dX4_again_6 hf (fun _ _ h9 => c_X4_carryAll wt_a115 h9) (fun r1 s2 H locs hf hM => ?_)
  exact wt_vret hx hb hr hlk hK hM hf dX4_again_9
end
set_option maxHeartbeats 4000000 in
set_option maxRecDepth 100000 in
theorem c_X4_again {l : Launch} {D : va_G} {tI tII : ClassId} {B F : Nat} {σ σ' : Mem} (hf : f_X4_again F σ = some ((), σ')) : wt_Mv l yX4_again cX4_again 1 none rm_X4_again [.ref (B + 101)] D tI tII B σ σ' := by
  refine Met.ofW (cc := cX4_again) (maxL := 1) (ret := none) (by decide) rfl ?_
  intro p e s m args below meth c s₁ B9 hml hv
  obtain ⟨rfl, hP, hK⟩ := hv
  have hl := lv_entry ([.ref (B + 101)]) (n := 1) (qz_b rfl)
  rw [lg_entry_eq]
  generalize (lg_sl ([.ref (B + 101)]) ++ List.replicate (1 - (lg_sl ([.ref (B + 101)])).length) Slot.unset).toArray = ls at hl ⊢
  exact w_X4_again_0 (wt_C_of B9 hml hK) hf ⟨hP, va_S.rf⟩ hl
section
variable {p : Program} {l : Launch} {e : Env} {s : State} {m : MethodId} {args : Array Value} {below : List Frame} {meth : Method} {c : Code} {D : va_G} {tI tII : ClassId} {B : Nat}
set_option maxHeartbeats 4000000 in
set_option maxRecDepth 100000 in
theorem w_X4_terrace_45 (C : wt_C p s m args meth c RX4 cX4_terrace 2 (some .int) D tI tII) {F : Nat} {k20 : Mem → Option (Int32 × Mem)} {σ : Mem} {r : Int32} {σ' : Mem} {H : Heap} {locs : List Loc} {ls : Array Slot} (hk20 : ∀ (σ : Mem) (H : Heap) (locs : List Loc) (ls : Array Slot), k20 σ = some (r, σ') → wt_St D tI tII B σ s H locs → lv_has ls 2 [(0, .ref (B + 101))] → W p l e rm_X4_terrace s m args below meth c H locs 0 0 (MQ below (wt_Qi D tI tII B r σ') args s 0 0 (fun q => B ≤ q)) (F0 m 20 ls [])) (hf : j_X4_terrace_45 F k20 σ = some (r, σ')) (hM : wt_St D tI tII B σ s H locs) (hl : lv_has ls 2 [(0, .ref (B + 101))]) : W p l e rm_X4_terrace s m args below meth c H locs 0 0 (MQ below (wt_Qi D tI tII B r σ') args s 0 0 (fun q => B ≤ q)) (F0 m 45 ls []) := by
  obtain ⟨hx, hb, hts, hown, hml, hr, hlk, hK⟩ := id C
  replace hf := Eq.trans j_X4_terrace_45_e.symm hf
  refine lv_aload_n hx hb dX4_terrace_45 rfl (lv_at hl 0 rfl) ?_
  refine wt_callVv (As := []) (rest := []) hx hb hml hts hown hK hM wt_rc_X4 cw_X4_192 hd_X4_readStatement rfl ⟨qz_b rfl, qz_b rfl⟩ ⟨rfl, rfl⟩ hl.1 rfl (qz_b rfl) dX4_terrace_46 hf (fun _ _ h9 => c_X4_readStatement h9) (fun r1 s2 H locs hf hM => ?_)
  refine lv_goto (tgt := 20) hx hb dX4_terrace_49 (by decide) ?_
  exact hk20 _ _ _ _ hf hM hl
set_option maxHeartbeats 4000000 in
set_option maxRecDepth 100000 in
theorem w_X4_terrace_79 (C : wt_C p s m args meth c RX4 cX4_terrace 2 (some .int) D tI tII) {F : Nat} {r : Int32} {σ' : Mem} : ∀ (N : Nat) (x1 : Int32) (σ : Mem) (H : Heap) (locs : List Loc) (ls : Array Slot), lp_X4_terrace_79 F N x1 σ = some (r, σ') → wt_St D tI tII B σ s H locs → lv_has ls 2 [(0, .ref (B + 101)), (1, .int x1)] → W p l e rm_X4_terrace s m args below meth c H locs 0 0 (MQ below (wt_Qi D tI tII B r σ') args s 0 0 (fun q => B ≤ q)) (F0 m 79 ls []) := by
  obtain ⟨hx, hb, hts, hown, hml, hr, hlk, hK⟩ := id C
  intro N
  induction N with
  | zero => intro x1 σ H locs ls hf; exact wt_none (show (none : Option (Int32 × Mem)) = some (r, σ') from hf)
  | succ N ih =>
    intro x1 σ H locs ls hf hM hl
    replace hf := Eq.trans lp_X4_terrace_79_s.symm hf
    refine lv_iload_n hx hb dX4_terrace_79 rfl (lv_at hl 1 rfl) ?_
    refine lv_aload_n hx hb dX4_terrace_80 rfl (lv_at hl 0 rfl) ?_
    refine gf_X4_statements  hx hb hts hown hK hM tw_728 dX4_terrace_81 ?_
    refine wq_icmp_ge (tgt := 116) hx hb dX4_terrace_84 (by decide) hf (fun hf => ?_) (fun hf => ?_)
    · refine lv_aload_n hx hb dX4_terrace_116 rfl (lv_at hl 0 rfl) ?_
      refine lv_iconst (v := 0) hx hb dX4_terrace_117 (by decide) ?_
      refine pf_X4_turned  hx hb hts hown hK hM tw_740 dX4_terrace_118 hf (fun s3 H locs hf hM => ?_)
      refine lv_aload_n hx hb dX4_terrace_121 rfl (lv_at hl 0 rfl) ?_
      refine gf_X4_statements  hx hb hts hown hK hM tw_728 dX4_terrace_122 ?_
      exact wt_iret hx hb hr hlk hK hM hf dX4_terrace_125
    refine lv_aload_n hx hb dX4_terrace_87 rfl (lv_at hl 0 rfl) ?_
    refine lv_iload_n hx hb dX4_terrace_88 rfl (lv_at hl 1 rfl) ?_
    refine wt_callVi (As := [.int x1]) (rest := []) hx hb hml hts hown hK hM wt_rc_X4 cw_X4_198 hd_X4_comesTold rfl ⟨qz_b rfl, qz_b rfl⟩ ⟨rfl, rfl⟩ hl.1 rfl (qz_b rfl) dX4_terrace_89 hf (fun _ _ h9 => c_X4_comesTold h9) (fun r4 s5 H locs hf hM => ?_)
    refine wq_if_ne (tgt := 110) hx hb dX4_terrace_92 (by decide) hf (fun hf => ?_) (fun hf => ?_)
    · refine lv_iinc (v := (x1 + (1 : Int32))) (lv' := [(1, .int (x1 + (1 : Int32))), (0, .ref (B + 101))]) hx hb dX4_terrace_110 hl (k := 1) rfl rfl (by decide) rfl (fun ls hl => ?_)
      refine lv_goto (tgt := 79) hx hb dX4_terrace_113 (by decide) ?_
      exact ih _ _ _ _ _ hf hM (lv_sub hl [1, 0] rfl)
    refine lv_aload_n hx hb dX4_terrace_95 rfl (lv_at hl 0 rfl) ?_
    refine wt_callVv (As := []) (rest := []) hx hb hml hts hown hK hM wt_rc_X4 cw_X4_201 hd_X4_again rfl ⟨qz_b rfl, qz_b rfl⟩ ⟨rfl, rfl⟩ hl.1 rfl (qz_b rfl) dX4_terrace_96 hf (fun _ _ h9 => c_X4_again h9) (fun r6 s7 H locs hf hM => ?_)
    refine lv_sipush (v := -2000) hx hb dX4_terrace_99 (by decide) ?_
    refine lv_aload_n hx hb dX4_terrace_102 rfl (lv_at hl 0 rfl) ?_
    refine gf_X4_placeIn  hx hb hts hown hK hM tw_729 dX4_terrace_103 ?_
    refine lv_iload_n hx hb dX4_terrace_106 rfl (lv_at hl 1 rfl) ?_
    obtain ⟨i8, hf⟩ := wt_chk_of hf
    refine wt_ild hx hb hK hM wt_a112 i8 dX4_terrace_107 ?_
    refine lv_isub hx hb dX4_terrace_108 ?_
    exact wt_iret hx hb hr hlk hK hM hf dX4_terrace_109
set_option maxHeartbeats 4000000 in
set_option maxRecDepth 100000 in
theorem w_X4_terrace_52 (C : wt_C p s m args meth c RX4 cX4_terrace 2 (some .int) D tI tII) {F : Nat} {σ : Mem} {r : Int32} {σ' : Mem} {H : Heap} {locs : List Loc} {ls : Array Slot} (hf : j_X4_terrace_52 F σ = some (r, σ')) (hM : wt_St D tI tII B σ s H locs) (hl : lv_has ls 2 [(0, .ref (B + 101))]) : W p l e rm_X4_terrace s m args below meth c H locs 0 0 (MQ below (wt_Qi D tI tII B r σ') args s 0 0 (fun q => B ≤ q)) (F0 m 52 ls []) := by
  obtain ⟨hx, hb, hts, hown, hml, hr, hlk, hK⟩ := id C
  replace hf := Eq.trans j_X4_terrace_52_e.symm hf
  refine lv_aload_n hx hb dX4_terrace_52 rfl (lv_at hl 0 rfl) ?_
  refine lv_iconst (v := 0) hx hb dX4_terrace_53 (by decide) ?_
  refine pf_X4_letterMany  hx hb hts hown hK hM tw_725 dX4_terrace_54 hf (fun s9 H locs hf hM => ?_)
  refine lv_aload_n hx hb dX4_terrace_57 rfl (lv_at hl 0 rfl) ?_
  refine gf_X4_isBad  hx hb hts hown hK hM tw_727 dX4_terrace_58 ?_
  refine wq_if_eq (tgt := 73) hx hb dX4_terrace_61 (by decide) hf (fun hf => ?_) (fun hf => ?_)
  · refine lv_aload_n hx hb dX4_terrace_73 rfl (lv_at hl 0 rfl) ?_
    refine wt_callVv (As := []) (rest := []) hx hb hml hts hown hK hM wt_rc_X4 cw_X4_195 hd_X4_think rfl ⟨qz_b rfl, qz_b rfl⟩ ⟨rfl, rfl⟩ hl.1 rfl (qz_b rfl) dX4_terrace_74 hf (fun _ _ h9 => c_X4_think h9) (fun r10 s11 H locs hf hM => ?_)
    refine lv_iconst (v := 0) hx hb dX4_terrace_77 (by decide) ?_
    refine lv_istore_n (lv' := [(1, .int (0 : Int32)), (0, .ref (B + 101))]) hx hb dX4_terrace_78 rfl hl (by decide) rfl (fun ls hl => ?_)
    exact w_X4_terrace_79 C _ _ _ _ _ _ hf hM (lv_sub hl [1, 0] rfl)
  refine lv_sipush (v := -1000) hx hb dX4_terrace_64 (by decide) ?_
  refine lv_aload_n hx hb dX4_terrace_67 rfl (lv_at hl 0 rfl) ?_
  refine gf_X4_at  hx hb hts hown hK hM tw_726 dX4_terrace_68 ?_
  refine lv_isub hx hb dX4_terrace_71 ?_
  exact wt_iret hx hb hr hlk hK hM hf dX4_terrace_72
set_option maxHeartbeats 4000000 in
set_option maxRecDepth 100000 in
theorem w_X4_terrace_20 (C : wt_C p s m args meth c RX4 cX4_terrace 2 (some .int) D tI tII) {F : Nat} {r : Int32} {σ' : Mem} : ∀ (N : Nat) (σ : Mem) (H : Heap) (locs : List Loc) (ls : Array Slot), lp_X4_terrace_20 F N σ = some (r, σ') → wt_St D tI tII B σ s H locs → lv_has ls 2 [(0, .ref (B + 101))] → W p l e rm_X4_terrace s m args below meth c H locs 0 0 (MQ below (wt_Qi D tI tII B r σ') args s 0 0 (fun q => B ≤ q)) (F0 m 20 ls []) := by
  obtain ⟨hx, hb, hts, hown, hml, hr, hlk, hK⟩ := id C
  intro N
  induction N with
  | zero => intro σ H locs ls hf; exact wt_none (show (none : Option (Int32 × Mem)) = some (r, σ') from hf)
  | succ N ih =>
    intro σ H locs ls hf hM hl
    replace hf := Eq.trans lp_X4_terrace_20_s.symm hf
    refine lv_aload_n hx hb dX4_terrace_20 rfl (lv_at hl 0 rfl) ?_
    refine gf_X4_isBad  hx hb hts hown hK hM tw_727 dX4_terrace_21 ?_
    refine wq_if_ne (tgt := 52) hx hb dX4_terrace_24 (by decide) hf (fun hf => ?_) (fun hf => ?_)
    · exact w_X4_terrace_52 C hf hM hl
    refine lv_aload_n hx hb dX4_terrace_27 rfl (lv_at hl 0 rfl) ?_
    refine gf_X4_statements  hx hb hts hown hK hM tw_728 dX4_terrace_28 ?_
    refine wq_if_eq (tgt := 45) hx hb dX4_terrace_31 (by decide) hf (fun hf => ?_) (fun hf => ?_)
    · exact w_X4_terrace_45 C ih hf hM hl
    refine lv_aload_n hx hb dX4_terrace_34 rfl (lv_at hl 0 rfl) ?_
    refine gf_X4_at  hx hb hts hown hK hM tw_726 dX4_terrace_35 ?_
    refine lv_aload_n hx hb dX4_terrace_38 rfl (lv_at hl 0 rfl) ?_
    refine gf_X4_letterMany  hx hb hts hown hK hM tw_725 dX4_terrace_39 ?_
    refine wq_icmp_ge (tgt := 52) hx hb dX4_terrace_42 (by decide) hf (fun hf => ?_) (fun hf => ?_)
    · exact w_X4_terrace_52 C hf hM hl
    exact w_X4_terrace_45 C ih hf hM hl
set_option maxHeartbeats 4000000 in
set_option maxRecDepth 100000 in
theorem w_X4_terrace_0 (C : wt_C p s m args meth c RX4 cX4_terrace 2 (some .int) D tI tII) {F : Nat} {σ : Mem} {r : Int32} {σ' : Mem} {H : Heap} {locs : List Loc} {ls : Array Slot} (hf : f_X4_terrace F σ = some (r, σ')) (hM : wt_St D tI tII B σ s H locs) (hl : lv_has ls 2 [(0, .ref (B + 101))]) : W p l e rm_X4_terrace s m args below meth c H locs 0 0 (MQ below (wt_Qi D tI tII B r σ') args s 0 0 (fun q => B ≤ q)) (F0 m 0 ls []) := by
  obtain ⟨hx, hb, hts, hown, hml, hr, hlk, hK⟩ := id C
  replace hf := Eq.trans f_X4_terrace_e.symm hf
  refine lv_aload_n hx hb dX4_terrace_0 rfl (lv_at hl 0 rfl) ?_
  refine lv_iconst (v := 0) hx hb dX4_terrace_1 (by decide) ?_
  refine pf_X4_thrown  hx hb hts hown hK hM tw_720 dX4_terrace_2 hf (fun s12 H locs hf hM => ?_)
  refine lv_aload_n hx hb dX4_terrace_5 rfl (lv_at hl 0 rfl) ?_
  refine lv_iconst (v := 0) hx hb dX4_terrace_6 (by decide) ?_
  refine pf_X4_at  hx hb hts hown hK hM tw_726 dX4_terrace_7 hf (fun s13 H locs hf hM => ?_)
  refine lv_aload_n hx hb dX4_terrace_10 rfl (lv_at hl 0 rfl) ?_
  refine lv_iconst (v := 0) hx hb dX4_terrace_11 (by decide) ?_
  refine pf_X4_isBad  hx hb hts hown hK hM tw_727 (by decide) dX4_terrace_12 hf (fun s14 H locs hf hM => ?_)
  refine lv_aload_n hx hb dX4_terrace_15 rfl (lv_at hl 0 rfl) ?_
  refine lv_iconst (v := 0) hx hb dX4_terrace_16 (by decide) ?_
  refine pf_X4_statements  hx hb hts hown hK hM tw_728 dX4_terrace_17 hf (fun s15 H locs hf hM => ?_)
  exact w_X4_terrace_20 C _ _ _ _ _ hf hM hl
end
set_option maxHeartbeats 4000000 in
set_option maxRecDepth 100000 in
theorem c_X4_terrace {l : Launch} {D : va_G} {tI tII : ClassId} {B F : Nat} {σ σ' : Mem} {r : Int32} (hf : f_X4_terrace F σ = some (r, σ')) : wt_Mi l yX4_terrace cX4_terrace 2 (some .int) rm_X4_terrace [.ref (B + 101)] D tI tII B σ r σ' := by
  refine Met.ofW (cc := cX4_terrace) (maxL := 2) (ret := (some .int)) (by decide) rfl ?_
  intro p e s m args below meth c s₁ B9 hml hv
  obtain ⟨rfl, hP, hK⟩ := hv
  have hl := lv_entry ([.ref (B + 101)]) (n := 2) (qz_b rfl)
  rw [lg_entry_eq]
  generalize (lg_sl ([.ref (B + 101)]) ++ List.replicate (2 - (lg_sl ([.ref (B + 101)])).length) Slot.unset).toArray = ls at hl ⊢
  exact w_X4_terrace_0 (wt_C_of B9 hml hK) hf ⟨hP, va_S.rf⟩ hl
section
variable {p : Program} {l : Launch} {e : Env} {s : State} {m : MethodId} {args : Array Value} {below : List Frame} {meth : Method} {c : Code} {D : va_G} {tI tII : ClassId} {B : Nat}
set_option maxHeartbeats 4000000 in
set_option maxRecDepth 100000 in
theorem w_X4_image_0 (C : wt_C p s m args meth c RX4 cX4_image 1 (some .int) D tI tII) {F : Nat} {σ : Mem} {r : Int32} {σ' : Mem} {H : Heap} {locs : List Loc} {ls : Array Slot} (hf : f_X4_image F σ = some (r, σ')) (hM : wt_St D tI tII B σ s H locs) (hl : lv_has ls 1 [(0, .ref (B + 101))]) : W p l e rm_X4_image s m args below meth c H locs 0 0 (MQ below (wt_Qi D tI tII B r σ') args s 0 0 (fun q => B ≤ q)) (F0 m 0 ls []) := by
  obtain ⟨hx, hb, hts, hown, hml, hr, hlk, hK⟩ := id C
  replace hf := Eq.trans f_X4_image_e.symm hf
  refine lv_aload_n hx hb dX4_image_0 rfl (lv_at hl 0 rfl) ?_
  refine lv_iconst (v := 0) hx hb dX4_image_1 (by decide) ?_
  refine pf_X4_thrown  hx hb hts hown hK hM tw_720 dX4_image_2 hf (fun s1 H locs hf hM => ?_)
  refine lv_aload_n hx hb dX4_image_5 rfl (lv_at hl 0 rfl) ?_
  refine lv_iconst (v := 1) hx hb dX4_image_6 (by decide) ?_
  refine pf_X4_hasImage  hx hb hts hown hK hM tw_734 (by decide) dX4_image_7 hf (fun s2 H locs hf hM => ?_)
  refine lv_aload_n hx hb dX4_image_10 rfl (lv_at hl 0 rfl) ?_
  refine lv_aload_n hx hb dX4_image_11 rfl (lv_at hl 0 rfl) ?_
  refine gf_X4_imaged  hx hb hts hown hK hM tw_733 dX4_image_12 ?_
  refine lv_iconst (v := 1) hx hb dX4_image_15 (by decide) ?_
  refine wt_callVv (As := [.ref (B + 116), .int (1 : Int32)]) (rest := []) hx hb hml hts hown hK hM wt_rc_X4 cw_X4_219 hd_X4_carryAll rfl ⟨qz_b rfl, qz_b rfl⟩ ⟨rfl, rfl⟩ hl.1 rfl (qz_b rfl) dX4_image_16 hf (fun _ _ h9 => c_X4_carryAll wt_a116 h9) (fun r3 s4 H locs hf hM => ?_)
  refine lv_aload_n hx hb dX4_image_19 rfl (lv_at hl 0 rfl) ?_
  refine gf_X4_today  hx hb hts hown hK hM tw_719 dX4_image_20 ?_
  exact wt_iret hx hb hr hlk hK hM hf dX4_image_23
end
set_option maxHeartbeats 4000000 in
set_option maxRecDepth 100000 in
theorem c_X4_image {l : Launch} {D : va_G} {tI tII : ClassId} {B F : Nat} {σ σ' : Mem} {r : Int32} (hf : f_X4_image F σ = some (r, σ')) : wt_Mi l yX4_image cX4_image 1 (some .int) rm_X4_image [.ref (B + 101)] D tI tII B σ r σ' := by
  refine Met.ofW (cc := cX4_image) (maxL := 1) (ret := (some .int)) (by decide) rfl ?_
  intro p e s m args below meth c s₁ B9 hml hv
  obtain ⟨rfl, hP, hK⟩ := hv
  have hl := lv_entry ([.ref (B + 101)]) (n := 1) (qz_b rfl)
  rw [lg_entry_eq]
  generalize (lg_sl ([.ref (B + 101)]) ++ List.replicate (1 - (lg_sl ([.ref (B + 101)])).length) Slot.unset).toArray = ls at hl ⊢
  exact w_X4_image_0 (wt_C_of B9 hml hK) hf ⟨hP, va_S.rf⟩ hl
section
variable {p : Program} {l : Launch} {e : Env} {s : State} {m : MethodId} {args : Array Value} {below : List Frame} {meth : Method} {c : Code} {D : va_G} {tI tII : ClassId} {B : Nat}
set_option maxHeartbeats 4000000 in
set_option maxRecDepth 100000 in
theorem w_X4_restore_0 (C : wt_C p s m args meth c RX4 cX4_restore 1 (some .int) D tI tII) {F : Nat} {σ : Mem} {r : Int32} {σ' : Mem} {H : Heap} {locs : List Loc} {ls : Array Slot} (hf : f_X4_restore F σ = some (r, σ')) (hM : wt_St D tI tII B σ s H locs) (hl : lv_has ls 1 [(0, .ref (B + 101))]) : W p l e rm_X4_restore s m args below meth c H locs 0 0 (MQ below (wt_Qi D tI tII B r σ') args s 0 0 (fun q => B ≤ q)) (F0 m 0 ls []) := by
  obtain ⟨hx, hb, hts, hown, hml, hr, hlk, hK⟩ := id C
  replace hf := Eq.trans f_X4_restore_e.symm hf
  refine lv_aload_n hx hb dX4_restore_0 rfl (lv_at hl 0 rfl) ?_
  refine lv_iconst (v := 0) hx hb dX4_restore_1 (by decide) ?_
  refine pf_X4_thrown  hx hb hts hown hK hM tw_720 dX4_restore_2 hf (fun s1 H locs hf hM => ?_)
  refine lv_aload_n hx hb dX4_restore_5 rfl (lv_at hl 0 rfl) ?_
  refine gf_X4_hasImage  hx hb hts hown hK hM tw_734 dX4_restore_6 ?_
  refine wq_if_ne (tgt := 19) hx hb dX4_restore_9 (by decide) hf (fun hf => ?_) (fun hf => ?_)
  · refine lv_aload_n hx hb dX4_restore_19 rfl (lv_at hl 0 rfl) ?_
    refine lv_aload_n hx hb dX4_restore_20 rfl (lv_at hl 0 rfl) ?_
    refine gf_X4_imaged  hx hb hts hown hK hM tw_733 dX4_restore_21 ?_
    refine lv_iconst (v := 0) hx hb dX4_restore_24 (by decide) ?_
    refine wt_callVv (As := [.ref (B + 116), .int (0 : Int32)]) (rest := []) hx hb hml hts hown hK hM wt_rc_X4 cw_X4_219 hd_X4_carryAll rfl ⟨qz_b rfl, qz_b rfl⟩ ⟨rfl, rfl⟩ hl.1 rfl (qz_b rfl) dX4_restore_25 hf (fun _ _ h9 => c_X4_carryAll wt_a116 h9) (fun r2 s3 H locs hf hM => ?_)
    refine lv_aload_n hx hb dX4_restore_28 rfl (lv_at hl 0 rfl) ?_
    refine lv_iconst (v := 0) hx hb dX4_restore_29 (by decide) ?_
    refine pf_X4_turned  hx hb hts hown hK hM tw_740 dX4_restore_30 hf (fun s4 H locs hf hM => ?_)
    refine lv_aload_n hx hb dX4_restore_33 rfl (lv_at hl 0 rfl) ?_
    refine gf_X4_today  hx hb hts hown hK hM tw_719 dX4_restore_34 ?_
    exact wt_iret hx hb hr hlk hK hM hf dX4_restore_37
  refine lv_aload_n hx hb dX4_restore_12 rfl (lv_at hl 0 rfl) ?_
  refine lv_bipush (v := -3) hx hb dX4_restore_13 (by decide) ?_
  refine wt_callVi (As := [.int (-3 : Int32)]) (rest := []) hx hb hml hts hown hK hM wt_rc_X4 cw_X4_143 hd_X4_refuse rfl ⟨qz_b rfl, qz_b rfl⟩ ⟨rfl, rfl⟩ hl.1 rfl (qz_b rfl) dX4_restore_15 hf (fun _ _ h9 => c_X4_refuse h9) (fun r5 s6 H locs hf hM => ?_)
  exact wt_iret hx hb hr hlk hK hM hf dX4_restore_18
end
set_option maxHeartbeats 4000000 in
set_option maxRecDepth 100000 in
theorem c_X4_restore {l : Launch} {D : va_G} {tI tII : ClassId} {B F : Nat} {σ σ' : Mem} {r : Int32} (hf : f_X4_restore F σ = some (r, σ')) : wt_Mi l yX4_restore cX4_restore 1 (some .int) rm_X4_restore [.ref (B + 101)] D tI tII B σ r σ' := by
  refine Met.ofW (cc := cX4_restore) (maxL := 1) (ret := (some .int)) (by decide) rfl ?_
  intro p e s m args below meth c s₁ B9 hml hv
  obtain ⟨rfl, hP, hK⟩ := hv
  have hl := lv_entry ([.ref (B + 101)]) (n := 1) (qz_b rfl)
  rw [lg_entry_eq]
  generalize (lg_sl ([.ref (B + 101)]) ++ List.replicate (1 - (lg_sl ([.ref (B + 101)])).length) Slot.unset).toArray = ls at hl ⊢
  exact w_X4_restore_0 (wt_C_of B9 hml hK) hf ⟨hP, va_S.rf⟩ hl
section
variable {p : Program} {l : Launch} {e : Env} {s : State} {m : MethodId} {args : Array Value} {below : List Frame} {meth : Method} {c : Code} {D : va_G} {tI tII : ClassId} {B : Nat}
set_option maxHeartbeats 4000000 in
set_option maxRecDepth 100000 in
theorem w_X4_keepTurn_63 (C : wt_C p s m args meth c RX4 cX4_keepTurn 2 none D tI tII) {F : Nat} {σ' : Mem} : ∀ (N : Nat) (x1 : Int32) (σ : Mem) (H : Heap) (locs : List Loc) (ls : Array Slot), lp_X4_keepTurn_63 F N x1 σ = some ((), σ') → wt_St D tI tII B σ s H locs → lv_has ls 2 [(0, .ref (B + 101)), (1, .int x1)] → W p l e rm_X4_keepTurn s m args below meth c H locs 0 0 (MQ below (wt_Qv D tI tII B σ') args s 0 0 (fun q => B ≤ q)) (F0 m 63 ls []) := by
  obtain ⟨hx, hb, hts, hown, hml, hr, hlk, hK⟩ := id C
  intro N
  induction N with
  | zero => intro x1 σ H locs ls hf; exact wt_none (show (none : Option (Unit × Mem)) = some ((), σ') from hf)
  | succ N ih =>
    intro x1 σ H locs ls hf hM hl
    replace hf := Eq.trans lp_X4_keepTurn_63_s.symm hf
    refine lv_iload_n hx hb dX4_keepTurn_63 rfl (lv_at hl 1 rfl) ?_
    refine lv_sipush (v := 188) hx hb dX4_keepTurn_64 (by decide) ?_
    refine wq_icmp_ge (tgt := 97) hx hb dX4_keepTurn_67 (by decide) hf (fun hf => ?_) (fun hf => ?_)
    · refine lv_aload_n hx hb dX4_keepTurn_97 rfl (lv_at hl 0 rfl) ?_
      refine lv_dup hx hb dX4_keepTurn_98 rfl ?_
      refine gf_X4_turned  hx hb hts hown hK hM tw_740 dX4_keepTurn_99 ?_
      refine lv_iconst (v := 1) hx hb dX4_keepTurn_102 (by decide) ?_
      refine lv_iadd hx hb dX4_keepTurn_103 ?_
      refine pf_X4_turned  hx hb hts hown hK hM tw_740 dX4_keepTurn_104 hf (fun s1 H locs hf hM => ?_)
      exact wt_vret hx hb hr hlk hK hM hf dX4_keepTurn_107
    refine lv_aload_n hx hb dX4_keepTurn_70 rfl (lv_at hl 0 rfl) ?_
    refine gf_X4_turns  hx hb hts hown hK hM tw_738 dX4_keepTurn_71 ?_
    refine lv_sipush (v := 188) hx hb dX4_keepTurn_74 (by decide) ?_
    refine lv_aload_n hx hb dX4_keepTurn_77 rfl (lv_at hl 0 rfl) ?_
    refine gf_X4_turned  hx hb hts hown hK hM tw_740 dX4_keepTurn_78 ?_
    refine lv_imul hx hb dX4_keepTurn_81 ?_
    refine lv_iload_n hx hb dX4_keepTurn_82 rfl (lv_at hl 1 rfl) ?_
    refine lv_iadd hx hb dX4_keepTurn_83 ?_
    refine lv_aload_n hx hb dX4_keepTurn_84 rfl (lv_at hl 0 rfl) ?_
    refine gf_X4_turnOf  hx hb hts hown hK hM tw_739 dX4_keepTurn_85 ?_
    refine lv_iload_n hx hb dX4_keepTurn_88 rfl (lv_at hl 1 rfl) ?_
    obtain ⟨i2, hf⟩ := wt_chk_of hf
    refine wt_ild hx hb hK hM wt_a118 i2 dX4_keepTurn_89 ?_
    obtain ⟨i3, hf⟩ := wt_chk_of hf
    refine wt_ist hx hb hK hM wt_a117 i3 dX4_keepTurn_90 hf (fun s4 H locs hf hM => ?_)
    refine lv_iinc (v := (x1 + (1 : Int32))) (lv' := [(1, .int (x1 + (1 : Int32))), (0, .ref (B + 101))]) hx hb dX4_keepTurn_91 hl (k := 1) rfl rfl (by decide) rfl (fun ls hl => ?_)
    refine lv_goto (tgt := 63) hx hb dX4_keepTurn_94 (by decide) ?_
    exact ih _ _ _ _ _ hf hM (lv_sub hl [1, 0] rfl)
set_option maxHeartbeats 4000000 in
set_option maxRecDepth 100000 in
theorem w_X4_keepTurn_52 (C : wt_C p s m args meth c RX4 cX4_keepTurn 2 none D tI tII) {F : Nat} {σ : Mem} {σ' : Mem} {H : Heap} {locs : List Loc} {ls : Array Slot} (hf : j_X4_keepTurn_52 F σ = some ((), σ')) (hM : wt_St D tI tII B σ s H locs) (hl : lv_has ls 2 [(0, .ref (B + 101))]) : W p l e rm_X4_keepTurn s m args below meth c H locs 0 0 (MQ below (wt_Qv D tI tII B σ') args s 0 0 (fun q => B ≤ q)) (F0 m 52 ls []) := by
  obtain ⟨hx, hb, hts, hown, hml, hr, hlk, hK⟩ := id C
  replace hf := Eq.trans j_X4_keepTurn_52_e.symm hf
  refine lv_aload_n hx hb dX4_keepTurn_52 rfl (lv_at hl 0 rfl) ?_
  refine lv_aload_n hx hb dX4_keepTurn_53 rfl (lv_at hl 0 rfl) ?_
  refine gf_X4_turnOf  hx hb hts hown hK hM tw_739 dX4_keepTurn_54 ?_
  refine lv_iconst (v := 1) hx hb dX4_keepTurn_57 (by decide) ?_
  refine wt_callVv (As := [.ref (B + 118), .int (1 : Int32)]) (rest := []) hx hb hml hts hown hK hM wt_rc_X4 cw_X4_219 hd_X4_carryAll rfl ⟨qz_b rfl, qz_b rfl⟩ ⟨rfl, rfl⟩ hl.1 rfl (qz_b rfl) dX4_keepTurn_58 hf (fun _ _ h9 => c_X4_carryAll wt_a118 h9) (fun r5 s6 H locs hf hM => ?_)
  refine lv_iconst (v := 0) hx hb dX4_keepTurn_61 (by decide) ?_
  refine lv_istore_n (lv' := [(1, .int (0 : Int32)), (0, .ref (B + 101))]) hx hb dX4_keepTurn_62 rfl hl (by decide) rfl (fun ls hl => ?_)
  exact w_X4_keepTurn_63 C _ _ _ _ _ _ hf hM (lv_sub hl [1, 0] rfl)
set_option maxHeartbeats 4000000 in
set_option maxRecDepth 100000 in
theorem w_X4_keepTurn_13 (C : wt_C p s m args meth c RX4 cX4_keepTurn 2 none D tI tII) {F : Nat} {σ' : Mem} : ∀ (N : Nat) (x1 : Int32) (σ : Mem) (H : Heap) (locs : List Loc) (ls : Array Slot), lp_X4_keepTurn_13 F N x1 σ = some ((), σ') → wt_St D tI tII B σ s H locs → lv_has ls 2 [(0, .ref (B + 101)), (1, .int x1)] → W p l e rm_X4_keepTurn s m args below meth c H locs 0 0 (MQ below (wt_Qv D tI tII B σ') args s 0 0 (fun q => B ≤ q)) (F0 m 13 ls []) := by
  obtain ⟨hx, hb, hts, hown, hml, hr, hlk, hK⟩ := id C
  intro N
  induction N with
  | zero => intro x1 σ H locs ls hf; exact wt_none (show (none : Option (Unit × Mem)) = some ((), σ') from hf)
  | succ N ih =>
    intro x1 σ H locs ls hf hM hl
    replace hf := Eq.trans lp_X4_keepTurn_13_s.symm hf
    refine lv_iload_n hx hb dX4_keepTurn_13 rfl (lv_at hl 1 rfl) ?_
    refine lv_sipush (v := 1504) hx hb dX4_keepTurn_14 (by decide) ?_
    refine wq_icmp_ge (tgt := 42) hx hb dX4_keepTurn_17 (by decide) hf (fun hf => ?_) (fun hf => ?_)
    · refine lv_aload_n hx hb dX4_keepTurn_42 rfl (lv_at hl 0 rfl) ?_
      refine lv_dup hx hb dX4_keepTurn_43 rfl ?_
      refine gf_X4_turned  hx hb hts hown hK hM tw_740 dX4_keepTurn_44 ?_
      refine lv_iconst (v := 1) hx hb dX4_keepTurn_47 (by decide) ?_
      refine lv_isub hx hb dX4_keepTurn_48 ?_
      refine pf_X4_turned  hx hb hts hown hK hM tw_740 dX4_keepTurn_49 hf (fun s7 H locs hf hM => ?_)
      exact w_X4_keepTurn_52 C hf hM (lv_sub hl [0] rfl)
    refine lv_aload_n hx hb dX4_keepTurn_20 rfl (lv_at hl 0 rfl) ?_
    refine gf_X4_turns  hx hb hts hown hK hM tw_738 dX4_keepTurn_21 ?_
    refine lv_iload_n hx hb dX4_keepTurn_24 rfl (lv_at hl 1 rfl) ?_
    refine lv_sipush (v := 188) hx hb dX4_keepTurn_25 (by decide) ?_
    refine lv_isub hx hb dX4_keepTurn_28 ?_
    refine lv_aload_n hx hb dX4_keepTurn_29 rfl (lv_at hl 0 rfl) ?_
    refine gf_X4_turns  hx hb hts hown hK hM tw_738 dX4_keepTurn_30 ?_
    refine lv_iload_n hx hb dX4_keepTurn_33 rfl (lv_at hl 1 rfl) ?_
    obtain ⟨i8, hf⟩ := wt_chk_of hf
    refine wt_ild hx hb hK hM wt_a117 i8 dX4_keepTurn_34 ?_
    obtain ⟨i9, hf⟩ := wt_chk_of hf
    refine wt_ist hx hb hK hM wt_a117 i9 dX4_keepTurn_35 hf (fun s10 H locs hf hM => ?_)
    refine lv_iinc (v := (x1 + (1 : Int32))) (lv' := [(1, .int (x1 + (1 : Int32))), (0, .ref (B + 101))]) hx hb dX4_keepTurn_36 hl (k := 1) rfl rfl (by decide) rfl (fun ls hl => ?_)
    refine lv_goto (tgt := 13) hx hb dX4_keepTurn_39 (by decide) ?_
    exact ih _ _ _ _ _ hf hM (lv_sub hl [1, 0] rfl)
set_option maxHeartbeats 4000000 in
set_option maxRecDepth 100000 in
theorem w_X4_keepTurn_0 (C : wt_C p s m args meth c RX4 cX4_keepTurn 2 none D tI tII) {F : Nat} {σ : Mem} {σ' : Mem} {H : Heap} {locs : List Loc} {ls : Array Slot} (hf : f_X4_keepTurn F σ = some ((), σ')) (hM : wt_St D tI tII B σ s H locs) (hl : lv_has ls 2 [(0, .ref (B + 101))]) : W p l e rm_X4_keepTurn s m args below meth c H locs 0 0 (MQ below (wt_Qv D tI tII B σ') args s 0 0 (fun q => B ≤ q)) (F0 m 0 ls []) := by
  obtain ⟨hx, hb, hts, hown, hml, hr, hlk, hK⟩ := id C
  replace hf := Eq.trans f_X4_keepTurn_e.symm hf
  refine lv_aload_n hx hb dX4_keepTurn_0 rfl (lv_at hl 0 rfl) ?_
  refine gf_X4_turned  hx hb hts hown hK hM tw_740 dX4_keepTurn_1 ?_
  refine lv_bipush (v := 8) hx hb dX4_keepTurn_4 (by decide) ?_
  refine wq_icmp_ne (tgt := 52) hx hb dX4_keepTurn_6 (by decide) hf (fun hf => ?_) (fun hf => ?_)
  · exact w_X4_keepTurn_52 C hf hM hl
  refine lv_sipush (v := 188) hx hb dX4_keepTurn_9 (by decide) ?_
  refine lv_istore_n (lv' := [(1, .int (188 : Int32)), (0, .ref (B + 101))]) hx hb dX4_keepTurn_12 rfl hl (by decide) rfl (fun ls hl => ?_)
  exact w_X4_keepTurn_13 C _ _ _ _ _ _ hf hM (lv_sub hl [1, 0] rfl)
end
set_option maxHeartbeats 4000000 in
set_option maxRecDepth 100000 in
theorem c_X4_keepTurn {l : Launch} {D : va_G} {tI tII : ClassId} {B F : Nat} {σ σ' : Mem} (hf : f_X4_keepTurn F σ = some ((), σ')) : wt_Mv l yX4_keepTurn cX4_keepTurn 2 none rm_X4_keepTurn [.ref (B + 101)] D tI tII B σ σ' := by
  refine Met.ofW (cc := cX4_keepTurn) (maxL := 2) (ret := none) (by decide) rfl ?_
  intro p e s m args below meth c s₁ B9 hml hv
  obtain ⟨rfl, hP, hK⟩ := hv
  have hl := lv_entry ([.ref (B + 101)]) (n := 2) (qz_b rfl)
  rw [lg_entry_eq]
  generalize (lg_sl ([.ref (B + 101)]) ++ List.replicate (2 - (lg_sl ([.ref (B + 101)])).length) Slot.unset).toArray = ls at hl ⊢
  exact w_X4_keepTurn_0 (wt_C_of B9 hml hK) hf ⟨hP, va_S.rf⟩ hl
section
variable {p : Program} {l : Launch} {e : Env} {s : State} {m : MethodId} {args : Array Value} {below : List Frame} {meth : Method} {c : Code} {D : va_G} {tI tII : ClassId} {B : Nat}
set_option maxHeartbeats 4000000 in
set_option maxRecDepth 100000 in
theorem w_X4_back_31 (C : wt_C p s m args meth c RX4 cX4_back 2 (some .int) D tI tII) {F : Nat} {r : Int32} {σ' : Mem} : ∀ (N : Nat) (x1 : Int32) (σ : Mem) (H : Heap) (locs : List Loc) (ls : Array Slot), lp_X4_back_31 F N x1 σ = some (r, σ') → wt_St D tI tII B σ s H locs → lv_has ls 2 [(0, .ref (B + 101)), (1, .int x1)] → W p l e rm_X4_back s m args below meth c H locs 0 0 (MQ below (wt_Qi D tI tII B r σ') args s 0 0 (fun q => B ≤ q)) (F0 m 31 ls []) := by
  obtain ⟨hx, hb, hts, hown, hml, hr, hlk, hK⟩ := id C
  intro N
  induction N with
  | zero => intro x1 σ H locs ls hf; exact wt_none (show (none : Option (Int32 × Mem)) = some (r, σ') from hf)
  | succ N ih =>
    intro x1 σ H locs ls hf hM hl
    replace hf := Eq.trans lp_X4_back_31_s.symm hf
    refine lv_iload_n hx hb dX4_back_31 rfl (lv_at hl 1 rfl) ?_
    refine lv_sipush (v := 188) hx hb dX4_back_32 (by decide) ?_
    refine wq_icmp_ge (tgt := 65) hx hb dX4_back_35 (by decide) hf (fun hf => ?_) (fun hf => ?_)
    · refine lv_aload_n hx hb dX4_back_65 rfl (lv_at hl 0 rfl) ?_
      refine lv_aload_n hx hb dX4_back_66 rfl (lv_at hl 0 rfl) ?_
      refine gf_X4_turnOf  hx hb hts hown hK hM tw_739 dX4_back_67 ?_
      refine lv_iconst (v := 0) hx hb dX4_back_70 (by decide) ?_
      refine wt_callVv (As := [.ref (B + 118), .int (0 : Int32)]) (rest := []) hx hb hml hts hown hK hM wt_rc_X4 cw_X4_219 hd_X4_carryAll rfl ⟨qz_b rfl, qz_b rfl⟩ ⟨rfl, rfl⟩ hl.1 rfl (qz_b rfl) dX4_back_71 hf (fun _ _ h9 => c_X4_carryAll wt_a118 h9) (fun r1 s2 H locs hf hM => ?_)
      refine lv_aload_n hx hb dX4_back_74 rfl (lv_at hl 0 rfl) ?_
      refine gf_X4_turned  hx hb hts hown hK hM tw_740 dX4_back_75 ?_
      exact wt_iret hx hb hr hlk hK hM hf dX4_back_78
    refine lv_aload_n hx hb dX4_back_38 rfl (lv_at hl 0 rfl) ?_
    refine gf_X4_turnOf  hx hb hts hown hK hM tw_739 dX4_back_39 ?_
    refine lv_iload_n hx hb dX4_back_42 rfl (lv_at hl 1 rfl) ?_
    refine lv_aload_n hx hb dX4_back_43 rfl (lv_at hl 0 rfl) ?_
    refine gf_X4_turns  hx hb hts hown hK hM tw_738 dX4_back_44 ?_
    refine lv_sipush (v := 188) hx hb dX4_back_47 (by decide) ?_
    refine lv_aload_n hx hb dX4_back_50 rfl (lv_at hl 0 rfl) ?_
    refine gf_X4_turned  hx hb hts hown hK hM tw_740 dX4_back_51 ?_
    refine lv_imul hx hb dX4_back_54 ?_
    refine lv_iload_n hx hb dX4_back_55 rfl (lv_at hl 1 rfl) ?_
    refine lv_iadd hx hb dX4_back_56 ?_
    obtain ⟨i3, hf⟩ := wt_chk_of hf
    refine wt_ild hx hb hK hM wt_a117 i3 dX4_back_57 ?_
    obtain ⟨i4, hf⟩ := wt_chk_of hf
    refine wt_ist hx hb hK hM wt_a118 i4 dX4_back_58 hf (fun s5 H locs hf hM => ?_)
    refine lv_iinc (v := (x1 + (1 : Int32))) (lv' := [(1, .int (x1 + (1 : Int32))), (0, .ref (B + 101))]) hx hb dX4_back_59 hl (k := 1) rfl rfl (by decide) rfl (fun ls hl => ?_)
    refine lv_goto (tgt := 31) hx hb dX4_back_62 (by decide) ?_
    exact ih _ _ _ _ _ hf hM (lv_sub hl [1, 0] rfl)
set_option maxHeartbeats 4000000 in
set_option maxRecDepth 100000 in
theorem w_X4_back_0 (C : wt_C p s m args meth c RX4 cX4_back 2 (some .int) D tI tII) {F : Nat} {σ : Mem} {r : Int32} {σ' : Mem} {H : Heap} {locs : List Loc} {ls : Array Slot} (hf : f_X4_back F σ = some (r, σ')) (hM : wt_St D tI tII B σ s H locs) (hl : lv_has ls 2 [(0, .ref (B + 101))]) : W p l e rm_X4_back s m args below meth c H locs 0 0 (MQ below (wt_Qi D tI tII B r σ') args s 0 0 (fun q => B ≤ q)) (F0 m 0 ls []) := by
  obtain ⟨hx, hb, hts, hown, hml, hr, hlk, hK⟩ := id C
  replace hf := Eq.trans f_X4_back_e.symm hf
  refine lv_aload_n hx hb dX4_back_0 rfl (lv_at hl 0 rfl) ?_
  refine lv_iconst (v := 0) hx hb dX4_back_1 (by decide) ?_
  refine pf_X4_thrown  hx hb hts hown hK hM tw_720 dX4_back_2 hf (fun s6 H locs hf hM => ?_)
  refine lv_aload_n hx hb dX4_back_5 rfl (lv_at hl 0 rfl) ?_
  refine gf_X4_turned  hx hb hts hown hK hM tw_740 dX4_back_6 ?_
  refine wq_if_ne (tgt := 19) hx hb dX4_back_9 (by decide) hf (fun hf => ?_) (fun hf => ?_)
  · refine lv_aload_n hx hb dX4_back_19 rfl (lv_at hl 0 rfl) ?_
    refine lv_dup hx hb dX4_back_20 rfl ?_
    refine gf_X4_turned  hx hb hts hown hK hM tw_740 dX4_back_21 ?_
    refine lv_iconst (v := 1) hx hb dX4_back_24 (by decide) ?_
    refine lv_isub hx hb dX4_back_25 ?_
    refine pf_X4_turned  hx hb hts hown hK hM tw_740 dX4_back_26 hf (fun s7 H locs hf hM => ?_)
    refine lv_iconst (v := 0) hx hb dX4_back_29 (by decide) ?_
    refine lv_istore_n (lv' := [(1, .int (0 : Int32)), (0, .ref (B + 101))]) hx hb dX4_back_30 rfl hl (by decide) rfl (fun ls hl => ?_)
    exact w_X4_back_31 C _ _ _ _ _ _ hf hM (lv_sub hl [1, 0] rfl)
  refine lv_aload_n hx hb dX4_back_12 rfl (lv_at hl 0 rfl) ?_
  refine lv_bipush (v := -3) hx hb dX4_back_13 (by decide) ?_
  refine wt_callVi (As := [.int (-3 : Int32)]) (rest := []) hx hb hml hts hown hK hM wt_rc_X4 cw_X4_143 hd_X4_refuse rfl ⟨qz_b rfl, qz_b rfl⟩ ⟨rfl, rfl⟩ hl.1 rfl (qz_b rfl) dX4_back_15 hf (fun _ _ h9 => c_X4_refuse h9) (fun r8 s9 H locs hf hM => ?_)
  exact wt_iret hx hb hr hlk hK hM hf dX4_back_18
end
set_option maxHeartbeats 4000000 in
set_option maxRecDepth 100000 in
theorem c_X4_back {l : Launch} {D : va_G} {tI tII : ClassId} {B F : Nat} {σ σ' : Mem} {r : Int32} (hf : f_X4_back F σ = some (r, σ')) : wt_Mi l yX4_back cX4_back 2 (some .int) rm_X4_back [.ref (B + 101)] D tI tII B σ r σ' := by
  refine Met.ofW (cc := cX4_back) (maxL := 2) (ret := (some .int)) (by decide) rfl ?_
  intro p e s m args below meth c s₁ B9 hml hv
  obtain ⟨rfl, hP, hK⟩ := hv
  have hl := lv_entry ([.ref (B + 101)]) (n := 2) (qz_b rfl)
  rw [lg_entry_eq]
  generalize (lg_sl ([.ref (B + 101)]) ++ List.replicate (2 - (lg_sl ([.ref (B + 101)])).length) Slot.unset).toArray = ls at hl ⊢
  exact w_X4_back_0 (wt_C_of B9 hml hK) hf ⟨hP, va_S.rf⟩ hl
section
variable {p : Program} {l : Launch} {e : Env} {s : State} {m : MethodId} {args : Array Value} {below : List Frame} {meth : Method} {c : Code} {D : va_G} {tI tII : ClassId} {B : Nat}
set_option maxHeartbeats 4000000 in
set_option maxRecDepth 100000 in
theorem w_X4_paneOf_38 (C : wt_C p s m args meth c RX4 cX4_paneOf 5 (some .int) D tI tII) {F : Nat} {t1 : Int32} {σ : Mem} {r : Int32} {σ' : Mem} {H : Heap} {locs : List Loc} {ls : Array Slot} (hf : j_X4_paneOf_38 F t1 σ = some (r, σ')) (hM : wt_St D tI tII B σ s H locs) (hl : lv_has ls 5 []) : W p l e rm_X4_paneOf s m args below meth c H locs 0 0 (MQ below (wt_Qi D tI tII B r σ') args s 0 0 (fun q => B ≤ q)) (F0 m 38 ls [.int t1, .ref (B + 101)]) := by
  obtain ⟨hx, hb, hts, hown, hml, hr, hlk, hK⟩ := id C
  replace hf := Eq.trans j_X4_paneOf_38_e.symm hf
  refine wt_callVi (As := [.int t1]) (rest := []) hx hb hml hts hown hK hM wt_rc_X4 cw_X4_143 hd_X4_refuse rfl ⟨qz_b rfl, qz_b rfl⟩ ⟨rfl, rfl⟩ hl.1 rfl (qz_b rfl) dX4_paneOf_38 hf (fun _ _ h9 => c_X4_refuse h9) (fun r1 s2 H locs hf hM => ?_)
  exact wt_iret hx hb hr hlk hK hM hf dX4_paneOf_41
set_option maxHeartbeats 4000000 in
set_option maxRecDepth 100000 in
theorem w_X4_paneOf_23 (C : wt_C p s m args meth c RX4 cX4_paneOf 5 (some .int) D tI tII) {F : Nat} {x1 : Int32} {σ : Mem} {r : Int32} {σ' : Mem} {H : Heap} {locs : List Loc} {ls : Array Slot} (hf : j_X4_paneOf_23 F x1 σ = some (r, σ')) (hM : wt_St D tI tII B σ s H locs) (hl : lv_has ls 5 [(0, .ref (B + 101)), (1, .int x1)]) : W p l e rm_X4_paneOf s m args below meth c H locs 0 0 (MQ below (wt_Qi D tI tII B r σ') args s 0 0 (fun q => B ≤ q)) (F0 m 23 ls []) := by
  obtain ⟨hx, hb, hts, hown, hml, hr, hlk, hK⟩ := id C
  replace hf := Eq.trans j_X4_paneOf_23_e.symm hf
  refine lv_aload_n hx hb dX4_paneOf_23 rfl (lv_at hl 0 rfl) ?_
  refine lv_aload_n hx hb dX4_paneOf_24 rfl (lv_at hl 0 rfl) ?_
  refine lv_iload_n hx hb dX4_paneOf_25 rfl (lv_at hl 1 rfl) ?_
  refine wt_callVi (As := [.int x1]) (rest := [.ref (B + 101)]) hx hb hml hts hown hK hM wt_rc_X4 cw_X4_179 hd_X4_isPane rfl ⟨qz_b rfl, qz_b rfl⟩ ⟨rfl, rfl⟩ hl.1 rfl (qz_b rfl) dX4_paneOf_26 hf (fun _ _ h9 => c_X4_isPane h9) (fun r3 s4 H locs hf hM => ?_)
  refine wq_if_eq (tgt := 37) hx hb dX4_paneOf_29 (by decide) hf (fun hf => ?_) (fun hf => ?_)
  · refine lv_iconst (v := -1) hx hb dX4_paneOf_37 (by decide) ?_
    exact w_X4_paneOf_38 C hf hM (lv_sub hl [] rfl)
  refine lv_bipush (v := -2) hx hb dX4_paneOf_32 (by decide) ?_
  refine lv_goto (tgt := 38) hx hb dX4_paneOf_34 (by decide) ?_
  exact w_X4_paneOf_38 C hf hM (lv_sub hl [] rfl)
set_option maxHeartbeats 4000000 in
set_option maxRecDepth 100000 in
theorem w_X4_paneOf_76 (C : wt_C p s m args meth c RX4 cX4_paneOf 5 (some .int) D tI tII) {F : Nat} {k47 : Int32 → Int32 → Mem → Option (Int32 × Mem)} {x1 : Int32} {x2 : Int32} {x4 : Int32} {t0 : Int32} {t1 : Int32} {σ : Mem} {r : Int32} {σ' : Mem} {H : Heap} {locs : List Loc} {ls : Array Slot} (hk47 : ∀ (x3 : Int32) (x4 : Int32) (σ : Mem) (H : Heap) (locs : List Loc) (ls : Array Slot), k47 x3 x4 σ = some (r, σ') → wt_St D tI tII B σ s H locs → lv_has ls 5 [(0, .ref (B + 101)), (1, .int x1), (2, .int x2), (3, .int x3), (4, .int x4)] → W p l e rm_X4_paneOf s m args below meth c H locs 0 0 (MQ below (wt_Qi D tI tII B r σ') args s 0 0 (fun q => B ≤ q)) (F0 m 47 ls [])) (hf : j_X4_paneOf_76 F k47 x1 x2 x4 t0 t1 σ = some (r, σ')) (hM : wt_St D tI tII B σ s H locs) (hl : lv_has ls 5 [(0, .ref (B + 101)), (1, .int x1), (2, .int x2), (4, .int x4)]) : W p l e rm_X4_paneOf s m args below meth c H locs 0 0 (MQ below (wt_Qi D tI tII B r σ') args s 0 0 (fun q => B ≤ q)) (F0 m 76 ls [.int t1, .int t0]) := by
  obtain ⟨hx, hb, hts, hown, hml, hr, hlk, hK⟩ := id C
  replace hf := Eq.trans j_X4_paneOf_76_e.symm hf
  refine lv_iadd hx hb dX4_paneOf_76 ?_
  refine lv_istore_n (lv' := [(3, .int (t0 + t1)), (0, .ref (B + 101)), (1, .int x1), (2, .int x2), (4, .int x4)]) hx hb dX4_paneOf_77 rfl hl (by decide) rfl (fun ls hl => ?_)
  refine lv_iinc (v := (x4 + (1 : Int32))) (lv' := [(4, .int (x4 + (1 : Int32))), (3, .int (t0 + t1)), (0, .ref (B + 101)), (1, .int x1), (2, .int x2)]) hx hb dX4_paneOf_78 hl (k := 4) rfl rfl (by decide) rfl (fun ls hl => ?_)
  refine lv_goto (tgt := 47) hx hb dX4_paneOf_81 (by decide) ?_
  exact hk47 _ _ _ _ _ _ hf hM (lv_sub hl [2, 3, 4, 1, 0] rfl)
set_option maxHeartbeats 4000000 in
set_option maxRecDepth 100000 in
theorem w_X4_paneOf_47 (C : wt_C p s m args meth c RX4 cX4_paneOf 5 (some .int) D tI tII) {F : Nat} {x1 : Int32} {x2 : Int32} {r : Int32} {σ' : Mem} : ∀ (N : Nat) (x3 : Int32) (x4 : Int32) (σ : Mem) (H : Heap) (locs : List Loc) (ls : Array Slot), lp_X4_paneOf_47 F x1 x2 N x3 x4 σ = some (r, σ') → wt_St D tI tII B σ s H locs → lv_has ls 5 [(0, .ref (B + 101)), (1, .int x1), (2, .int x2), (3, .int x3), (4, .int x4)] → W p l e rm_X4_paneOf s m args below meth c H locs 0 0 (MQ below (wt_Qi D tI tII B r σ') args s 0 0 (fun q => B ≤ q)) (F0 m 47 ls []) := by
  obtain ⟨hx, hb, hts, hown, hml, hr, hlk, hK⟩ := id C
  intro N
  induction N with
  | zero => intro x3 x4 σ H locs ls hf; exact wt_none (show (none : Option (Int32 × Mem)) = some (r, σ') from hf)
  | succ N ih =>
    intro x3 x4 σ H locs ls hf hM hl
    replace hf := Eq.trans lp_X4_paneOf_47_s.symm hf
    refine lv_iload hx hb dX4_paneOf_47 (lv_at hl 4 rfl) ?_
    refine lv_bipush (v := 24) hx hb dX4_paneOf_49 (by decide) ?_
    refine lv_aload_n hx hb dX4_paneOf_51 rfl (lv_at hl 0 rfl) ?_
    refine gf_X4_lookers  hx hb hts hown hK hM tw_713 dX4_paneOf_52 ?_
    refine lv_imul hx hb dX4_paneOf_55 ?_
    refine wq_icmp_ge (tgt := 84) hx hb dX4_paneOf_56 (by decide) hf (fun hf => ?_) (fun hf => ?_)
    · refine lv_iload_n hx hb dX4_paneOf_84 rfl (lv_at hl 2 rfl) ?_
      refine wq_if_ne (tgt := 97) hx hb dX4_paneOf_85 (by decide) hf (fun hf => ?_) (fun hf => ?_)
      · refine lv_iload_n hx hb dX4_paneOf_97 rfl (lv_at hl 3 rfl) ?_
        exact wt_iret hx hb hr hlk hK hM hf dX4_paneOf_98
      refine lv_aload_n hx hb dX4_paneOf_88 rfl (lv_at hl 0 rfl) ?_
      refine gf_X4_shows  hx hb hts hown hK hM tw_712 dX4_paneOf_89 ?_
      refine lv_iload_n hx hb dX4_paneOf_92 rfl (lv_at hl 1 rfl) ?_
      obtain ⟨i5, hf⟩ := wt_chk_of hf
      refine wt_ild hx hb hK hM wt_a103 i5 dX4_paneOf_93 ?_
      refine lv_goto (tgt := 98) hx hb dX4_paneOf_94 (by decide) ?_
      exact wt_iret hx hb hr hlk hK hM hf dX4_paneOf_98
    refine lv_iload_n hx hb dX4_paneOf_59 rfl (lv_at hl 3 rfl) ?_
    refine lv_aload_n hx hb dX4_paneOf_60 rfl (lv_at hl 0 rfl) ?_
    refine gf_X4_rosters  hx hb hts hown hK hM tw_716 dX4_paneOf_61 ?_
    refine lv_iload hx hb dX4_paneOf_64 (lv_at hl 4 rfl) ?_
    obtain ⟨i6, hf⟩ := wt_chk_of hf
    refine wt_ild hx hb hK hM wt_a106 i6 dX4_paneOf_66 ?_
    refine lv_iload_n hx hb dX4_paneOf_67 rfl (lv_at hl 1 rfl) ?_
    refine wq_icmp_ne (tgt := 75) hx hb dX4_paneOf_68 (by decide) hf (fun hf => ?_) (fun hf => ?_)
    · refine lv_iconst (v := 0) hx hb dX4_paneOf_75 (by decide) ?_
      exact w_X4_paneOf_76 C ih hf hM (lv_sub hl [0, 1, 2, 4] rfl)
    refine lv_iconst (v := 1) hx hb dX4_paneOf_71 (by decide) ?_
    refine lv_goto (tgt := 76) hx hb dX4_paneOf_72 (by decide) ?_
    exact w_X4_paneOf_76 C ih hf hM (lv_sub hl [0, 1, 2, 4] rfl)
set_option maxHeartbeats 4000000 in
set_option maxRecDepth 100000 in
theorem w_X4_paneOf_0 (C : wt_C p s m args meth c RX4 cX4_paneOf 5 (some .int) D tI tII) {F : Nat} {x1 : Int32} {x2 : Int32} {σ : Mem} {r : Int32} {σ' : Mem} {H : Heap} {locs : List Loc} {ls : Array Slot} (hf : f_X4_paneOf F x1 x2 σ = some (r, σ')) (hM : wt_St D tI tII B σ s H locs) (hl : lv_has ls 5 [(0, .ref (B + 101)), (1, .int x1), (2, .int x2)]) : W p l e rm_X4_paneOf s m args below meth c H locs 0 0 (MQ below (wt_Qi D tI tII B r σ') args s 0 0 (fun q => B ≤ q)) (F0 m 0 ls []) := by
  obtain ⟨hx, hb, hts, hown, hml, hr, hlk, hK⟩ := id C
  replace hf := Eq.trans f_X4_paneOf_e.symm hf
  refine lv_aload_n hx hb dX4_paneOf_0 rfl (lv_at hl 0 rfl) ?_
  refine lv_iconst (v := 0) hx hb dX4_paneOf_1 (by decide) ?_
  refine pf_X4_thrown  hx hb hts hown hK hM tw_720 dX4_paneOf_2 hf (fun s7 H locs hf hM => ?_)
  refine lv_aload_n hx hb dX4_paneOf_5 rfl (lv_at hl 0 rfl) ?_
  refine lv_iload_n hx hb dX4_paneOf_6 rfl (lv_at hl 1 rfl) ?_
  refine wt_callVi (As := [.int x1]) (rest := []) hx hb hml hts hown hK hM wt_rc_X4 cw_X4_179 hd_X4_isPane rfl ⟨qz_b rfl, qz_b rfl⟩ ⟨rfl, rfl⟩ hl.1 rfl (qz_b rfl) dX4_paneOf_7 hf (fun _ _ h9 => c_X4_isPane h9) (fun r8 s9 H locs hf hM => ?_)
  refine wq_if_eq (tgt := 23) hx hb dX4_paneOf_10 (by decide) hf (fun hf => ?_) (fun hf => ?_)
  · exact w_X4_paneOf_23 C hf hM (lv_sub hl [0, 1] rfl)
  refine lv_iload_n hx hb dX4_paneOf_13 rfl (lv_at hl 2 rfl) ?_
  refine lv_i2l (v := (Int32.toInt64 x2)) hx hb dX4_paneOf_14 rfl ?_
  refine lv_lconst (v := 0) hx hb dX4_paneOf_15 (by decide) ?_
  refine lv_lconst (v := 1) hx hb dX4_paneOf_16 (by decide) ?_
  refine wt_callSi (As := [.long (Int32.toInt64 x2), .long (0 : Int64), .long (1 : Int64)]) (rest := []) hx hb hml hts hown hK hM cw_X4_77 hd_X4_in rfl ⟨qz_b rfl, qz_b rfl⟩ ⟨rfl, rfl⟩ hl.1 rfl (qz_b rfl) dX4_paneOf_17 hf (fun _ _ h9 => c_X4_in h9) (fun r10 s11 H locs hf hM => ?_)
  refine wq_if_ne (tgt := 42) hx hb dX4_paneOf_20 (by decide) hf (fun hf => ?_) (fun hf => ?_)
  · refine lv_iconst (v := 0) hx hb dX4_paneOf_42 (by decide) ?_
    refine lv_istore_n (lv' := [(3, .int (0 : Int32)), (0, .ref (B + 101)), (1, .int x1), (2, .int x2)]) hx hb dX4_paneOf_43 rfl hl (by decide) rfl (fun ls hl => ?_)
    refine lv_iconst (v := 0) hx hb dX4_paneOf_44 (by decide) ?_
    refine lv_istore (lv' := [(4, .int (0 : Int32)), (3, .int (0 : Int32)), (0, .ref (B + 101)), (1, .int x1), (2, .int x2)]) hx hb dX4_paneOf_45 hl (by decide) rfl (fun ls hl => ?_)
    exact w_X4_paneOf_47 C _ _ _ _ _ _ _ hf hM (lv_sub hl [2, 3, 4, 1, 0] rfl)
  exact w_X4_paneOf_23 C hf hM (lv_sub hl [0, 1] rfl)
end
set_option maxHeartbeats 4000000 in
set_option maxRecDepth 100000 in
theorem c_X4_paneOf {l : Launch} {D : va_G} {tI tII : ClassId} {B F : Nat} {x1 : Int32} {x2 : Int32} {σ σ' : Mem} {r : Int32} (hf : f_X4_paneOf F x1 x2 σ = some (r, σ')) : wt_Mi l yX4_paneOf cX4_paneOf 5 (some .int) rm_X4_paneOf [.ref (B + 101), .int x1, .int x2] D tI tII B σ r σ' := by
  refine Met.ofW (cc := cX4_paneOf) (maxL := 5) (ret := (some .int)) (by decide) rfl ?_
  intro p e s m args below meth c s₁ B9 hml hv
  obtain ⟨rfl, hP, hK⟩ := hv
  have hl := lv_entry ([.ref (B + 101), .int x1, .int x2]) (n := 5) (qz_b rfl)
  rw [lg_entry_eq]
  generalize (lg_sl ([.ref (B + 101), .int x1, .int x2]) ++ List.replicate (5 - (lg_sl ([.ref (B + 101), .int x1, .int x2])).length) Slot.unset).toArray = ls at hl ⊢
  exact w_X4_paneOf_0 (wt_C_of B9 hml hK) hf ⟨hP, va_S.rf⟩ hl
section
variable {p : Program} {l : Launch} {e : Env} {s : State} {m : MethodId} {args : Array Value} {below : List Frame} {meth : Method} {c : Code} {D : va_G} {tI tII : ClassId} {B : Nat}
set_option maxHeartbeats 4000000 in
set_option maxRecDepth 100000 in
theorem w_X4_lookerOf_40 (C : wt_C p s m args meth c RX4 cX4_lookerOf 3 (some .int) D tI tII) {F : Nat} {t1 : Int32} {σ : Mem} {r : Int32} {σ' : Mem} {H : Heap} {locs : List Loc} {ls : Array Slot} (hf : j_X4_lookerOf_40 F t1 σ = some (r, σ')) (hM : wt_St D tI tII B σ s H locs) (hl : lv_has ls 3 []) : W p l e rm_X4_lookerOf s m args below meth c H locs 0 0 (MQ below (wt_Qi D tI tII B r σ') args s 0 0 (fun q => B ≤ q)) (F0 m 40 ls [.int t1, .ref (B + 101)]) := by
  obtain ⟨hx, hb, hts, hown, hml, hr, hlk, hK⟩ := id C
  replace hf := Eq.trans j_X4_lookerOf_40_e.symm hf
  refine wt_callVi (As := [.int t1]) (rest := []) hx hb hml hts hown hK hM wt_rc_X4 cw_X4_143 hd_X4_refuse rfl ⟨qz_b rfl, qz_b rfl⟩ ⟨rfl, rfl⟩ hl.1 rfl (qz_b rfl) dX4_lookerOf_40 hf (fun _ _ h9 => c_X4_refuse h9) (fun r1 s2 H locs hf hM => ?_)
  exact wt_iret hx hb hr hlk hK hM hf dX4_lookerOf_43
set_option maxHeartbeats 4000000 in
set_option maxRecDepth 100000 in
theorem w_X4_lookerOf_25 (C : wt_C p s m args meth c RX4 cX4_lookerOf 3 (some .int) D tI tII) {F : Nat} {x1 : Int32} {σ : Mem} {r : Int32} {σ' : Mem} {H : Heap} {locs : List Loc} {ls : Array Slot} (hf : j_X4_lookerOf_25 F x1 σ = some (r, σ')) (hM : wt_St D tI tII B σ s H locs) (hl : lv_has ls 3 [(0, .ref (B + 101)), (1, .int x1)]) : W p l e rm_X4_lookerOf s m args below meth c H locs 0 0 (MQ below (wt_Qi D tI tII B r σ') args s 0 0 (fun q => B ≤ q)) (F0 m 25 ls []) := by
  obtain ⟨hx, hb, hts, hown, hml, hr, hlk, hK⟩ := id C
  replace hf := Eq.trans j_X4_lookerOf_25_e.symm hf
  refine lv_aload_n hx hb dX4_lookerOf_25 rfl (lv_at hl 0 rfl) ?_
  refine lv_aload_n hx hb dX4_lookerOf_26 rfl (lv_at hl 0 rfl) ?_
  refine lv_iload_n hx hb dX4_lookerOf_27 rfl (lv_at hl 1 rfl) ?_
  refine wt_callVi (As := [.int x1]) (rest := [.ref (B + 101)]) hx hb hml hts hown hK hM wt_rc_X4 cw_X4_88 hd_X4_isLooker rfl ⟨qz_b rfl, qz_b rfl⟩ ⟨rfl, rfl⟩ hl.1 rfl (qz_b rfl) dX4_lookerOf_28 hf (fun _ _ h9 => c_X4_isLooker h9) (fun r3 s4 H locs hf hM => ?_)
  refine wq_if_eq (tgt := 39) hx hb dX4_lookerOf_31 (by decide) hf (fun hf => ?_) (fun hf => ?_)
  · refine lv_iconst (v := -1) hx hb dX4_lookerOf_39 (by decide) ?_
    exact w_X4_lookerOf_40 C hf hM (lv_sub hl [] rfl)
  refine lv_bipush (v := -2) hx hb dX4_lookerOf_34 (by decide) ?_
  refine lv_goto (tgt := 40) hx hb dX4_lookerOf_36 (by decide) ?_
  exact w_X4_lookerOf_40 C hf hM (lv_sub hl [] rfl)
set_option maxHeartbeats 4000000 in
set_option maxRecDepth 100000 in
theorem w_X4_lookerOf_0 (C : wt_C p s m args meth c RX4 cX4_lookerOf 3 (some .int) D tI tII) {F : Nat} {x1 : Int32} {x2 : Int32} {σ : Mem} {r : Int32} {σ' : Mem} {H : Heap} {locs : List Loc} {ls : Array Slot} (hf : f_X4_lookerOf F x1 x2 σ = some (r, σ')) (hM : wt_St D tI tII B σ s H locs) (hl : lv_has ls 3 [(0, .ref (B + 101)), (1, .int x1), (2, .int x2)]) : W p l e rm_X4_lookerOf s m args below meth c H locs 0 0 (MQ below (wt_Qi D tI tII B r σ') args s 0 0 (fun q => B ≤ q)) (F0 m 0 ls []) := by
  obtain ⟨hx, hb, hts, hown, hml, hr, hlk, hK⟩ := id C
  replace hf := Eq.trans f_X4_lookerOf_e.symm hf
  refine lv_aload_n hx hb dX4_lookerOf_0 rfl (lv_at hl 0 rfl) ?_
  refine lv_iconst (v := 0) hx hb dX4_lookerOf_1 (by decide) ?_
  refine pf_X4_thrown  hx hb hts hown hK hM tw_720 dX4_lookerOf_2 hf (fun s5 H locs hf hM => ?_)
  refine lv_aload_n hx hb dX4_lookerOf_5 rfl (lv_at hl 0 rfl) ?_
  refine lv_iload_n hx hb dX4_lookerOf_6 rfl (lv_at hl 1 rfl) ?_
  refine wt_callVi (As := [.int x1]) (rest := []) hx hb hml hts hown hK hM wt_rc_X4 cw_X4_88 hd_X4_isLooker rfl ⟨qz_b rfl, qz_b rfl⟩ ⟨rfl, rfl⟩ hl.1 rfl (qz_b rfl) dX4_lookerOf_7 hf (fun _ _ h9 => c_X4_isLooker h9) (fun r6 s7 H locs hf hM => ?_)
  refine wq_if_eq (tgt := 25) hx hb dX4_lookerOf_10 (by decide) hf (fun hf => ?_) (fun hf => ?_)
  · exact w_X4_lookerOf_25 C hf hM (lv_sub hl [0, 1] rfl)
  refine lv_iload_n hx hb dX4_lookerOf_13 rfl (lv_at hl 2 rfl) ?_
  refine lv_i2l (v := (Int32.toInt64 x2)) hx hb dX4_lookerOf_14 rfl ?_
  refine lv_lconst (v := 0) hx hb dX4_lookerOf_15 (by decide) ?_
  refine lv_ldc2 (v := 3) hx hb hown (hts _ tw_945) dX4_lookerOf_16 ?_
  refine wt_callSi (As := [.long (Int32.toInt64 x2), .long (0 : Int64), .long (3 : Int64)]) (rest := []) hx hb hml hts hown hK hM cw_X4_77 hd_X4_in rfl ⟨qz_b rfl, qz_b rfl⟩ ⟨rfl, rfl⟩ hl.1 rfl (qz_b rfl) dX4_lookerOf_19 hf (fun _ _ h9 => c_X4_in h9) (fun r8 s9 H locs hf hM => ?_)
  refine wq_if_ne (tgt := 44) hx hb dX4_lookerOf_22 (by decide) hf (fun hf => ?_) (fun hf => ?_)
  · refine lv_aload_n hx hb dX4_lookerOf_44 rfl (lv_at hl 0 rfl) ?_
    refine wt_callVv (As := []) (rest := []) hx hb hml hts hown hK hM wt_rc_X4 cw_X4_134 hd_X4_layBrings rfl ⟨qz_b rfl, qz_b rfl⟩ ⟨rfl, rfl⟩ hl.1 rfl (qz_b rfl) dX4_lookerOf_45 hf (fun _ _ h9 => c_X4_layBrings h9) (fun r10 s11 H locs hf hM => ?_)
    refine lv_iload_n hx hb dX4_lookerOf_48 rfl (lv_at hl 2 rfl) ?_
    refine wq_if_ne (tgt := 61) hx hb dX4_lookerOf_49 (by decide) hf (fun hf => ?_) (fun hf => ?_)
    · refine lv_iload_n hx hb dX4_lookerOf_61 rfl (lv_at hl 2 rfl) ?_
      refine lv_iconst (v := 1) hx hb dX4_lookerOf_62 (by decide) ?_
      refine wq_icmp_ne (tgt := 75) hx hb dX4_lookerOf_63 (by decide) hf (fun hf => ?_) (fun hf => ?_)
      · refine lv_iload_n hx hb dX4_lookerOf_75 rfl (lv_at hl 2 rfl) ?_
        refine lv_iconst (v := 2) hx hb dX4_lookerOf_76 (by decide) ?_
        refine wq_icmp_ne (tgt := 88) hx hb dX4_lookerOf_77 (by decide) hf (fun hf => ?_) (fun hf => ?_)
        · refine lv_aload_n hx hb dX4_lookerOf_88 rfl (lv_at hl 0 rfl) ?_
          refine lv_iload_n hx hb dX4_lookerOf_89 rfl (lv_at hl 1 rfl) ?_
          refine lv_iconst (v := 0) hx hb dX4_lookerOf_90 (by decide) ?_
          refine wt_callVi (As := [.int x1, .int (0 : Int32)]) (rest := []) hx hb hml hts hown hK hM wt_rc_X4 cw_X4_128 hd_X4_viewsIn rfl ⟨qz_b rfl, qz_b rfl⟩ ⟨rfl, rfl⟩ hl.1 rfl (qz_b rfl) dX4_lookerOf_91 hf (fun _ _ h9 => c_X4_viewsIn h9) (fun r12 s13 H locs hf hM => ?_)
          exact wt_iret hx hb hr hlk hK hM hf dX4_lookerOf_94
        refine lv_aload_n hx hb dX4_lookerOf_80 rfl (lv_at hl 0 rfl) ?_
        refine lv_iload_n hx hb dX4_lookerOf_81 rfl (lv_at hl 1 rfl) ?_
        refine wt_callVi (As := [.int x1]) (rest := []) hx hb hml hts hown hK hM wt_rc_X4 cw_X4_228 hd_X4_hoursOf rfl ⟨qz_b rfl, qz_b rfl⟩ ⟨rfl, rfl⟩ hl.1 rfl (qz_b rfl) dX4_lookerOf_82 hf (fun _ _ h9 => c_X4_hoursOf h9) (fun r14 s15 H locs hf hM => ?_)
        refine lv_goto (tgt := 94) hx hb dX4_lookerOf_85 (by decide) ?_
        exact wt_iret hx hb hr hlk hK hM hf dX4_lookerOf_94
      refine lv_aload_n hx hb dX4_lookerOf_66 rfl (lv_at hl 0 rfl) ?_
      refine gf_X4_figures  hx hb hts hown hK hM tw_715 dX4_lookerOf_67 ?_
      refine lv_iload_n hx hb dX4_lookerOf_70 rfl (lv_at hl 1 rfl) ?_
      obtain ⟨i16, hf⟩ := wt_chk_of hf
      refine wt_ild hx hb hK hM wt_a105 i16 dX4_lookerOf_71 ?_
      refine lv_goto (tgt := 94) hx hb dX4_lookerOf_72 (by decide) ?_
      exact wt_iret hx hb hr hlk hK hM hf dX4_lookerOf_94
    refine lv_aload_n hx hb dX4_lookerOf_52 rfl (lv_at hl 0 rfl) ?_
    refine gf_X4_kinds  hx hb hts hown hK hM tw_714 dX4_lookerOf_53 ?_
    refine lv_iload_n hx hb dX4_lookerOf_56 rfl (lv_at hl 1 rfl) ?_
    obtain ⟨i17, hf⟩ := wt_chk_of hf
    refine wt_ild hx hb hK hM wt_a104 i17 dX4_lookerOf_57 ?_
    refine lv_goto (tgt := 94) hx hb dX4_lookerOf_58 (by decide) ?_
    exact wt_iret hx hb hr hlk hK hM hf dX4_lookerOf_94
  exact w_X4_lookerOf_25 C hf hM (lv_sub hl [0, 1] rfl)
end
set_option maxHeartbeats 4000000 in
set_option maxRecDepth 100000 in
theorem c_X4_lookerOf {l : Launch} {D : va_G} {tI tII : ClassId} {B F : Nat} {x1 : Int32} {x2 : Int32} {σ σ' : Mem} {r : Int32} (hf : f_X4_lookerOf F x1 x2 σ = some (r, σ')) : wt_Mi l yX4_lookerOf cX4_lookerOf 3 (some .int) rm_X4_lookerOf [.ref (B + 101), .int x1, .int x2] D tI tII B σ r σ' := by
  refine Met.ofW (cc := cX4_lookerOf) (maxL := 3) (ret := (some .int)) (by decide) rfl ?_
  intro p e s m args below meth c s₁ B9 hml hv
  obtain ⟨rfl, hP, hK⟩ := hv
  have hl := lv_entry ([.ref (B + 101), .int x1, .int x2]) (n := 3) (qz_b rfl)
  rw [lg_entry_eq]
  generalize (lg_sl ([.ref (B + 101), .int x1, .int x2]) ++ List.replicate (3 - (lg_sl ([.ref (B + 101), .int x1, .int x2])).length) Slot.unset).toArray = ls at hl ⊢
  exact w_X4_lookerOf_0 (wt_C_of B9 hml hK) hf ⟨hP, va_S.rf⟩ hl
