theorem dX10_half_0 : decode cX10_half 0 = .ok (.aload_n 0, 1) := by decide +kernel
theorem dX10_half_1 : decode cX10_half 1 = .ok (.arraylength, 1) := by decide +kernel
theorem dX10_half_2 : decode cX10_half 2 = .ok (.iconst 2, 1) := by decide +kernel
theorem dX10_half_3 : decode cX10_half 3 = .ok (.idiv, 1) := by decide +kernel
theorem dX10_half_4 : decode cX10_half 4 = .ok (.istore_n 1, 1) := by decide +kernel
theorem dX10_half_5 : decode cX10_half 5 = .ok (.iconst 0, 1) := by decide +kernel
theorem dX10_half_6 : decode cX10_half 6 = .ok (.istore_n 2, 1) := by decide +kernel
theorem dX10_half_7 : decode cX10_half 7 = .ok (.iload_n 2, 1) := by decide +kernel
theorem dX10_half_8 : decode cX10_half 8 = .ok (.iload_n 1, 1) := by decide +kernel
theorem dX10_half_9 : decode cX10_half 9 = .ok (.if_icmp .ge 17, 3) := by decide +kernel
theorem dX10_half_12 : decode cX10_half 12 = .ok (.aload_n 0, 1) := by decide +kernel
theorem dX10_half_13 : decode cX10_half 13 = .ok (.iload_n 2, 1) := by decide +kernel
theorem dX10_half_14 : decode cX10_half 14 = .ok (.aload_n 0, 1) := by decide +kernel
theorem dX10_half_15 : decode cX10_half 15 = .ok (.iload_n 1, 1) := by decide +kernel
theorem dX10_half_16 : decode cX10_half 16 = .ok (.iload_n 2, 1) := by decide +kernel
theorem dX10_half_17 : decode cX10_half 17 = .ok (.iadd, 1) := by decide +kernel
theorem dX10_half_18 : decode cX10_half 18 = .ok (.iaload, 1) := by decide +kernel
theorem dX10_half_19 : decode cX10_half 19 = .ok (.iastore, 1) := by decide +kernel
theorem dX10_half_20 : decode cX10_half 20 = .ok (.iinc 2 1, 3) := by decide +kernel
theorem dX10_half_23 : decode cX10_half 23 = .ok (.goto (-16), 3) := by decide +kernel
theorem dX10_half_26 : decode cX10_half 26 = .ok (.return_, 1) := by decide +kernel
theorem dX10_text_0 : decode cX10_text 0 = .ok (.aload_n 0, 1) := by decide +kernel
theorem dX10_text_1 : decode cX10_text 1 = .ok (.iconst 0, 1) := by decide +kernel
theorem dX10_text_2 : decode cX10_text 2 = .ok (.putfield 130, 3) := by decide +kernel
theorem dX10_text_5 : decode cX10_text 5 = .ok (.iload_n 1, 1) := by decide +kernel
theorem dX10_text_6 : decode cX10_text 6 = .ok (.ifCond .lt 11, 3) := by decide +kernel
theorem dX10_text_9 : decode cX10_text 9 = .ok (.iload_n 1, 1) := by decide +kernel
theorem dX10_text_10 : decode cX10_text 10 = .ok (.aload_n 0, 1) := by decide +kernel
theorem dX10_text_11 : decode cX10_text 11 = .ok (.getfield 133, 3) := by decide +kernel
theorem dX10_text_14 : decode cX10_text 14 = .ok (.if_icmp .le 6, 3) := by decide +kernel
theorem dX10_text_17 : decode cX10_text 17 = .ok (.bipush (-2), 2) := by decide +kernel
theorem dX10_text_19 : decode cX10_text 19 = .ok (.ireturn, 1) := by decide +kernel
theorem dX10_text_20 : decode cX10_text 20 = .ok (.aload_n 0, 1) := by decide +kernel
theorem dX10_text_21 : decode cX10_text 21 = .ok (.iload_n 1, 1) := by decide +kernel
theorem dX10_text_22 : decode cX10_text 22 = .ok (.putfield 139, 3) := by decide +kernel
theorem dX10_text_25 : decode cX10_text 25 = .ok (.aload_n 0, 1) := by decide +kernel
theorem dX10_text_26 : decode cX10_text 26 = .ok (.iconst 0, 1) := by decide +kernel
theorem dX10_text_27 : decode cX10_text 27 = .ok (.putfield 133, 3) := by decide +kernel
theorem dX10_text_30 : decode cX10_text 30 = .ok (.aload_n 0, 1) := by decide +kernel
theorem dX10_text_31 : decode cX10_text 31 = .ok (.iconst 0, 1) := by decide +kernel
theorem dX10_text_32 : decode cX10_text 32 = .ok (.putfield 136, 3) := by decide +kernel
theorem dX10_text_35 : decode cX10_text 35 = .ok (.aload_n 0, 1) := by decide +kernel
theorem dX10_text_36 : decode cX10_text 36 = .ok (.iconst 0, 1) := by decide +kernel
theorem dX10_text_37 : decode cX10_text 37 = .ok (.putfield 184, 3) := by decide +kernel
theorem dX10_text_40 : decode cX10_text 40 = .ok (.aload_n 0, 1) := by decide +kernel
theorem dX10_text_41 : decode cX10_text 41 = .ok (.iconst (-1), 1) := by decide +kernel
theorem dX10_text_42 : decode cX10_text 42 = .ok (.putfield 187, 3) := by decide +kernel
theorem dX10_text_45 : decode cX10_text 45 = .ok (.iconst 0, 1) := by decide +kernel
theorem dX10_text_46 : decode cX10_text 46 = .ok (.istore_n 2, 1) := by decide +kernel
theorem dX10_text_47 : decode cX10_text 47 = .ok (.iload_n 2, 1) := by decide +kernel
theorem dX10_text_48 : decode cX10_text 48 = .ok (.bipush 10, 2) := by decide +kernel
theorem dX10_text_50 : decode cX10_text 50 = .ok (.if_icmp .ge 44, 3) := by decide +kernel
theorem dX10_text_53 : decode cX10_text 53 = .ok (.aload_n 0, 1) := by decide +kernel
theorem dX10_text_54 : decode cX10_text 54 = .ok (.iload_n 2, 1) := by decide +kernel
theorem dX10_text_55 : decode cX10_text 55 = .ok (.iload_n 2, 1) := by decide +kernel
theorem dX10_text_56 : decode cX10_text 56 = .ok (.iconst 2, 1) := by decide +kernel
theorem dX10_text_57 : decode cX10_text 57 = .ok (.if_icmp .ne 8, 3) := by decide +kernel
theorem dX10_text_60 : decode cX10_text 60 = .ok (.bipush 10, 2) := by decide +kernel
theorem dX10_text_62 : decode cX10_text 62 = .ok (.goto 23, 3) := by decide +kernel
theorem dX10_text_65 : decode cX10_text 65 = .ok (.iload_n 2, 1) := by decide +kernel
theorem dX10_text_66 : decode cX10_text 66 = .ok (.iconst 4, 1) := by decide +kernel
theorem dX10_text_67 : decode cX10_text 67 = .ok (.if_icmp .ne 8, 3) := by decide +kernel
theorem dX10_text_70 : decode cX10_text 70 = .ok (.bipush 100, 2) := by decide +kernel
theorem dX10_text_72 : decode cX10_text 72 = .ok (.goto 13, 3) := by decide +kernel
theorem dX10_text_75 : decode cX10_text 75 = .ok (.iload_n 2, 1) := by decide +kernel
theorem dX10_text_76 : decode cX10_text 76 = .ok (.iconst 5, 1) := by decide +kernel
theorem dX10_text_77 : decode cX10_text 77 = .ok (.if_icmp .ne 7, 3) := by decide +kernel
theorem dX10_text_80 : decode cX10_text 80 = .ok (.iconst 5, 1) := by decide +kernel
theorem dX10_text_81 : decode cX10_text 81 = .ok (.goto 4, 3) := by decide +kernel
theorem dX10_text_84 : decode cX10_text 84 = .ok (.iconst 0, 1) := by decide +kernel
theorem dX10_text_85 : decode cX10_text 85 = .ok (.invokevirtual 221, 3) := by decide +kernel
theorem dX10_text_88 : decode cX10_text 88 = .ok (.iinc 2 1, 3) := by decide +kernel
theorem dX10_text_91 : decode cX10_text 91 = .ok (.goto (-44), 3) := by decide +kernel
theorem dX10_text_94 : decode cX10_text 94 = .ok (.iconst 3, 1) := by decide +kernel
theorem dX10_text_95 : decode cX10_text 95 = .ok (.istore_n 2, 1) := by decide +kernel
theorem dX10_text_96 : decode cX10_text 96 = .ok (.iload_n 2, 1) := by decide +kernel
theorem dX10_text_97 : decode cX10_text 97 = .ok (.bipush 6, 2) := by decide +kernel
theorem dX10_text_99 : decode cX10_text 99 = .ok (.if_icmp .ge 23, 3) := by decide +kernel
theorem dX10_text_102 : decode cX10_text 102 = .ok (.aload_n 0, 1) := by decide +kernel
theorem dX10_text_103 : decode cX10_text 103 = .ok (.getfield 43, 3) := by decide +kernel
theorem dX10_text_106 : decode cX10_text 106 = .ok (.iload_n 2, 1) := by decide +kernel
theorem dX10_text_107 : decode cX10_text 107 = .ok (.iconst 0, 1) := by decide +kernel
theorem dX10_text_108 : decode cX10_text 108 = .ok (.iastore, 1) := by decide +kernel
theorem dX10_text_109 : decode cX10_text 109 = .ok (.aload_n 0, 1) := by decide +kernel
theorem dX10_text_110 : decode cX10_text 110 = .ok (.getfield 46, 3) := by decide +kernel
theorem dX10_text_113 : decode cX10_text 113 = .ok (.iload_n 2, 1) := by decide +kernel
theorem dX10_text_114 : decode cX10_text 114 = .ok (.iconst 0, 1) := by decide +kernel
theorem dX10_text_115 : decode cX10_text 115 = .ok (.iastore, 1) := by decide +kernel
theorem dX10_text_116 : decode cX10_text 116 = .ok (.iinc 2 1, 3) := by decide +kernel
theorem dX10_text_119 : decode cX10_text 119 = .ok (.goto (-23), 3) := by decide +kernel
theorem dX10_text_122 : decode cX10_text 122 = .ok (.aload_n 0, 1) := by decide +kernel
theorem dX10_text_123 : decode cX10_text 123 = .ok (.iconst 0, 1) := by decide +kernel
theorem dX10_text_124 : decode cX10_text 124 = .ok (.putfield 210, 3) := by decide +kernel
theorem dX10_text_127 : decode cX10_text 127 = .ok (.aload_n 0, 1) := by decide +kernel
theorem dX10_text_128 : decode cX10_text 128 = .ok (.iconst 0, 1) := by decide +kernel
theorem dX10_text_129 : decode cX10_text 129 = .ok (.putfield 234, 3) := by decide +kernel
theorem dX10_text_132 : decode cX10_text 132 = .ok (.aload_n 0, 1) := by decide +kernel
theorem dX10_text_133 : decode cX10_text 133 = .ok (.iconst 0, 1) := by decide +kernel
theorem dX10_text_134 : decode cX10_text 134 = .ok (.putfield 270, 3) := by decide +kernel
theorem dX10_text_137 : decode cX10_text 137 = .ok (.aload_n 0, 1) := by decide +kernel
theorem dX10_text_138 : decode cX10_text 138 = .ok (.iconst 0, 1) := by decide +kernel
theorem dX10_text_139 : decode cX10_text 139 = .ok (.putfield 243, 3) := by decide +kernel
theorem dX10_text_142 : decode cX10_text 142 = .ok (.aload_n 0, 1) := by decide +kernel
theorem dX10_text_143 : decode cX10_text 143 = .ok (.invokevirtual 190, 3) := by decide +kernel
theorem dX10_text_146 : decode cX10_text 146 = .ok (.aload_n 0, 1) := by decide +kernel
theorem dX10_text_147 : decode cX10_text 147 = .ok (.getfield 184, 3) := by decide +kernel
theorem dX10_text_150 : decode cX10_text 150 = .ok (.ifCond .ne 18, 3) := by decide +kernel
theorem dX10_text_153 : decode cX10_text 153 = .ok (.aload_n 0, 1) := by decide +kernel
theorem dX10_text_154 : decode cX10_text 154 = .ok (.getfield 149, 3) := by decide +kernel
theorem dX10_text_157 : decode cX10_text 157 = .ok (.iconst 4, 1) := by decide +kernel
theorem dX10_text_158 : decode cX10_text 158 = .ok (.if_icmp .eq 10, 3) := by decide +kernel
theorem dX10_text_161 : decode cX10_text 161 = .ok (.aload_n 0, 1) := by decide +kernel
theorem dX10_text_162 : decode cX10_text 162 = .ok (.invokevirtual 273, 3) := by decide +kernel
theorem dX10_text_165 : decode cX10_text 165 = .ok (.goto (-19), 3) := by decide +kernel
theorem dX10_text_168 : decode cX10_text 168 = .ok (.aload_n 0, 1) := by decide +kernel
theorem dX10_text_169 : decode cX10_text 169 = .ok (.aload_n 0, 1) := by decide +kernel
theorem dX10_text_170 : decode cX10_text 170 = .ok (.getfield 184, 3) := by decide +kernel
theorem dX10_text_173 : decode cX10_text 173 = .ok (.putfield 276, 3) := by decide +kernel
theorem dX10_text_176 : decode cX10_text 176 = .ok (.aload_n 0, 1) := by decide +kernel
theorem dX10_text_177 : decode cX10_text 177 = .ok (.aload_n 0, 1) := by decide +kernel
theorem dX10_text_178 : decode cX10_text 178 = .ok (.getfield 187, 3) := by decide +kernel
theorem dX10_text_181 : decode cX10_text 181 = .ok (.putfield 55, 3) := by decide +kernel
theorem dX10_text_184 : decode cX10_text 184 = .ok (.aload_n 0, 1) := by decide +kernel
theorem dX10_text_185 : decode cX10_text 185 = .ok (.getfield 184, 3) := by decide +kernel
theorem dX10_text_188 : decode cX10_text 188 = .ok (.ifCond .eq 5, 3) := by decide +kernel
theorem dX10_text_191 : decode cX10_text 191 = .ok (.iconst (-1), 1) := by decide +kernel
theorem dX10_text_192 : decode cX10_text 192 = .ok (.ireturn, 1) := by decide +kernel
theorem dX10_text_193 : decode cX10_text 193 = .ok (.aload_n 0, 1) := by decide +kernel
theorem dX10_text_194 : decode cX10_text 194 = .ok (.getfield 13, 3) := by decide +kernel
theorem dX10_text_197 : decode cX10_text 197 = .ok (.invokestatic 279, 3) := by decide +kernel
theorem dX10_text_200 : decode cX10_text 200 = .ok (.aload_n 0, 1) := by decide +kernel
theorem dX10_text_201 : decode cX10_text 201 = .ok (.getfield 16, 3) := by decide +kernel
theorem dX10_text_204 : decode cX10_text 204 = .ok (.invokestatic 279, 3) := by decide +kernel
theorem dX10_text_207 : decode cX10_text 207 = .ok (.aload_n 0, 1) := by decide +kernel
theorem dX10_text_208 : decode cX10_text 208 = .ok (.getfield 19, 3) := by decide +kernel
theorem dX10_text_211 : decode cX10_text 211 = .ok (.invokestatic 279, 3) := by decide +kernel
theorem dX10_text_214 : decode cX10_text 214 = .ok (.aload_n 0, 1) := by decide +kernel
theorem dX10_text_215 : decode cX10_text 215 = .ok (.getfield 22, 3) := by decide +kernel
theorem dX10_text_218 : decode cX10_text 218 = .ok (.invokestatic 279, 3) := by decide +kernel
theorem dX10_text_221 : decode cX10_text 221 = .ok (.aload_n 0, 1) := by decide +kernel
theorem dX10_text_222 : decode cX10_text 222 = .ok (.getfield 25, 3) := by decide +kernel
theorem dX10_text_225 : decode cX10_text 225 = .ok (.invokestatic 279, 3) := by decide +kernel
theorem dX10_text_228 : decode cX10_text 228 = .ok (.aload_n 0, 1) := by decide +kernel
theorem dX10_text_229 : decode cX10_text 229 = .ok (.getfield 28, 3) := by decide +kernel
theorem dX10_text_232 : decode cX10_text 232 = .ok (.invokestatic 279, 3) := by decide +kernel
theorem dX10_text_235 : decode cX10_text 235 = .ok (.aload_n 0, 1) := by decide +kernel
theorem dX10_text_236 : decode cX10_text 236 = .ok (.getfield 31, 3) := by decide +kernel
theorem dX10_text_239 : decode cX10_text 239 = .ok (.invokestatic 279, 3) := by decide +kernel
theorem dX10_text_242 : decode cX10_text 242 = .ok (.aload_n 0, 1) := by decide +kernel
theorem dX10_text_243 : decode cX10_text 243 = .ok (.getfield 34, 3) := by decide +kernel
theorem dX10_text_246 : decode cX10_text 246 = .ok (.invokestatic 279, 3) := by decide +kernel
theorem dX10_text_249 : decode cX10_text 249 = .ok (.aload_n 0, 1) := by decide +kernel
theorem dX10_text_250 : decode cX10_text 250 = .ok (.getfield 37, 3) := by decide +kernel
theorem dX10_text_253 : decode cX10_text 253 = .ok (.invokestatic 279, 3) := by decide +kernel
theorem dX10_text_256 : decode cX10_text 256 = .ok (.aload_n 0, 1) := by decide +kernel
theorem dX10_text_257 : decode cX10_text 257 = .ok (.getfield 40, 3) := by decide +kernel
theorem dX10_text_260 : decode cX10_text 260 = .ok (.invokestatic 279, 3) := by decide +kernel
theorem dX10_text_263 : decode cX10_text 263 = .ok (.aload_n 0, 1) := by decide +kernel
theorem dX10_text_264 : decode cX10_text 264 = .ok (.getfield 43, 3) := by decide +kernel
theorem dX10_text_267 : decode cX10_text 267 = .ok (.invokestatic 279, 3) := by decide +kernel
theorem dX10_text_270 : decode cX10_text 270 = .ok (.aload_n 0, 1) := by decide +kernel
theorem dX10_text_271 : decode cX10_text 271 = .ok (.getfield 46, 3) := by decide +kernel
theorem dX10_text_274 : decode cX10_text 274 = .ok (.invokestatic 279, 3) := by decide +kernel
theorem dX10_text_277 : decode cX10_text 277 = .ok (.aload_n 0, 1) := by decide +kernel
theorem dX10_text_278 : decode cX10_text 278 = .ok (.getfield 49, 3) := by decide +kernel
theorem dX10_text_281 : decode cX10_text 281 = .ok (.invokestatic 279, 3) := by decide +kernel
theorem dX10_text_284 : decode cX10_text 284 = .ok (.aload_n 0, 1) := by decide +kernel
theorem dX10_text_285 : decode cX10_text 285 = .ok (.getfield 52, 3) := by decide +kernel
theorem dX10_text_288 : decode cX10_text 288 = .ok (.invokestatic 279, 3) := by decide +kernel
theorem dX10_text_291 : decode cX10_text 291 = .ok (.aload_n 0, 1) := by decide +kernel
theorem dX10_text_292 : decode cX10_text 292 = .ok (.iconst 0, 1) := by decide +kernel
theorem dX10_text_293 : decode cX10_text 293 = .ok (.putfield 283, 3) := by decide +kernel
theorem dX10_text_296 : decode cX10_text 296 = .ok (.aload_n 0, 1) := by decide +kernel
theorem dX10_text_297 : decode cX10_text 297 = .ok (.iconst (-1), 1) := by decide +kernel
theorem dX10_text_298 : decode cX10_text 298 = .ok (.putfield 111, 3) := by decide +kernel
theorem dX10_text_301 : decode cX10_text 301 = .ok (.aload_n 0, 1) := by decide +kernel
theorem dX10_text_302 : decode cX10_text 302 = .ok (.iconst 0, 1) := by decide +kernel
theorem dX10_text_303 : decode cX10_text 303 = .ok (.putfield 286, 3) := by decide +kernel
theorem dX10_text_306 : decode cX10_text 306 = .ok (.aload_n 0, 1) := by decide +kernel
theorem dX10_text_307 : decode cX10_text 307 = .ok (.iconst 0, 1) := by decide +kernel
theorem dX10_text_308 : decode cX10_text 308 = .ok (.putfield 290, 3) := by decide +kernel
theorem dX10_text_311 : decode cX10_text 311 = .ok (.aload_n 0, 1) := by decide +kernel
theorem dX10_text_312 : decode cX10_text 312 = .ok (.invokevirtual 127, 3) := by decide +kernel
theorem dX10_text_315 : decode cX10_text 315 = .ok (.aload_n 0, 1) := by decide +kernel
theorem dX10_text_316 : decode cX10_text 316 = .ok (.getfield 234, 3) := by decide +kernel
theorem dX10_text_319 : decode cX10_text 319 = .ok (.ireturn, 1) := by decide +kernel
theorem dX10_fault_0 : decode cX10_fault 0 = .ok (.aload_n 0, 1) := by decide +kernel
theorem dX10_fault_1 : decode cX10_fault 1 = .ok (.iconst 0, 1) := by decide +kernel
theorem dX10_fault_2 : decode cX10_fault 2 = .ok (.putfield 130, 3) := by decide +kernel
theorem dX10_fault_5 : decode cX10_fault 5 = .ok (.iload_n 1, 1) := by decide +kernel
theorem dX10_fault_6 : decode cX10_fault 6 = .ok (.ifCond .ne 10, 3) := by decide +kernel
theorem dX10_fault_9 : decode cX10_fault 9 = .ok (.aload_n 0, 1) := by decide +kernel
theorem dX10_fault_10 : decode cX10_fault 10 = .ok (.getfield 276, 3) := by decide +kernel
theorem dX10_fault_13 : decode cX10_fault 13 = .ok (.goto 16, 3) := by decide +kernel
theorem dX10_fault_16 : decode cX10_fault 16 = .ok (.iload_n 1, 1) := by decide +kernel
theorem dX10_fault_17 : decode cX10_fault 17 = .ok (.iconst 1, 1) := by decide +kernel
theorem dX10_fault_18 : decode cX10_fault 18 = .ok (.if_icmp .ne 10, 3) := by decide +kernel
theorem dX10_fault_21 : decode cX10_fault 21 = .ok (.aload_n 0, 1) := by decide +kernel
theorem dX10_fault_22 : decode cX10_fault 22 = .ok (.getfield 55, 3) := by decide +kernel
theorem dX10_fault_25 : decode cX10_fault 25 = .ok (.goto 4, 3) := by decide +kernel
theorem dX10_fault_28 : decode cX10_fault 28 = .ok (.iconst (-1), 1) := by decide +kernel
theorem dX10_fault_29 : decode cX10_fault 29 = .ok (.ireturn, 1) := by decide +kernel
theorem dX10_named_0 : decode cX10_named 0 = .ok (.aload_n 0, 1) := by decide +kernel
theorem dX10_named_1 : decode cX10_named 1 = .ok (.iconst 0, 1) := by decide +kernel
theorem dX10_named_2 : decode cX10_named 2 = .ok (.putfield 130, 3) := by decide +kernel
theorem dX10_named_5 : decode cX10_named 5 = .ok (.iload_n 1, 1) := by decide +kernel
theorem dX10_named_6 : decode cX10_named 6 = .ok (.lookupswitch 58 #[(0, 26), (1, 42)], 26) := by decide +kernel
theorem dX10_named_32 : decode cX10_named 32 = .ok (.aload_n 0, 1) := by decide +kernel
theorem dX10_named_33 : decode cX10_named 33 = .ok (.getfield 16, 3) := by decide +kernel
theorem dX10_named_36 : decode cX10_named 36 = .ok (.iconst 0, 1) := by decide +kernel
theorem dX10_named_37 : decode cX10_named 37 = .ok (.aload_n 0, 1) := by decide +kernel
theorem dX10_named_38 : decode cX10_named 38 = .ok (.getfield 13, 3) := by decide +kernel
theorem dX10_named_41 : decode cX10_named 41 = .ok (.iconst 0, 1) := by decide +kernel
theorem dX10_named_42 : decode cX10_named 42 = .ok (.iaload, 1) := by decide +kernel
theorem dX10_named_43 : decode cX10_named 43 = .ok (.iload_n 2, 1) := by decide +kernel
theorem dX10_named_44 : decode cX10_named 44 = .ok (.invokestatic 196, 3) := by decide +kernel
theorem dX10_named_47 : decode cX10_named 47 = .ok (.ireturn, 1) := by decide +kernel
theorem dX10_named_48 : decode cX10_named 48 = .ok (.aload_n 0, 1) := by decide +kernel
theorem dX10_named_49 : decode cX10_named 49 = .ok (.getfield 31, 3) := by decide +kernel
theorem dX10_named_52 : decode cX10_named 52 = .ok (.iconst 0, 1) := by decide +kernel
theorem dX10_named_53 : decode cX10_named 53 = .ok (.aload_n 0, 1) := by decide +kernel
theorem dX10_named_54 : decode cX10_named 54 = .ok (.getfield 13, 3) := by decide +kernel
theorem dX10_named_57 : decode cX10_named 57 = .ok (.iconst 1, 1) := by decide +kernel
theorem dX10_named_58 : decode cX10_named 58 = .ok (.iaload, 1) := by decide +kernel
theorem dX10_named_59 : decode cX10_named 59 = .ok (.iload_n 2, 1) := by decide +kernel
theorem dX10_named_60 : decode cX10_named 60 = .ok (.invokestatic 196, 3) := by decide +kernel
theorem dX10_named_63 : decode cX10_named 63 = .ok (.ireturn, 1) := by decide +kernel
theorem dX10_named_64 : decode cX10_named 64 = .ok (.iconst (-1), 1) := by decide +kernel
theorem dX10_named_65 : decode cX10_named 65 = .ok (.ireturn, 1) := by decide +kernel
theorem dX10_is_0 : decode cX10_is 0 = .ok (.iload_n 0, 1) := by decide +kernel
theorem dX10_is_1 : decode cX10_is 1 = .ok (.ifCond .eq 7, 3) := by decide +kernel
theorem dX10_is_4 : decode cX10_is 4 = .ok (.lconst 1, 1) := by decide +kernel
theorem dX10_is_5 : decode cX10_is 5 = .ok (.goto 4, 3) := by decide +kernel
theorem dX10_is_8 : decode cX10_is 8 = .ok (.lconst 0, 1) := by decide +kernel
theorem dX10_is_9 : decode cX10_is 9 = .ok (.lreturn, 1) := by decide +kernel
theorem dX10_works_0 : decode cX10_works 0 = .ok (.aload_n 0, 1) := by decide +kernel
theorem dX10_works_1 : decode cX10_works 1 = .ok (.getfield 63, 3) := by decide +kernel
theorem dX10_works_4 : decode cX10_works 4 = .ok (.aload_n 0, 1) := by decide +kernel
theorem dX10_works_5 : decode cX10_works 5 = .ok (.getfield 293, 3) := by decide +kernel
theorem dX10_works_8 : decode cX10_works 8 = .ok (.iconst 1, 1) := by decide +kernel
theorem dX10_works_9 : decode cX10_works 9 = .ok (.isub, 1) := by decide +kernel
theorem dX10_works_10 : decode cX10_works 10 = .ok (.laload, 1) := by decide +kernel
theorem dX10_works_11 : decode cX10_works 11 = .ok (.lstore_n 2, 1) := by decide +kernel
theorem dX10_works_12 : decode cX10_works 12 = .ok (.iload_n 1, 1) := by decide +kernel
theorem dX10_works_13 : decode cX10_works 13 = .ok (.sipush 260, 3) := by decide +kernel
theorem dX10_works_16 : decode cX10_works 16 = .ok (.if_icmp .ne 30, 3) := by decide +kernel
theorem dX10_works_19 : decode cX10_works 19 = .ok (.aload_n 0, 1) := by decide +kernel
theorem dX10_works_20 : decode cX10_works 20 = .ok (.getfield 63, 3) := by decide +kernel
theorem dX10_works_23 : decode cX10_works 23 = .ok (.aload_n 0, 1) := by decide +kernel
theorem dX10_works_24 : decode cX10_works 24 = .ok (.getfield 293, 3) := by decide +kernel
theorem dX10_works_27 : decode cX10_works 27 = .ok (.iconst 1, 1) := by decide +kernel
theorem dX10_works_28 : decode cX10_works 28 = .ok (.isub, 1) := by decide +kernel
theorem dX10_works_29 : decode cX10_works 29 = .ok (.lload_n 2, 1) := by decide +kernel
theorem dX10_works_30 : decode cX10_works 30 = .ok (.lconst 0, 1) := by decide +kernel
theorem dX10_works_31 : decode cX10_works 31 = .ok (.lcmp, 1) := by decide +kernel
theorem dX10_works_32 : decode cX10_works 32 = .ok (.ifCond .ne 7, 3) := by decide +kernel
theorem dX10_works_35 : decode cX10_works 35 = .ok (.iconst 1, 1) := by decide +kernel
theorem dX10_works_36 : decode cX10_works 36 = .ok (.goto 4, 3) := by decide +kernel
theorem dX10_works_39 : decode cX10_works 39 = .ok (.iconst 0, 1) := by decide +kernel
theorem dX10_works_40 : decode cX10_works 40 = .ok (.invokestatic 296, 3) := by decide +kernel
theorem dX10_works_43 : decode cX10_works 43 = .ok (.lastore, 1) := by decide +kernel
theorem dX10_works_44 : decode cX10_works 44 = .ok (.iconst 1, 1) := by decide +kernel
theorem dX10_works_45 : decode cX10_works 45 = .ok (.ireturn, 1) := by decide +kernel
theorem dX10_works_46 : decode cX10_works 46 = .ok (.aload_n 0, 1) := by decide +kernel
theorem dX10_works_47 : decode cX10_works 47 = .ok (.getfield 63, 3) := by decide +kernel
theorem dX10_works_50 : decode cX10_works 50 = .ok (.aload_n 0, 1) := by decide +kernel
theorem dX10_works_51 : decode cX10_works 51 = .ok (.getfield 293, 3) := by decide +kernel
theorem dX10_works_54 : decode cX10_works 54 = .ok (.iconst 2, 1) := by decide +kernel
theorem dX10_works_55 : decode cX10_works 55 = .ok (.isub, 1) := by decide +kernel
theorem dX10_works_56 : decode cX10_works 56 = .ok (.laload, 1) := by decide +kernel
theorem dX10_works_57 : decode cX10_works 57 = .ok (.lstore 4, 2) := by decide +kernel
theorem dX10_works_59 : decode cX10_works 59 = .ok (.aload_n 0, 1) := by decide +kernel
theorem dX10_works_60 : decode cX10_works 60 = .ok (.dup, 1) := by decide +kernel
theorem dX10_works_61 : decode cX10_works 61 = .ok (.getfield 293, 3) := by decide +kernel
theorem dX10_works_64 : decode cX10_works 64 = .ok (.iconst 1, 1) := by decide +kernel
theorem dX10_works_65 : decode cX10_works 65 = .ok (.isub, 1) := by decide +kernel
theorem dX10_works_66 : decode cX10_works 66 = .ok (.putfield 293, 3) := by decide +kernel
theorem dX10_works_69 : decode cX10_works 69 = .ok (.iload_n 1, 1) := by decide +kernel
theorem dX10_works_70 : decode cX10_works 70 = .ok (.lookupswitch 314 #[(42, 116), (43, 98), (45, 107), (47, 151), (60, 168), (61, 208), (62, 188), (256, 228), (257, 268), (258, 248), (261, 288)], 98) := by decide +kernel
theorem dX10_works_168 : decode cX10_works 168 = .ok (.lload 4, 2) := by decide +kernel
theorem dX10_works_170 : decode cX10_works 170 = .ok (.lload_n 2, 1) := by decide +kernel
theorem dX10_works_171 : decode cX10_works 171 = .ok (.ladd, 1) := by decide +kernel
theorem dX10_works_172 : decode cX10_works 172 = .ok (.lstore 6, 2) := by decide +kernel
theorem dX10_works_174 : decode cX10_works 174 = .ok (.goto 233, 3) := by decide +kernel
theorem dX10_works_177 : decode cX10_works 177 = .ok (.lload 4, 2) := by decide +kernel
theorem dX10_works_179 : decode cX10_works 179 = .ok (.lload_n 2, 1) := by decide +kernel
theorem dX10_works_180 : decode cX10_works 180 = .ok (.lsub, 1) := by decide +kernel
theorem dX10_works_181 : decode cX10_works 181 = .ok (.lstore 6, 2) := by decide +kernel
theorem dX10_works_183 : decode cX10_works 183 = .ok (.goto 224, 3) := by decide +kernel
theorem dX10_works_186 : decode cX10_works 186 = .ok (.lload 4, 2) := by decide +kernel
theorem dX10_works_188 : decode cX10_works 188 = .ok (.lconst 0, 1) := by decide +kernel
theorem dX10_works_189 : decode cX10_works 189 = .ok (.lcmp, 1) := by decide +kernel
theorem dX10_works_190 : decode cX10_works 190 = .ok (.ifCond .eq 22, 3) := by decide +kernel
theorem dX10_works_193 : decode cX10_works 193 = .ok (.lload_n 2, 1) := by decide +kernel
theorem dX10_works_194 : decode cX10_works 194 = .ok (.invokestatic 300, 3) := by decide +kernel
theorem dX10_works_197 : decode cX10_works 197 = .ok (.ldc2_w 306, 3) := by decide +kernel
theorem dX10_works_200 : decode cX10_works 200 = .ok (.lload 4, 2) := by decide +kernel
theorem dX10_works_202 : decode cX10_works 202 = .ok (.invokestatic 300, 3) := by decide +kernel
theorem dX10_works_205 : decode cX10_works 205 = .ok (.ldiv, 1) := by decide +kernel
theorem dX10_works_206 : decode cX10_works 206 = .ok (.lcmp, 1) := by decide +kernel
theorem dX10_works_207 : decode cX10_works 207 = .ok (.ifCond .le 5, 3) := by decide +kernel
theorem dX10_works_210 : decode cX10_works 210 = .ok (.iconst 0, 1) := by decide +kernel
theorem dX10_works_211 : decode cX10_works 211 = .ok (.ireturn, 1) := by decide +kernel
theorem dX10_works_212 : decode cX10_works 212 = .ok (.lload 4, 2) := by decide +kernel
theorem dX10_works_214 : decode cX10_works 214 = .ok (.lload_n 2, 1) := by decide +kernel
theorem dX10_works_215 : decode cX10_works 215 = .ok (.lmul, 1) := by decide +kernel
theorem dX10_works_216 : decode cX10_works 216 = .ok (.lstore 6, 2) := by decide +kernel
theorem dX10_works_218 : decode cX10_works 218 = .ok (.goto 189, 3) := by decide +kernel
theorem dX10_works_221 : decode cX10_works 221 = .ok (.lload_n 2, 1) := by decide +kernel
theorem dX10_works_222 : decode cX10_works 222 = .ok (.lconst 0, 1) := by decide +kernel
theorem dX10_works_223 : decode cX10_works 223 = .ok (.lcmp, 1) := by decide +kernel
theorem dX10_works_224 : decode cX10_works 224 = .ok (.ifCond .ne 5, 3) := by decide +kernel
theorem dX10_works_227 : decode cX10_works 227 = .ok (.iconst 0, 1) := by decide +kernel
theorem dX10_works_228 : decode cX10_works 228 = .ok (.ireturn, 1) := by decide +kernel
theorem dX10_works_229 : decode cX10_works 229 = .ok (.lload 4, 2) := by decide +kernel
theorem dX10_works_231 : decode cX10_works 231 = .ok (.lload_n 2, 1) := by decide +kernel
theorem dX10_works_232 : decode cX10_works 232 = .ok (.ldiv, 1) := by decide +kernel
theorem dX10_works_233 : decode cX10_works 233 = .ok (.lstore 6, 2) := by decide +kernel
theorem dX10_works_235 : decode cX10_works 235 = .ok (.goto 172, 3) := by decide +kernel
theorem dX10_works_238 : decode cX10_works 238 = .ok (.lload 4, 2) := by decide +kernel
theorem dX10_works_240 : decode cX10_works 240 = .ok (.lload_n 2, 1) := by decide +kernel
theorem dX10_works_241 : decode cX10_works 241 = .ok (.lcmp, 1) := by decide +kernel
theorem dX10_works_242 : decode cX10_works 242 = .ok (.ifCond .ge 7, 3) := by decide +kernel
theorem dX10_works_245 : decode cX10_works 245 = .ok (.iconst 1, 1) := by decide +kernel
theorem dX10_works_246 : decode cX10_works 246 = .ok (.goto 4, 3) := by decide +kernel
theorem dX10_works_249 : decode cX10_works 249 = .ok (.iconst 0, 1) := by decide +kernel
theorem dX10_works_250 : decode cX10_works 250 = .ok (.invokestatic 296, 3) := by decide +kernel
theorem dX10_works_253 : decode cX10_works 253 = .ok (.lstore 6, 2) := by decide +kernel
theorem dX10_works_255 : decode cX10_works 255 = .ok (.goto 152, 3) := by decide +kernel
theorem dX10_works_258 : decode cX10_works 258 = .ok (.lload 4, 2) := by decide +kernel
theorem dX10_works_260 : decode cX10_works 260 = .ok (.lload_n 2, 1) := by decide +kernel
theorem dX10_works_261 : decode cX10_works 261 = .ok (.lcmp, 1) := by decide +kernel
theorem dX10_works_262 : decode cX10_works 262 = .ok (.ifCond .le 7, 3) := by decide +kernel
theorem dX10_works_265 : decode cX10_works 265 = .ok (.iconst 1, 1) := by decide +kernel
theorem dX10_works_266 : decode cX10_works 266 = .ok (.goto 4, 3) := by decide +kernel
theorem dX10_works_269 : decode cX10_works 269 = .ok (.iconst 0, 1) := by decide +kernel
theorem dX10_works_270 : decode cX10_works 270 = .ok (.invokestatic 296, 3) := by decide +kernel
theorem dX10_works_273 : decode cX10_works 273 = .ok (.lstore 6, 2) := by decide +kernel
theorem dX10_works_275 : decode cX10_works 275 = .ok (.goto 132, 3) := by decide +kernel
theorem dX10_works_278 : decode cX10_works 278 = .ok (.lload 4, 2) := by decide +kernel
theorem dX10_works_280 : decode cX10_works 280 = .ok (.lload_n 2, 1) := by decide +kernel
theorem dX10_works_281 : decode cX10_works 281 = .ok (.lcmp, 1) := by decide +kernel
theorem dX10_works_282 : decode cX10_works 282 = .ok (.ifCond .ne 7, 3) := by decide +kernel
theorem dX10_works_285 : decode cX10_works 285 = .ok (.iconst 1, 1) := by decide +kernel
theorem dX10_works_286 : decode cX10_works 286 = .ok (.goto 4, 3) := by decide +kernel
theorem dX10_works_289 : decode cX10_works 289 = .ok (.iconst 0, 1) := by decide +kernel
theorem dX10_works_290 : decode cX10_works 290 = .ok (.invokestatic 296, 3) := by decide +kernel
theorem dX10_works_293 : decode cX10_works 293 = .ok (.lstore 6, 2) := by decide +kernel
theorem dX10_works_295 : decode cX10_works 295 = .ok (.goto 112, 3) := by decide +kernel
theorem dX10_works_298 : decode cX10_works 298 = .ok (.lload 4, 2) := by decide +kernel
theorem dX10_works_300 : decode cX10_works 300 = .ok (.lload_n 2, 1) := by decide +kernel
theorem dX10_works_301 : decode cX10_works 301 = .ok (.lcmp, 1) := by decide +kernel
theorem dX10_works_302 : decode cX10_works 302 = .ok (.ifCond .gt 7, 3) := by decide +kernel
theorem dX10_works_305 : decode cX10_works 305 = .ok (.iconst 1, 1) := by decide +kernel
theorem dX10_works_306 : decode cX10_works 306 = .ok (.goto 4, 3) := by decide +kernel
theorem dX10_works_309 : decode cX10_works 309 = .ok (.iconst 0, 1) := by decide +kernel
theorem dX10_works_310 : decode cX10_works 310 = .ok (.invokestatic 296, 3) := by decide +kernel
theorem dX10_works_313 : decode cX10_works 313 = .ok (.lstore 6, 2) := by decide +kernel
theorem dX10_works_315 : decode cX10_works 315 = .ok (.goto 92, 3) := by decide +kernel
theorem dX10_works_318 : decode cX10_works 318 = .ok (.lload 4, 2) := by decide +kernel
theorem dX10_works_320 : decode cX10_works 320 = .ok (.lload_n 2, 1) := by decide +kernel
theorem dX10_works_321 : decode cX10_works 321 = .ok (.lcmp, 1) := by decide +kernel
theorem dX10_works_322 : decode cX10_works 322 = .ok (.ifCond .lt 7, 3) := by decide +kernel
theorem dX10_works_325 : decode cX10_works 325 = .ok (.iconst 1, 1) := by decide +kernel
theorem dX10_works_326 : decode cX10_works 326 = .ok (.goto 4, 3) := by decide +kernel
theorem dX10_works_329 : decode cX10_works 329 = .ok (.iconst 0, 1) := by decide +kernel
theorem dX10_works_330 : decode cX10_works 330 = .ok (.invokestatic 296, 3) := by decide +kernel
theorem dX10_works_333 : decode cX10_works 333 = .ok (.lstore 6, 2) := by decide +kernel
theorem dX10_works_335 : decode cX10_works 335 = .ok (.goto 72, 3) := by decide +kernel
theorem dX10_works_338 : decode cX10_works 338 = .ok (.lload 4, 2) := by decide +kernel
theorem dX10_works_340 : decode cX10_works 340 = .ok (.lload_n 2, 1) := by decide +kernel
theorem dX10_works_341 : decode cX10_works 341 = .ok (.lcmp, 1) := by decide +kernel
theorem dX10_works_342 : decode cX10_works 342 = .ok (.ifCond .eq 7, 3) := by decide +kernel
theorem dX10_works_345 : decode cX10_works 345 = .ok (.iconst 1, 1) := by decide +kernel
theorem dX10_works_346 : decode cX10_works 346 = .ok (.goto 4, 3) := by decide +kernel
theorem dX10_works_349 : decode cX10_works 349 = .ok (.iconst 0, 1) := by decide +kernel
theorem dX10_works_350 : decode cX10_works 350 = .ok (.invokestatic 296, 3) := by decide +kernel
theorem dX10_works_353 : decode cX10_works 353 = .ok (.lstore 6, 2) := by decide +kernel
theorem dX10_works_355 : decode cX10_works 355 = .ok (.goto 52, 3) := by decide +kernel
theorem dX10_works_358 : decode cX10_works 358 = .ok (.lload 4, 2) := by decide +kernel
theorem dX10_works_360 : decode cX10_works 360 = .ok (.lconst 0, 1) := by decide +kernel
theorem dX10_works_361 : decode cX10_works 361 = .ok (.lcmp, 1) := by decide +kernel
theorem dX10_works_362 : decode cX10_works 362 = .ok (.ifCond .eq 13, 3) := by decide +kernel
theorem dX10_works_365 : decode cX10_works 365 = .ok (.lload_n 2, 1) := by decide +kernel
theorem dX10_works_366 : decode cX10_works 366 = .ok (.lconst 0, 1) := by decide +kernel
theorem dX10_works_367 : decode cX10_works 367 = .ok (.lcmp, 1) := by decide +kernel
theorem dX10_works_368 : decode cX10_works 368 = .ok (.ifCond .eq 7, 3) := by decide +kernel
theorem dX10_works_371 : decode cX10_works 371 = .ok (.iconst 1, 1) := by decide +kernel
theorem dX10_works_372 : decode cX10_works 372 = .ok (.goto 4, 3) := by decide +kernel
theorem dX10_works_375 : decode cX10_works 375 = .ok (.iconst 0, 1) := by decide +kernel
theorem dX10_works_376 : decode cX10_works 376 = .ok (.invokestatic 296, 3) := by decide +kernel
theorem dX10_works_379 : decode cX10_works 379 = .ok (.lstore 6, 2) := by decide +kernel
theorem dX10_works_381 : decode cX10_works 381 = .ok (.goto 26, 3) := by decide +kernel
theorem dX10_works_384 : decode cX10_works 384 = .ok (.lload 4, 2) := by decide +kernel
theorem dX10_works_386 : decode cX10_works 386 = .ok (.lconst 0, 1) := by decide +kernel
theorem dX10_works_387 : decode cX10_works 387 = .ok (.lcmp, 1) := by decide +kernel
theorem dX10_works_388 : decode cX10_works 388 = .ok (.ifCond .ne 9, 3) := by decide +kernel
theorem dX10_works_391 : decode cX10_works 391 = .ok (.lload_n 2, 1) := by decide +kernel
theorem dX10_works_392 : decode cX10_works 392 = .ok (.lconst 0, 1) := by decide +kernel
theorem dX10_works_393 : decode cX10_works 393 = .ok (.lcmp, 1) := by decide +kernel
theorem dX10_works_394 : decode cX10_works 394 = .ok (.ifCond .eq 7, 3) := by decide +kernel
theorem dX10_works_397 : decode cX10_works 397 = .ok (.iconst 1, 1) := by decide +kernel
theorem dX10_works_398 : decode cX10_works 398 = .ok (.goto 4, 3) := by decide +kernel
theorem dX10_works_401 : decode cX10_works 401 = .ok (.iconst 0, 1) := by decide +kernel
theorem dX10_works_402 : decode cX10_works 402 = .ok (.invokestatic 296, 3) := by decide +kernel
theorem dX10_works_405 : decode cX10_works 405 = .ok (.lstore 6, 2) := by decide +kernel
theorem dX10_works_407 : decode cX10_works 407 = .ok (.aload_n 0, 1) := by decide +kernel
theorem dX10_works_408 : decode cX10_works 408 = .ok (.getfield 63, 3) := by decide +kernel
theorem dX10_works_411 : decode cX10_works 411 = .ok (.aload_n 0, 1) := by decide +kernel
theorem dX10_works_412 : decode cX10_works 412 = .ok (.getfield 293, 3) := by decide +kernel
theorem dX10_works_415 : decode cX10_works 415 = .ok (.iconst 1, 1) := by decide +kernel
theorem dX10_works_416 : decode cX10_works 416 = .ok (.isub, 1) := by decide +kernel
theorem dX10_works_417 : decode cX10_works 417 = .ok (.lload 6, 2) := by decide +kernel
theorem dX10_works_419 : decode cX10_works 419 = .ok (.lastore, 1) := by decide +kernel
theorem dX10_works_420 : decode cX10_works 420 = .ok (.lload 6, 2) := by decide +kernel
theorem dX10_works_422 : decode cX10_works 422 = .ok (.ldc2_w 306, 3) := by decide +kernel
theorem dX10_works_425 : decode cX10_works 425 = .ok (.lcmp, 1) := by decide +kernel
theorem dX10_works_426 : decode cX10_works 426 = .ok (.ifCond .gt 16, 3) := by decide +kernel
theorem dX10_works_429 : decode cX10_works 429 = .ok (.lload 6, 2) := by decide +kernel
theorem dX10_works_431 : decode cX10_works 431 = .ok (.ldc2_w 308, 3) := by decide +kernel
theorem dX10_works_434 : decode cX10_works 434 = .ok (.lcmp, 1) := by decide +kernel
theorem dX10_works_435 : decode cX10_works 435 = .ok (.ifCond .lt 7, 3) := by decide +kernel
theorem dX10_works_438 : decode cX10_works 438 = .ok (.iconst 1, 1) := by decide +kernel
theorem dX10_works_439 : decode cX10_works 439 = .ok (.goto 4, 3) := by decide +kernel
theorem dX10_works_442 : decode cX10_works 442 = .ok (.iconst 0, 1) := by decide +kernel
theorem dX10_works_443 : decode cX10_works 443 = .ok (.ireturn, 1) := by decide +kernel
theorem dX10_goes_0 : decode cX10_goes 0 = .ok (.aload_n 0, 1) := by decide +kernel
theorem dX10_goes_1 : decode cX10_goes 1 = .ok (.iconst 0, 1) := by decide +kernel
theorem dX10_goes_2 : decode cX10_goes 2 = .ok (.putfield 293, 3) := by decide +kernel
theorem dX10_goes_5 : decode cX10_goes 5 = .ok (.aload_n 0, 1) := by decide +kernel
theorem dX10_goes_6 : decode cX10_goes 6 = .ok (.getfield 43, 3) := by decide +kernel
theorem dX10_goes_9 : decode cX10_goes 9 = .ok (.iload_n 1, 1) := by decide +kernel
theorem dX10_goes_10 : decode cX10_goes 10 = .ok (.iaload, 1) := by decide +kernel
theorem dX10_goes_11 : decode cX10_goes 11 = .ok (.istore_n 2, 1) := by decide +kernel
theorem dX10_goes_12 : decode cX10_goes 12 = .ok (.iload_n 2, 1) := by decide +kernel
theorem dX10_goes_13 : decode cX10_goes 13 = .ok (.aload_n 0, 1) := by decide +kernel
theorem dX10_goes_14 : decode cX10_goes 14 = .ok (.getfield 46, 3) := by decide +kernel
theorem dX10_goes_17 : decode cX10_goes 17 = .ok (.iload_n 1, 1) := by decide +kernel
theorem dX10_goes_18 : decode cX10_goes 18 = .ok (.iaload, 1) := by decide +kernel
theorem dX10_goes_19 : decode cX10_goes 19 = .ok (.if_icmp .ge 83, 3) := by decide +kernel
theorem dX10_goes_22 : decode cX10_goes 22 = .ok (.aload_n 0, 1) := by decide +kernel
theorem dX10_goes_23 : decode cX10_goes 23 = .ok (.getfield 49, 3) := by decide +kernel
theorem dX10_goes_26 : decode cX10_goes 26 = .ok (.iload_n 2, 1) := by decide +kernel
theorem dX10_goes_27 : decode cX10_goes 27 = .ok (.iaload, 1) := by decide +kernel
theorem dX10_goes_28 : decode cX10_goes 28 = .ok (.iconst 2, 1) := by decide +kernel
theorem dX10_goes_29 : decode cX10_goes 29 = .ok (.if_icmp .ne 18, 3) := by decide +kernel
theorem dX10_goes_32 : decode cX10_goes 32 = .ok (.aload_n 0, 1) := by decide +kernel
theorem dX10_goes_33 : decode cX10_goes 33 = .ok (.aload_n 0, 1) := by decide +kernel
theorem dX10_goes_34 : decode cX10_goes 34 = .ok (.getfield 52, 3) := by decide +kernel
theorem dX10_goes_37 : decode cX10_goes 37 = .ok (.iload_n 2, 1) := by decide +kernel
theorem dX10_goes_38 : decode cX10_goes 38 = .ok (.iaload, 1) := by decide +kernel
theorem dX10_goes_39 : decode cX10_goes 39 = .ok (.invokevirtual 310, 3) := by decide +kernel
theorem dX10_goes_42 : decode cX10_goes 42 = .ok (.ifCond .ne 54, 3) := by decide +kernel
theorem dX10_goes_45 : decode cX10_goes 45 = .ok (.iconst 0, 1) := by decide +kernel
theorem dX10_goes_46 : decode cX10_goes 46 = .ok (.ireturn, 1) := by decide +kernel
theorem dX10_goes_47 : decode cX10_goes 47 = .ok (.aload_n 0, 1) := by decide +kernel
theorem dX10_goes_48 : decode cX10_goes 48 = .ok (.getfield 63, 3) := by decide +kernel
theorem dX10_goes_51 : decode cX10_goes 51 = .ok (.aload_n 0, 1) := by decide +kernel
theorem dX10_goes_52 : decode cX10_goes 52 = .ok (.getfield 293, 3) := by decide +kernel
theorem dX10_goes_55 : decode cX10_goes 55 = .ok (.aload_n 0, 1) := by decide +kernel
theorem dX10_goes_56 : decode cX10_goes 56 = .ok (.getfield 49, 3) := by decide +kernel
theorem dX10_goes_59 : decode cX10_goes 59 = .ok (.iload_n 2, 1) := by decide +kernel
theorem dX10_goes_60 : decode cX10_goes 60 = .ok (.iaload, 1) := by decide +kernel
theorem dX10_goes_61 : decode cX10_goes 61 = .ok (.ifCond .ne 13, 3) := by decide +kernel
theorem dX10_goes_64 : decode cX10_goes 64 = .ok (.aload_n 0, 1) := by decide +kernel
theorem dX10_goes_65 : decode cX10_goes 65 = .ok (.getfield 52, 3) := by decide +kernel
theorem dX10_goes_68 : decode cX10_goes 68 = .ok (.iload_n 2, 1) := by decide +kernel
theorem dX10_goes_69 : decode cX10_goes 69 = .ok (.iaload, 1) := by decide +kernel
theorem dX10_goes_70 : decode cX10_goes 70 = .ok (.i2l, 1) := by decide +kernel
theorem dX10_goes_71 : decode cX10_goes 71 = .ok (.goto 14, 3) := by decide +kernel
theorem dX10_goes_74 : decode cX10_goes 74 = .ok (.aload_n 0, 1) := by decide +kernel
theorem dX10_goes_75 : decode cX10_goes 75 = .ok (.getfield 59, 3) := by decide +kernel
theorem dX10_goes_78 : decode cX10_goes 78 = .ok (.aload_n 0, 1) := by decide +kernel
theorem dX10_goes_79 : decode cX10_goes 79 = .ok (.getfield 52, 3) := by decide +kernel
theorem dX10_goes_82 : decode cX10_goes 82 = .ok (.iload_n 2, 1) := by decide +kernel
theorem dX10_goes_83 : decode cX10_goes 83 = .ok (.iaload, 1) := by decide +kernel
theorem dX10_goes_84 : decode cX10_goes 84 = .ok (.laload, 1) := by decide +kernel
theorem dX10_goes_85 : decode cX10_goes 85 = .ok (.lastore, 1) := by decide +kernel
theorem dX10_goes_86 : decode cX10_goes 86 = .ok (.aload_n 0, 1) := by decide +kernel
theorem dX10_goes_87 : decode cX10_goes 87 = .ok (.dup, 1) := by decide +kernel
theorem dX10_goes_88 : decode cX10_goes 88 = .ok (.getfield 293, 3) := by decide +kernel
theorem dX10_goes_91 : decode cX10_goes 91 = .ok (.iconst 1, 1) := by decide +kernel
theorem dX10_goes_92 : decode cX10_goes 92 = .ok (.iadd, 1) := by decide +kernel
theorem dX10_goes_93 : decode cX10_goes 93 = .ok (.putfield 293, 3) := by decide +kernel
theorem dX10_goes_96 : decode cX10_goes 96 = .ok (.iinc 2 1, 3) := by decide +kernel
theorem dX10_goes_99 : decode cX10_goes 99 = .ok (.goto (-87), 3) := by decide +kernel
theorem dX10_goes_102 : decode cX10_goes 102 = .ok (.iconst 1, 1) := by decide +kernel
theorem dX10_goes_103 : decode cX10_goes 103 = .ok (.ireturn, 1) := by decide +kernel
theorem dX10_hasLaw_0 : decode cX10_hasLaw 0 = .ok (.aload_n 0, 1) := by decide +kernel
theorem dX10_hasLaw_1 : decode cX10_hasLaw 1 = .ok (.getfield 46, 3) := by decide +kernel
theorem dX10_hasLaw_4 : decode cX10_hasLaw 4 = .ok (.iload_n 1, 1) := by decide +kernel
theorem dX10_hasLaw_5 : decode cX10_hasLaw 5 = .ok (.iaload, 1) := by decide +kernel
theorem dX10_hasLaw_6 : decode cX10_hasLaw 6 = .ok (.aload_n 0, 1) := by decide +kernel
theorem dX10_hasLaw_7 : decode cX10_hasLaw 7 = .ok (.getfield 43, 3) := by decide +kernel
theorem dX10_hasLaw_10 : decode cX10_hasLaw 10 = .ok (.iload_n 1, 1) := by decide +kernel
theorem dX10_hasLaw_11 : decode cX10_hasLaw 11 = .ok (.iaload, 1) := by decide +kernel
theorem dX10_hasLaw_12 : decode cX10_hasLaw 12 = .ok (.if_icmp .le 7, 3) := by decide +kernel
theorem dX10_hasLaw_15 : decode cX10_hasLaw 15 = .ok (.iconst 1, 1) := by decide +kernel
theorem dX10_hasLaw_16 : decode cX10_hasLaw 16 = .ok (.goto 4, 3) := by decide +kernel
theorem dX10_hasLaw_19 : decode cX10_hasLaw 19 = .ok (.iconst 0, 1) := by decide +kernel
theorem dX10_hasLaw_20 : decode cX10_hasLaw 20 = .ok (.ireturn, 1) := by decide +kernel
theorem dX10_starts_0 : decode cX10_starts 0 = .ok (.aload_n 0, 1) := by decide +kernel
theorem dX10_starts_1 : decode cX10_starts 1 = .ok (.getfield 66, 3) := by decide +kernel
theorem dX10_starts_4 : decode cX10_starts 4 = .ok (.iload_n 1, 1) := by decide +kernel
theorem dX10_starts_5 : decode cX10_starts 5 = .ok (.iconst 0, 1) := by decide +kernel
theorem dX10_starts_6 : decode cX10_starts 6 = .ok (.iastore, 1) := by decide +kernel
theorem dX10_starts_7 : decode cX10_starts 7 = .ok (.aload_n 0, 1) := by decide +kernel
theorem dX10_starts_8 : decode cX10_starts 8 = .ok (.getfield 69, 3) := by decide +kernel
theorem dX10_starts_11 : decode cX10_starts 11 = .ok (.iload_n 1, 1) := by decide +kernel
theorem dX10_starts_12 : decode cX10_starts 12 = .ok (.aload_n 0, 1) := by decide +kernel
theorem dX10_starts_13 : decode cX10_starts 13 = .ok (.getfield 13, 3) := by decide +kernel
theorem dX10_starts_16 : decode cX10_starts 16 = .ok (.iconst 4, 1) := by decide +kernel
theorem dX10_starts_17 : decode cX10_starts 17 = .ok (.iaload, 1) := by decide +kernel
theorem dX10_starts_18 : decode cX10_starts 18 = .ok (.iastore, 1) := by decide +kernel
theorem dX10_starts_19 : decode cX10_starts 19 = .ok (.aload_n 0, 1) := by decide +kernel
theorem dX10_starts_20 : decode cX10_starts 20 = .ok (.getfield 72, 3) := by decide +kernel
theorem dX10_starts_23 : decode cX10_starts 23 = .ok (.iload_n 1, 1) := by decide +kernel
theorem dX10_starts_24 : decode cX10_starts 24 = .ok (.iconst 0, 1) := by decide +kernel
theorem dX10_starts_25 : decode cX10_starts 25 = .ok (.iastore, 1) := by decide +kernel
theorem dX10_starts_26 : decode cX10_starts 26 = .ok (.aload_n 0, 1) := by decide +kernel
theorem dX10_starts_27 : decode cX10_starts 27 = .ok (.getfield 75, 3) := by decide +kernel
theorem dX10_starts_30 : decode cX10_starts 30 = .ok (.iload_n 1, 1) := by decide +kernel
theorem dX10_starts_31 : decode cX10_starts 31 = .ok (.iconst 0, 1) := by decide +kernel
theorem dX10_starts_32 : decode cX10_starts 32 = .ok (.iastore, 1) := by decide +kernel
theorem dX10_starts_33 : decode cX10_starts 33 = .ok (.iconst 0, 1) := by decide +kernel
theorem dX10_starts_34 : decode cX10_starts 34 = .ok (.istore_n 2, 1) := by decide +kernel
theorem dX10_starts_35 : decode cX10_starts 35 = .ok (.iload_n 2, 1) := by decide +kernel
theorem dX10_starts_36 : decode cX10_starts 36 = .ok (.bipush 8, 2) := by decide +kernel
theorem dX10_starts_38 : decode cX10_starts 38 = .ok (.if_icmp .ge 40, 3) := by decide +kernel
theorem dX10_starts_41 : decode cX10_starts 41 = .ok (.aload_n 0, 1) := by decide +kernel
theorem dX10_starts_42 : decode cX10_starts 42 = .ok (.getfield 78, 3) := by decide +kernel
theorem dX10_starts_45 : decode cX10_starts 45 = .ok (.bipush 8, 2) := by decide +kernel
theorem dX10_starts_47 : decode cX10_starts 47 = .ok (.iload_n 1, 1) := by decide +kernel
theorem dX10_starts_48 : decode cX10_starts 48 = .ok (.imul, 1) := by decide +kernel
theorem dX10_starts_49 : decode cX10_starts 49 = .ok (.iload_n 2, 1) := by decide +kernel
theorem dX10_starts_50 : decode cX10_starts 50 = .ok (.iadd, 1) := by decide +kernel
theorem dX10_starts_51 : decode cX10_starts 51 = .ok (.iload_n 2, 1) := by decide +kernel
theorem dX10_starts_52 : decode cX10_starts 52 = .ok (.aload_n 0, 1) := by decide +kernel
theorem dX10_starts_53 : decode cX10_starts 53 = .ok (.getfield 13, 3) := by decide +kernel
theorem dX10_starts_56 : decode cX10_starts 56 = .ok (.iconst 0, 1) := by decide +kernel
theorem dX10_starts_57 : decode cX10_starts 57 = .ok (.iaload, 1) := by decide +kernel
theorem dX10_starts_58 : decode cX10_starts 58 = .ok (.if_icmp .ge 12, 3) := by decide +kernel
theorem dX10_starts_61 : decode cX10_starts 61 = .ok (.aload_n 0, 1) := by decide +kernel
theorem dX10_starts_62 : decode cX10_starts 62 = .ok (.getfield 19, 3) := by decide +kernel
theorem dX10_starts_65 : decode cX10_starts 65 = .ok (.iload_n 2, 1) := by decide +kernel
theorem dX10_starts_66 : decode cX10_starts 66 = .ok (.iaload, 1) := by decide +kernel
theorem dX10_starts_67 : decode cX10_starts 67 = .ok (.goto 4, 3) := by decide +kernel
theorem dX10_starts_70 : decode cX10_starts 70 = .ok (.iconst 0, 1) := by decide +kernel
theorem dX10_starts_71 : decode cX10_starts 71 = .ok (.iastore, 1) := by decide +kernel
theorem dX10_starts_72 : decode cX10_starts 72 = .ok (.iinc 2 1, 3) := by decide +kernel
theorem dX10_starts_75 : decode cX10_starts 75 = .ok (.goto (-40), 3) := by decide +kernel
theorem dX10_starts_78 : decode cX10_starts 78 = .ok (.iconst 0, 1) := by decide +kernel
theorem dX10_starts_79 : decode cX10_starts 79 = .ok (.istore_n 2, 1) := by decide +kernel
theorem dX10_starts_80 : decode cX10_starts 80 = .ok (.iload_n 2, 1) := by decide +kernel
theorem dX10_starts_81 : decode cX10_starts 81 = .ok (.bipush 10, 2) := by decide +kernel
theorem dX10_starts_83 : decode cX10_starts 83 = .ok (.if_icmp .ge 64, 3) := by decide +kernel
theorem dX10_starts_86 : decode cX10_starts 86 = .ok (.aload_n 0, 1) := by decide +kernel
theorem dX10_starts_87 : decode cX10_starts 87 = .ok (.getfield 81, 3) := by decide +kernel
theorem dX10_starts_90 : decode cX10_starts 90 = .ok (.bipush 10, 2) := by decide +kernel
theorem dX10_starts_92 : decode cX10_starts 92 = .ok (.iload_n 1, 1) := by decide +kernel
theorem dX10_starts_93 : decode cX10_starts 93 = .ok (.imul, 1) := by decide +kernel
theorem dX10_starts_94 : decode cX10_starts 94 = .ok (.iload_n 2, 1) := by decide +kernel
theorem dX10_starts_95 : decode cX10_starts 95 = .ok (.iadd, 1) := by decide +kernel
theorem dX10_starts_96 : decode cX10_starts 96 = .ok (.iload_n 2, 1) := by decide +kernel
theorem dX10_starts_97 : decode cX10_starts 97 = .ok (.aload_n 0, 1) := by decide +kernel
theorem dX10_starts_98 : decode cX10_starts 98 = .ok (.getfield 13, 3) := by decide +kernel
theorem dX10_starts_101 : decode cX10_starts 101 = .ok (.iconst 1, 1) := by decide +kernel
theorem dX10_starts_102 : decode cX10_starts 102 = .ok (.iaload, 1) := by decide +kernel
theorem dX10_starts_103 : decode cX10_starts 103 = .ok (.if_icmp .ge 12, 3) := by decide +kernel
theorem dX10_starts_106 : decode cX10_starts 106 = .ok (.aload_n 0, 1) := by decide +kernel
theorem dX10_starts_107 : decode cX10_starts 107 = .ok (.getfield 37, 3) := by decide +kernel
theorem dX10_starts_110 : decode cX10_starts 110 = .ok (.iload_n 2, 1) := by decide +kernel
theorem dX10_starts_111 : decode cX10_starts 111 = .ok (.iaload, 1) := by decide +kernel
theorem dX10_starts_112 : decode cX10_starts 112 = .ok (.goto 4, 3) := by decide +kernel
theorem dX10_starts_115 : decode cX10_starts 115 = .ok (.iconst 0, 1) := by decide +kernel
theorem dX10_starts_116 : decode cX10_starts 116 = .ok (.iastore, 1) := by decide +kernel
theorem dX10_starts_117 : decode cX10_starts 117 = .ok (.aload_n 0, 1) := by decide +kernel
theorem dX10_starts_118 : decode cX10_starts 118 = .ok (.getfield 84, 3) := by decide +kernel
theorem dX10_starts_121 : decode cX10_starts 121 = .ok (.bipush 10, 2) := by decide +kernel
theorem dX10_starts_123 : decode cX10_starts 123 = .ok (.iload_n 1, 1) := by decide +kernel
theorem dX10_starts_124 : decode cX10_starts 124 = .ok (.imul, 1) := by decide +kernel
theorem dX10_starts_125 : decode cX10_starts 125 = .ok (.iload_n 2, 1) := by decide +kernel
theorem dX10_starts_126 : decode cX10_starts 126 = .ok (.iadd, 1) := by decide +kernel
theorem dX10_starts_127 : decode cX10_starts 127 = .ok (.iconst (-1), 1) := by decide +kernel
theorem dX10_starts_128 : decode cX10_starts 128 = .ok (.iastore, 1) := by decide +kernel
theorem dX10_starts_129 : decode cX10_starts 129 = .ok (.aload_n 0, 1) := by decide +kernel
theorem dX10_starts_130 : decode cX10_starts 130 = .ok (.getfield 87, 3) := by decide +kernel
theorem dX10_starts_133 : decode cX10_starts 133 = .ok (.bipush 10, 2) := by decide +kernel
theorem dX10_starts_135 : decode cX10_starts 135 = .ok (.iload_n 1, 1) := by decide +kernel
theorem dX10_starts_136 : decode cX10_starts 136 = .ok (.imul, 1) := by decide +kernel
theorem dX10_starts_137 : decode cX10_starts 137 = .ok (.iload_n 2, 1) := by decide +kernel
theorem dX10_starts_138 : decode cX10_starts 138 = .ok (.iadd, 1) := by decide +kernel
theorem dX10_starts_139 : decode cX10_starts 139 = .ok (.iconst (-1), 1) := by decide +kernel
theorem dX10_starts_140 : decode cX10_starts 140 = .ok (.iastore, 1) := by decide +kernel
theorem dX10_starts_141 : decode cX10_starts 141 = .ok (.iinc 2 1, 3) := by decide +kernel
theorem dX10_starts_144 : decode cX10_starts 144 = .ok (.goto (-64), 3) := by decide +kernel
theorem dX10_starts_147 : decode cX10_starts 147 = .ok (.return_, 1) := by decide +kernel
theorem dX10_begins_0 : decode cX10_begins 0 = .ok (.aload_n 0, 1) := by decide +kernel
theorem dX10_begins_1 : decode cX10_begins 1 = .ok (.iconst 0, 1) := by decide +kernel
theorem dX10_begins_2 : decode cX10_begins 2 = .ok (.invokevirtual 313, 3) := by decide +kernel
theorem dX10_begins_5 : decode cX10_begins 5 = .ok (.return_, 1) := by decide +kernel
theorem dX10_copies_0 : decode cX10_copies 0 = .ok (.aload_n 0, 1) := by decide +kernel
theorem dX10_copies_1 : decode cX10_copies 1 = .ok (.getfield 66, 3) := by decide +kernel
theorem dX10_copies_4 : decode cX10_copies 4 = .ok (.iload_n 1, 1) := by decide +kernel
theorem dX10_copies_5 : decode cX10_copies 5 = .ok (.aload_n 0, 1) := by decide +kernel
theorem dX10_copies_6 : decode cX10_copies 6 = .ok (.getfield 66, 3) := by decide +kernel
theorem dX10_copies_9 : decode cX10_copies 9 = .ok (.iload_n 2, 1) := by decide +kernel
theorem dX10_copies_10 : decode cX10_copies 10 = .ok (.iaload, 1) := by decide +kernel
theorem dX10_copies_11 : decode cX10_copies 11 = .ok (.iastore, 1) := by decide +kernel
theorem dX10_copies_12 : decode cX10_copies 12 = .ok (.aload_n 0, 1) := by decide +kernel
theorem dX10_copies_13 : decode cX10_copies 13 = .ok (.getfield 69, 3) := by decide +kernel
theorem dX10_copies_16 : decode cX10_copies 16 = .ok (.iload_n 1, 1) := by decide +kernel
theorem dX10_copies_17 : decode cX10_copies 17 = .ok (.aload_n 0, 1) := by decide +kernel
theorem dX10_copies_18 : decode cX10_copies 18 = .ok (.getfield 69, 3) := by decide +kernel
theorem dX10_copies_21 : decode cX10_copies 21 = .ok (.iload_n 2, 1) := by decide +kernel
theorem dX10_copies_22 : decode cX10_copies 22 = .ok (.iaload, 1) := by decide +kernel
theorem dX10_copies_23 : decode cX10_copies 23 = .ok (.iastore, 1) := by decide +kernel
theorem dX10_copies_24 : decode cX10_copies 24 = .ok (.aload_n 0, 1) := by decide +kernel
theorem dX10_copies_25 : decode cX10_copies 25 = .ok (.getfield 72, 3) := by decide +kernel
theorem dX10_copies_28 : decode cX10_copies 28 = .ok (.iload_n 1, 1) := by decide +kernel
theorem dX10_copies_29 : decode cX10_copies 29 = .ok (.aload_n 0, 1) := by decide +kernel
theorem dX10_copies_30 : decode cX10_copies 30 = .ok (.getfield 72, 3) := by decide +kernel
theorem dX10_copies_33 : decode cX10_copies 33 = .ok (.iload_n 2, 1) := by decide +kernel
theorem dX10_copies_34 : decode cX10_copies 34 = .ok (.iaload, 1) := by decide +kernel
theorem dX10_copies_35 : decode cX10_copies 35 = .ok (.iastore, 1) := by decide +kernel
theorem dX10_copies_36 : decode cX10_copies 36 = .ok (.aload_n 0, 1) := by decide +kernel
theorem dX10_copies_37 : decode cX10_copies 37 = .ok (.getfield 75, 3) := by decide +kernel
theorem dX10_copies_40 : decode cX10_copies 40 = .ok (.iload_n 1, 1) := by decide +kernel
theorem dX10_copies_41 : decode cX10_copies 41 = .ok (.aload_n 0, 1) := by decide +kernel
theorem dX10_copies_42 : decode cX10_copies 42 = .ok (.getfield 75, 3) := by decide +kernel
theorem dX10_copies_45 : decode cX10_copies 45 = .ok (.iload_n 2, 1) := by decide +kernel
theorem dX10_copies_46 : decode cX10_copies 46 = .ok (.iaload, 1) := by decide +kernel
theorem dX10_copies_47 : decode cX10_copies 47 = .ok (.iastore, 1) := by decide +kernel
theorem dX10_copies_48 : decode cX10_copies 48 = .ok (.iconst 0, 1) := by decide +kernel
theorem dX10_copies_49 : decode cX10_copies 49 = .ok (.istore_n 3, 1) := by decide +kernel
theorem dX10_copies_50 : decode cX10_copies 50 = .ok (.iload_n 3, 1) := by decide +kernel
theorem dX10_copies_51 : decode cX10_copies 51 = .ok (.bipush 8, 2) := by decide +kernel
theorem dX10_copies_53 : decode cX10_copies 53 = .ok (.if_icmp .ge 31, 3) := by decide +kernel
theorem dX10_copies_56 : decode cX10_copies 56 = .ok (.aload_n 0, 1) := by decide +kernel
theorem dX10_copies_57 : decode cX10_copies 57 = .ok (.getfield 78, 3) := by decide +kernel
theorem dX10_copies_60 : decode cX10_copies 60 = .ok (.bipush 8, 2) := by decide +kernel
theorem dX10_copies_62 : decode cX10_copies 62 = .ok (.iload_n 1, 1) := by decide +kernel
theorem dX10_copies_63 : decode cX10_copies 63 = .ok (.imul, 1) := by decide +kernel
theorem dX10_copies_64 : decode cX10_copies 64 = .ok (.iload_n 3, 1) := by decide +kernel
theorem dX10_copies_65 : decode cX10_copies 65 = .ok (.iadd, 1) := by decide +kernel
theorem dX10_copies_66 : decode cX10_copies 66 = .ok (.aload_n 0, 1) := by decide +kernel
theorem dX10_copies_67 : decode cX10_copies 67 = .ok (.getfield 78, 3) := by decide +kernel
theorem dX10_copies_70 : decode cX10_copies 70 = .ok (.bipush 8, 2) := by decide +kernel
theorem dX10_copies_72 : decode cX10_copies 72 = .ok (.iload_n 2, 1) := by decide +kernel
theorem dX10_copies_73 : decode cX10_copies 73 = .ok (.imul, 1) := by decide +kernel
theorem dX10_copies_74 : decode cX10_copies 74 = .ok (.iload_n 3, 1) := by decide +kernel
theorem dX10_copies_75 : decode cX10_copies 75 = .ok (.iadd, 1) := by decide +kernel
theorem dX10_copies_76 : decode cX10_copies 76 = .ok (.iaload, 1) := by decide +kernel
theorem dX10_copies_77 : decode cX10_copies 77 = .ok (.iastore, 1) := by decide +kernel
theorem dX10_copies_78 : decode cX10_copies 78 = .ok (.iinc 3 1, 3) := by decide +kernel
theorem dX10_copies_81 : decode cX10_copies 81 = .ok (.goto (-31), 3) := by decide +kernel
theorem dX10_copies_84 : decode cX10_copies 84 = .ok (.iconst 0, 1) := by decide +kernel
theorem dX10_copies_85 : decode cX10_copies 85 = .ok (.istore_n 3, 1) := by decide +kernel
theorem dX10_copies_86 : decode cX10_copies 86 = .ok (.iload_n 3, 1) := by decide +kernel
theorem dX10_copies_87 : decode cX10_copies 87 = .ok (.bipush 10, 2) := by decide +kernel
theorem dX10_copies_89 : decode cX10_copies 89 = .ok (.if_icmp .ge 75, 3) := by decide +kernel
theorem dX10_copies_92 : decode cX10_copies 92 = .ok (.aload_n 0, 1) := by decide +kernel
theorem dX10_copies_93 : decode cX10_copies 93 = .ok (.getfield 81, 3) := by decide +kernel
theorem dX10_copies_96 : decode cX10_copies 96 = .ok (.bipush 10, 2) := by decide +kernel
theorem dX10_copies_98 : decode cX10_copies 98 = .ok (.iload_n 1, 1) := by decide +kernel
theorem dX10_copies_99 : decode cX10_copies 99 = .ok (.imul, 1) := by decide +kernel
theorem dX10_copies_100 : decode cX10_copies 100 = .ok (.iload_n 3, 1) := by decide +kernel
theorem dX10_copies_101 : decode cX10_copies 101 = .ok (.iadd, 1) := by decide +kernel
theorem dX10_copies_102 : decode cX10_copies 102 = .ok (.aload_n 0, 1) := by decide +kernel
theorem dX10_copies_103 : decode cX10_copies 103 = .ok (.getfield 81, 3) := by decide +kernel
theorem dX10_copies_106 : decode cX10_copies 106 = .ok (.bipush 10, 2) := by decide +kernel
theorem dX10_copies_108 : decode cX10_copies 108 = .ok (.iload_n 2, 1) := by decide +kernel
theorem dX10_copies_109 : decode cX10_copies 109 = .ok (.imul, 1) := by decide +kernel
theorem dX10_copies_110 : decode cX10_copies 110 = .ok (.iload_n 3, 1) := by decide +kernel
theorem dX10_copies_111 : decode cX10_copies 111 = .ok (.iadd, 1) := by decide +kernel
theorem dX10_copies_112 : decode cX10_copies 112 = .ok (.iaload, 1) := by decide +kernel
theorem dX10_copies_113 : decode cX10_copies 113 = .ok (.iastore, 1) := by decide +kernel
theorem dX10_copies_114 : decode cX10_copies 114 = .ok (.aload_n 0, 1) := by decide +kernel
theorem dX10_copies_115 : decode cX10_copies 115 = .ok (.getfield 84, 3) := by decide +kernel
theorem dX10_copies_118 : decode cX10_copies 118 = .ok (.bipush 10, 2) := by decide +kernel
theorem dX10_copies_120 : decode cX10_copies 120 = .ok (.iload_n 1, 1) := by decide +kernel
theorem dX10_copies_121 : decode cX10_copies 121 = .ok (.imul, 1) := by decide +kernel
theorem dX10_copies_122 : decode cX10_copies 122 = .ok (.iload_n 3, 1) := by decide +kernel
theorem dX10_copies_123 : decode cX10_copies 123 = .ok (.iadd, 1) := by decide +kernel
theorem dX10_copies_124 : decode cX10_copies 124 = .ok (.aload_n 0, 1) := by decide +kernel
theorem dX10_copies_125 : decode cX10_copies 125 = .ok (.getfield 84, 3) := by decide +kernel
theorem dX10_copies_128 : decode cX10_copies 128 = .ok (.bipush 10, 2) := by decide +kernel
theorem dX10_copies_130 : decode cX10_copies 130 = .ok (.iload_n 2, 1) := by decide +kernel
theorem dX10_copies_131 : decode cX10_copies 131 = .ok (.imul, 1) := by decide +kernel
theorem dX10_copies_132 : decode cX10_copies 132 = .ok (.iload_n 3, 1) := by decide +kernel
theorem dX10_copies_133 : decode cX10_copies 133 = .ok (.iadd, 1) := by decide +kernel
theorem dX10_copies_134 : decode cX10_copies 134 = .ok (.iaload, 1) := by decide +kernel
theorem dX10_copies_135 : decode cX10_copies 135 = .ok (.iastore, 1) := by decide +kernel
theorem dX10_copies_136 : decode cX10_copies 136 = .ok (.aload_n 0, 1) := by decide +kernel
theorem dX10_copies_137 : decode cX10_copies 137 = .ok (.getfield 87, 3) := by decide +kernel
theorem dX10_copies_140 : decode cX10_copies 140 = .ok (.bipush 10, 2) := by decide +kernel
theorem dX10_copies_142 : decode cX10_copies 142 = .ok (.iload_n 1, 1) := by decide +kernel
theorem dX10_copies_143 : decode cX10_copies 143 = .ok (.imul, 1) := by decide +kernel
theorem dX10_copies_144 : decode cX10_copies 144 = .ok (.iload_n 3, 1) := by decide +kernel
theorem dX10_copies_145 : decode cX10_copies 145 = .ok (.iadd, 1) := by decide +kernel
theorem dX10_copies_146 : decode cX10_copies 146 = .ok (.aload_n 0, 1) := by decide +kernel
theorem dX10_copies_147 : decode cX10_copies 147 = .ok (.getfield 87, 3) := by decide +kernel
theorem dX10_copies_150 : decode cX10_copies 150 = .ok (.bipush 10, 2) := by decide +kernel
theorem dX10_copies_152 : decode cX10_copies 152 = .ok (.iload_n 2, 1) := by decide +kernel
theorem dX10_copies_153 : decode cX10_copies 153 = .ok (.imul, 1) := by decide +kernel
theorem dX10_copies_154 : decode cX10_copies 154 = .ok (.iload_n 3, 1) := by decide +kernel
theorem dX10_copies_155 : decode cX10_copies 155 = .ok (.iadd, 1) := by decide +kernel
theorem dX10_copies_156 : decode cX10_copies 156 = .ok (.iaload, 1) := by decide +kernel
theorem dX10_copies_157 : decode cX10_copies 157 = .ok (.iastore, 1) := by decide +kernel
theorem dX10_copies_158 : decode cX10_copies 158 = .ok (.iinc 3 1, 3) := by decide +kernel
theorem dX10_copies_161 : decode cX10_copies 161 = .ok (.goto (-75), 3) := by decide +kernel
theorem dX10_copies_164 : decode cX10_copies 164 = .ok (.return_, 1) := by decide +kernel
theorem dX10_isFork_0 : decode cX10_isFork 0 = .ok (.iload_n 1, 1) := by decide +kernel
theorem dX10_isFork_1 : decode cX10_isFork 1 = .ok (.ifCond .lt 17, 3) := by decide +kernel
theorem dX10_isFork_4 : decode cX10_isFork 4 = .ok (.iload_n 1, 1) := by decide +kernel
theorem dX10_isFork_5 : decode cX10_isFork 5 = .ok (.aload_n 0, 1) := by decide +kernel
theorem dX10_isFork_6 : decode cX10_isFork 6 = .ok (.getfield 13, 3) := by decide +kernel
theorem dX10_isFork_9 : decode cX10_isFork 9 = .ok (.iconst 0, 1) := by decide +kernel
theorem dX10_isFork_10 : decode cX10_isFork 10 = .ok (.iaload, 1) := by decide +kernel
theorem dX10_isFork_11 : decode cX10_isFork 11 = .ok (.if_icmp .ge 7, 3) := by decide +kernel
theorem dX10_isFork_14 : decode cX10_isFork 14 = .ok (.iconst 1, 1) := by decide +kernel
theorem dX10_isFork_15 : decode cX10_isFork 15 = .ok (.goto 4, 3) := by decide +kernel
theorem dX10_isFork_18 : decode cX10_isFork 18 = .ok (.iconst 0, 1) := by decide +kernel
theorem dX10_isFork_19 : decode cX10_isFork 19 = .ok (.ireturn, 1) := by decide +kernel
theorem dX10_isMotion_0 : decode cX10_isMotion 0 = .ok (.iload_n 1, 1) := by decide +kernel
theorem dX10_isMotion_1 : decode cX10_isMotion 1 = .ok (.ifCond .lt 17, 3) := by decide +kernel
theorem dX10_isMotion_4 : decode cX10_isMotion 4 = .ok (.iload_n 1, 1) := by decide +kernel
theorem dX10_isMotion_5 : decode cX10_isMotion 5 = .ok (.aload_n 0, 1) := by decide +kernel
theorem dX10_isMotion_6 : decode cX10_isMotion 6 = .ok (.getfield 13, 3) := by decide +kernel
theorem dX10_isMotion_9 : decode cX10_isMotion 9 = .ok (.iconst 1, 1) := by decide +kernel
theorem dX10_isMotion_10 : decode cX10_isMotion 10 = .ok (.iaload, 1) := by decide +kernel
theorem dX10_isMotion_11 : decode cX10_isMotion 11 = .ok (.if_icmp .ge 7, 3) := by decide +kernel
theorem dX10_isMotion_14 : decode cX10_isMotion 14 = .ok (.iconst 1, 1) := by decide +kernel
theorem dX10_isMotion_15 : decode cX10_isMotion 15 = .ok (.goto 4, 3) := by decide +kernel
theorem dX10_isMotion_18 : decode cX10_isMotion 18 = .ok (.iconst 0, 1) := by decide +kernel
theorem dX10_isMotion_19 : decode cX10_isMotion 19 = .ok (.ireturn, 1) := by decide +kernel
theorem dX10_isNote_0 : decode cX10_isNote 0 = .ok (.iload_n 0, 1) := by decide +kernel
theorem dX10_isNote_1 : decode cX10_isNote 1 = .ok (.bipush 100, 2) := by decide +kernel
theorem dX10_isNote_3 : decode cX10_isNote 3 = .ok (.if_icmp .lt 14, 3) := by decide +kernel
theorem dX10_isNote_6 : decode cX10_isNote 6 = .ok (.iload_n 0, 1) := by decide +kernel
theorem dX10_isNote_7 : decode cX10_isNote 7 = .ok (.sipush 999, 3) := by decide +kernel
theorem dX10_isNote_10 : decode cX10_isNote 10 = .ok (.if_icmp .gt 7, 3) := by decide +kernel
theorem dX10_isNote_13 : decode cX10_isNote 13 = .ok (.iconst 1, 1) := by decide +kernel
theorem dX10_isNote_14 : decode cX10_isNote 14 = .ok (.goto 4, 3) := by decide +kernel
theorem dX10_isNote_17 : decode cX10_isNote 17 = .ok (.iconst 0, 1) := by decide +kernel
theorem dX10_isNote_18 : decode cX10_isNote 18 = .ok (.ireturn, 1) := by decide +kernel
theorem dX10_wetAt_0 : decode cX10_wetAt 0 = .ok (.aload_n 0, 1) := by decide +kernel
theorem dX10_wetAt_1 : decode cX10_wetAt 1 = .ok (.getfield 13, 3) := by decide +kernel
theorem dX10_wetAt_4 : decode cX10_wetAt 4 = .ok (.iconst 3, 1) := by decide +kernel
theorem dX10_wetAt_5 : decode cX10_wetAt 5 = .ok (.iaload, 1) := by decide +kernel
theorem dX10_wetAt_6 : decode cX10_wetAt 6 = .ok (.ifCond .ne 7, 3) := by decide +kernel
theorem dX10_wetAt_9 : decode cX10_wetAt 9 = .ok (.iconst 0, 1) := by decide +kernel
theorem dX10_wetAt_10 : decode cX10_wetAt 10 = .ok (.goto 16, 3) := by decide +kernel
theorem dX10_wetAt_13 : decode cX10_wetAt 13 = .ok (.aload_n 0, 1) := by decide +kernel
theorem dX10_wetAt_14 : decode cX10_wetAt 14 = .ok (.getfield 40, 3) := by decide +kernel
theorem dX10_wetAt_17 : decode cX10_wetAt 17 = .ok (.iload_n 1, 1) := by decide +kernel
theorem dX10_wetAt_18 : decode cX10_wetAt 18 = .ok (.aload_n 0, 1) := by decide +kernel
theorem dX10_wetAt_19 : decode cX10_wetAt 19 = .ok (.getfield 13, 3) := by decide +kernel
theorem dX10_wetAt_22 : decode cX10_wetAt 22 = .ok (.iconst 3, 1) := by decide +kernel
theorem dX10_wetAt_23 : decode cX10_wetAt 23 = .ok (.iaload, 1) := by decide +kernel
theorem dX10_wetAt_24 : decode cX10_wetAt 24 = .ok (.irem, 1) := by decide +kernel
theorem dX10_wetAt_25 : decode cX10_wetAt 25 = .ok (.iaload, 1) := by decide +kernel
theorem dX10_wetAt_26 : decode cX10_wetAt 26 = .ok (.ireturn, 1) := by decide +kernel
theorem dX10_dampIn_0 : decode cX10_dampIn 0 = .ok (.aload_n 0, 1) := by decide +kernel
theorem dX10_dampIn_1 : decode cX10_dampIn 1 = .ok (.getfield 316, 3) := by decide +kernel
theorem dX10_dampIn_4 : decode cX10_dampIn 4 = .ok (.iconst 1, 1) := by decide +kernel
theorem dX10_dampIn_5 : decode cX10_dampIn 5 = .ok (.if_icmp .ne 7, 3) := by decide +kernel
theorem dX10_dampIn_8 : decode cX10_dampIn 8 = .ok (.iconst 0, 1) := by decide +kernel
theorem dX10_dampIn_9 : decode cX10_dampIn 9 = .ok (.goto 28, 3) := by decide +kernel
theorem dX10_dampIn_12 : decode cX10_dampIn 12 = .ok (.aload_n 0, 1) := by decide +kernel
theorem dX10_dampIn_13 : decode cX10_dampIn 13 = .ok (.getfield 93, 3) := by decide +kernel
theorem dX10_dampIn_16 : decode cX10_dampIn 16 = .ok (.iconst (-1), 1) := by decide +kernel
theorem dX10_dampIn_17 : decode cX10_dampIn 17 = .ok (.if_icmp .eq 10, 3) := by decide +kernel
theorem dX10_dampIn_20 : decode cX10_dampIn 20 = .ok (.aload_n 0, 1) := by decide +kernel
theorem dX10_dampIn_21 : decode cX10_dampIn 21 = .ok (.getfield 93, 3) := by decide +kernel
theorem dX10_dampIn_24 : decode cX10_dampIn 24 = .ok (.goto 13, 3) := by decide +kernel
theorem dX10_dampIn_27 : decode cX10_dampIn 27 = .ok (.aload_n 0, 1) := by decide +kernel
theorem dX10_dampIn_28 : decode cX10_dampIn 28 = .ok (.aload_n 0, 1) := by decide +kernel
theorem dX10_dampIn_29 : decode cX10_dampIn 29 = .ok (.getfield 66, 3) := by decide +kernel
theorem dX10_dampIn_32 : decode cX10_dampIn 32 = .ok (.iload_n 1, 1) := by decide +kernel
theorem dX10_dampIn_33 : decode cX10_dampIn 33 = .ok (.iaload, 1) := by decide +kernel
theorem dX10_dampIn_34 : decode cX10_dampIn 34 = .ok (.invokevirtual 319, 3) := by decide +kernel
theorem dX10_dampIn_37 : decode cX10_dampIn 37 = .ok (.ireturn, 1) := by decide +kernel
theorem dX10_widthIn_0 : decode cX10_widthIn 0 = .ok (.iload_n 1, 1) := by decide +kernel
theorem dX10_widthIn_1 : decode cX10_widthIn 1 = .ok (.aload_n 0, 1) := by decide +kernel
theorem dX10_widthIn_2 : decode cX10_widthIn 2 = .ok (.getfield 96, 3) := by decide +kernel
theorem dX10_widthIn_5 : decode cX10_widthIn 5 = .ok (.if_icmp .ne 10, 3) := by decide +kernel
theorem dX10_widthIn_8 : decode cX10_widthIn 8 = .ok (.aload_n 0, 1) := by decide +kernel
theorem dX10_widthIn_9 : decode cX10_widthIn 9 = .ok (.getfield 322, 3) := by decide +kernel
theorem dX10_widthIn_12 : decode cX10_widthIn 12 = .ok (.goto 9, 3) := by decide +kernel
theorem dX10_widthIn_15 : decode cX10_widthIn 15 = .ok (.aload_n 0, 1) := by decide +kernel
theorem dX10_widthIn_16 : decode cX10_widthIn 16 = .ok (.getfield 22, 3) := by decide +kernel
theorem dX10_widthIn_19 : decode cX10_widthIn 19 = .ok (.iload_n 1, 1) := by decide +kernel
theorem dX10_widthIn_20 : decode cX10_widthIn 20 = .ok (.iaload, 1) := by decide +kernel
theorem dX10_widthIn_21 : decode cX10_widthIn 21 = .ok (.ireturn, 1) := by decide +kernel
theorem dX10_isThere_0 : decode cX10_isThere 0 = .ok (.aload_n 0, 1) := by decide +kernel
theorem dX10_isThere_1 : decode cX10_isThere 1 = .ok (.getfield 316, 3) := by decide +kernel
theorem dX10_isThere_4 : decode cX10_isThere 4 = .ok (.iconst 2, 1) := by decide +kernel
theorem dX10_isThere_5 : decode cX10_isThere 5 = .ok (.if_icmp .ne 11, 3) := by decide +kernel
theorem dX10_isThere_8 : decode cX10_isThere 8 = .ok (.iload_n 1, 1) := by decide +kernel
theorem dX10_isThere_9 : decode cX10_isThere 9 = .ok (.aload_n 0, 1) := by decide +kernel
theorem dX10_isThere_10 : decode cX10_isThere 10 = .ok (.getfield 90, 3) := by decide +kernel
theorem dX10_isThere_13 : decode cX10_isThere 13 = .ok (.if_icmp .eq 7, 3) := by decide +kernel
theorem dX10_isThere_16 : decode cX10_isThere 16 = .ok (.iconst 1, 1) := by decide +kernel
theorem dX10_isThere_17 : decode cX10_isThere 17 = .ok (.goto 4, 3) := by decide +kernel
theorem dX10_isThere_20 : decode cX10_isThere 20 = .ok (.iconst 0, 1) := by decide +kernel
theorem dX10_isThere_21 : decode cX10_isThere 21 = .ok (.ireturn, 1) := by decide +kernel
theorem dX10_isCracked_0 : decode cX10_isCracked 0 = .ok (.aload_n 0, 1) := by decide +kernel
theorem dX10_isCracked_1 : decode cX10_isCracked 1 = .ok (.getfield 316, 3) := by decide +kernel
theorem dX10_isCracked_4 : decode cX10_isCracked 4 = .ok (.iconst 4, 1) := by decide +kernel
theorem dX10_isCracked_5 : decode cX10_isCracked 5 = .ok (.if_icmp .eq 22, 3) := by decide +kernel
theorem dX10_isCracked_8 : decode cX10_isCracked 8 = .ok (.aload_n 0, 1) := by decide +kernel
theorem dX10_isCracked_9 : decode cX10_isCracked 9 = .ok (.getfield 13, 3) := by decide +kernel
theorem dX10_isCracked_12 : decode cX10_isCracked 12 = .ok (.bipush 9, 2) := by decide +kernel
theorem dX10_isCracked_14 : decode cX10_isCracked 14 = .ok (.iaload, 1) := by decide +kernel
theorem dX10_isCracked_15 : decode cX10_isCracked 15 = .ok (.iload_n 1, 1) := by decide +kernel
theorem dX10_isCracked_16 : decode cX10_isCracked 16 = .ok (.ishr, 1) := by decide +kernel
theorem dX10_isCracked_17 : decode cX10_isCracked 17 = .ok (.iconst 1, 1) := by decide +kernel
theorem dX10_isCracked_18 : decode cX10_isCracked 18 = .ok (.iand, 1) := by decide +kernel
theorem dX10_isCracked_19 : decode cX10_isCracked 19 = .ok (.iconst 1, 1) := by decide +kernel
theorem dX10_isCracked_20 : decode cX10_isCracked 20 = .ok (.if_icmp .ne 7, 3) := by decide +kernel
theorem dX10_isCracked_23 : decode cX10_isCracked 23 = .ok (.iconst 1, 1) := by decide +kernel
theorem dX10_isCracked_24 : decode cX10_isCracked 24 = .ok (.goto 4, 3) := by decide +kernel
theorem dX10_isCracked_27 : decode cX10_isCracked 27 = .ok (.iconst 0, 1) := by decide +kernel
theorem dX10_isCracked_28 : decode cX10_isCracked 28 = .ok (.ireturn, 1) := by decide +kernel
theorem dX10_isTouched_0 : decode cX10_isTouched 0 = .ok (.aload_n 0, 1) := by decide +kernel
theorem dX10_isTouched_1 : decode cX10_isTouched 1 = .ok (.getfield 316, 3) := by decide +kernel
theorem dX10_isTouched_4 : decode cX10_isTouched 4 = .ok (.iconst 5, 1) := by decide +kernel
theorem dX10_isTouched_5 : decode cX10_isTouched 5 = .ok (.if_icmp .eq 21, 3) := by decide +kernel
theorem dX10_isTouched_8 : decode cX10_isTouched 8 = .ok (.aload_n 0, 1) := by decide +kernel
theorem dX10_isTouched_9 : decode cX10_isTouched 9 = .ok (.getfield 75, 3) := by decide +kernel
theorem dX10_isTouched_12 : decode cX10_isTouched 12 = .ok (.iload_n 1, 1) := by decide +kernel
theorem dX10_isTouched_13 : decode cX10_isTouched 13 = .ok (.iaload, 1) := by decide +kernel
theorem dX10_isTouched_14 : decode cX10_isTouched 14 = .ok (.iload_n 2, 1) := by decide +kernel
theorem dX10_isTouched_15 : decode cX10_isTouched 15 = .ok (.ishr, 1) := by decide +kernel
theorem dX10_isTouched_16 : decode cX10_isTouched 16 = .ok (.iconst 1, 1) := by decide +kernel
theorem dX10_isTouched_17 : decode cX10_isTouched 17 = .ok (.iand, 1) := by decide +kernel
theorem dX10_isTouched_18 : decode cX10_isTouched 18 = .ok (.iconst 1, 1) := by decide +kernel
theorem dX10_isTouched_19 : decode cX10_isTouched 19 = .ok (.if_icmp .ne 7, 3) := by decide +kernel
theorem dX10_isTouched_22 : decode cX10_isTouched 22 = .ok (.iconst 1, 1) := by decide +kernel
theorem dX10_isTouched_23 : decode cX10_isTouched 23 = .ok (.goto 4, 3) := by decide +kernel
theorem dX10_isTouched_26 : decode cX10_isTouched 26 = .ok (.iconst 0, 1) := by decide +kernel
theorem dX10_isTouched_27 : decode cX10_isTouched 27 = .ok (.ireturn, 1) := by decide +kernel
theorem dX10_wetPitch_0 : decode cX10_wetPitch 0 = .ok (.iconst 1, 1) := by decide +kernel
theorem dX10_wetPitch_1 : decode cX10_wetPitch 1 = .ok (.iload_n 2, 1) := by decide +kernel
theorem dX10_wetPitch_2 : decode cX10_wetPitch 2 = .ok (.aload_n 0, 1) := by decide +kernel
theorem dX10_wetPitch_3 : decode cX10_wetPitch 3 = .ok (.iload_n 1, 1) := by decide +kernel
theorem dX10_wetPitch_4 : decode cX10_wetPitch 4 = .ok (.invokevirtual 325, 3) := by decide +kernel
theorem dX10_wetPitch_7 : decode cX10_wetPitch 7 = .ok (.isub, 1) := by decide +kernel
theorem dX10_wetPitch_8 : decode cX10_wetPitch 8 = .ok (.invokestatic 328, 3) := by decide +kernel
theorem dX10_wetPitch_11 : decode cX10_wetPitch 11 = .ok (.ireturn, 1) := by decide +kernel
theorem dX10_beatsOf_0 : decode cX10_beatsOf 0 = .ok (.aload_n 0, 1) := by decide +kernel
theorem dX10_beatsOf_1 : decode cX10_beatsOf 1 = .ok (.iload_n 1, 1) := by decide +kernel
theorem dX10_beatsOf_2 : decode cX10_beatsOf 2 = .ok (.iload_n 2, 1) := by decide +kernel
theorem dX10_beatsOf_3 : decode cX10_beatsOf 3 = .ok (.invokevirtual 331, 3) := by decide +kernel
theorem dX10_beatsOf_6 : decode cX10_beatsOf 6 = .ok (.istore 4, 2) := by decide +kernel
theorem dX10_beatsOf_8 : decode cX10_beatsOf 8 = .ok (.iload 4, 2) := by decide +kernel
theorem dX10_beatsOf_10 : decode cX10_beatsOf 10 = .ok (.iload_n 3, 1) := by decide +kernel
theorem dX10_beatsOf_11 : decode cX10_beatsOf 11 = .ok (.isub, 1) := by decide +kernel
theorem dX10_beatsOf_12 : decode cX10_beatsOf 12 = .ok (.invokestatic 334, 3) := by decide +kernel
theorem dX10_beatsOf_15 : decode cX10_beatsOf 15 = .ok (.iconst 2, 1) := by decide +kernel
theorem dX10_beatsOf_16 : decode cX10_beatsOf 16 = .ok (.iload 4, 2) := by decide +kernel
theorem dX10_beatsOf_18 : decode cX10_beatsOf 18 = .ok (.imul, 1) := by decide +kernel
theorem dX10_beatsOf_19 : decode cX10_beatsOf 19 = .ok (.iload_n 3, 1) := by decide +kernel
theorem dX10_beatsOf_20 : decode cX10_beatsOf 20 = .ok (.isub, 1) := by decide +kernel
theorem dX10_beatsOf_21 : decode cX10_beatsOf 21 = .ok (.invokestatic 334, 3) := by decide +kernel
theorem dX10_beatsOf_24 : decode cX10_beatsOf 24 = .ok (.iload 4, 2) := by decide +kernel
theorem dX10_beatsOf_26 : decode cX10_beatsOf 26 = .ok (.iconst 2, 1) := by decide +kernel
theorem dX10_beatsOf_27 : decode cX10_beatsOf 27 = .ok (.iload_n 3, 1) := by decide +kernel
theorem dX10_beatsOf_28 : decode cX10_beatsOf 28 = .ok (.imul, 1) := by decide +kernel
theorem dX10_beatsOf_29 : decode cX10_beatsOf 29 = .ok (.isub, 1) := by decide +kernel
theorem dX10_beatsOf_30 : decode cX10_beatsOf 30 = .ok (.invokestatic 334, 3) := by decide +kernel
theorem dX10_beatsOf_33 : decode cX10_beatsOf 33 = .ok (.invokestatic 336, 3) := by decide +kernel
theorem dX10_beatsOf_36 : decode cX10_beatsOf 36 = .ok (.invokestatic 336, 3) := by decide +kernel
theorem dX10_beatsOf_39 : decode cX10_beatsOf 39 = .ok (.ireturn, 1) := by decide +kernel
theorem dX10_calls_0 : decode cX10_calls 0 = .ok (.aload_n 0, 1) := by decide +kernel
theorem dX10_calls_1 : decode cX10_calls 1 = .ok (.getfield 59, 3) := by decide +kernel
theorem dX10_calls_4 : decode cX10_calls 4 = .ok (.iconst 0, 1) := by decide +kernel
theorem dX10_calls_5 : decode cX10_calls 5 = .ok (.iload_n 2, 1) := by decide +kernel
theorem dX10_calls_6 : decode cX10_calls 6 = .ok (.i2l, 1) := by decide +kernel
theorem dX10_calls_7 : decode cX10_calls 7 = .ok (.lastore, 1) := by decide +kernel
theorem dX10_calls_8 : decode cX10_calls 8 = .ok (.aload_n 0, 1) := by decide +kernel
theorem dX10_calls_9 : decode cX10_calls 9 = .ok (.getfield 59, 3) := by decide +kernel
theorem dX10_calls_12 : decode cX10_calls 12 = .ok (.iconst 1, 1) := by decide +kernel
theorem dX10_calls_13 : decode cX10_calls 13 = .ok (.iload_n 3, 1) := by decide +kernel
theorem dX10_calls_14 : decode cX10_calls 14 = .ok (.i2l, 1) := by decide +kernel
theorem dX10_calls_15 : decode cX10_calls 15 = .ok (.lastore, 1) := by decide +kernel
theorem dX10_calls_16 : decode cX10_calls 16 = .ok (.aload_n 0, 1) := by decide +kernel
theorem dX10_calls_17 : decode cX10_calls 17 = .ok (.getfield 59, 3) := by decide +kernel
theorem dX10_calls_20 : decode cX10_calls 20 = .ok (.iconst 2, 1) := by decide +kernel
theorem dX10_calls_21 : decode cX10_calls 21 = .ok (.iload 4, 2) := by decide +kernel
theorem dX10_calls_23 : decode cX10_calls 23 = .ok (.i2l, 1) := by decide +kernel
theorem dX10_calls_24 : decode cX10_calls 24 = .ok (.lastore, 1) := by decide +kernel
theorem dX10_calls_25 : decode cX10_calls 25 = .ok (.aload_n 0, 1) := by decide +kernel
theorem dX10_calls_26 : decode cX10_calls 26 = .ok (.getfield 59, 3) := by decide +kernel
theorem dX10_calls_29 : decode cX10_calls 29 = .ok (.iconst 3, 1) := by decide +kernel
theorem dX10_calls_30 : decode cX10_calls 30 = .ok (.iload 5, 2) := by decide +kernel
theorem dX10_calls_32 : decode cX10_calls 32 = .ok (.i2l, 1) := by decide +kernel
theorem dX10_calls_33 : decode cX10_calls 33 = .ok (.lastore, 1) := by decide +kernel
theorem dX10_calls_34 : decode cX10_calls 34 = .ok (.aload_n 0, 1) := by decide +kernel
theorem dX10_calls_35 : decode cX10_calls 35 = .ok (.getfield 59, 3) := by decide +kernel
theorem dX10_calls_38 : decode cX10_calls 38 = .ok (.iconst 4, 1) := by decide +kernel
theorem dX10_calls_39 : decode cX10_calls 39 = .ok (.iload 6, 2) := by decide +kernel
theorem dX10_calls_41 : decode cX10_calls 41 = .ok (.i2l, 1) := by decide +kernel
theorem dX10_calls_42 : decode cX10_calls 42 = .ok (.lastore, 1) := by decide +kernel
theorem dX10_calls_43 : decode cX10_calls 43 = .ok (.aload_n 0, 1) := by decide +kernel
theorem dX10_calls_44 : decode cX10_calls 44 = .ok (.getfield 59, 3) := by decide +kernel
theorem dX10_calls_47 : decode cX10_calls 47 = .ok (.iconst 5, 1) := by decide +kernel
theorem dX10_calls_48 : decode cX10_calls 48 = .ok (.aload_n 0, 1) := by decide +kernel
theorem dX10_calls_49 : decode cX10_calls 49 = .ok (.iload_n 1, 1) := by decide +kernel
theorem dX10_calls_50 : decode cX10_calls 50 = .ok (.invokevirtual 325, 3) := by decide +kernel
theorem dX10_calls_53 : decode cX10_calls 53 = .ok (.i2l, 1) := by decide +kernel
theorem dX10_calls_54 : decode cX10_calls 54 = .ok (.lastore, 1) := by decide +kernel
theorem dX10_calls_55 : decode cX10_calls 55 = .ok (.aload_n 0, 1) := by decide +kernel
theorem dX10_calls_56 : decode cX10_calls 56 = .ok (.getfield 59, 3) := by decide +kernel
theorem dX10_calls_59 : decode cX10_calls 59 = .ok (.bipush 6, 2) := by decide +kernel
theorem dX10_calls_61 : decode cX10_calls 61 = .ok (.aload_n 0, 1) := by decide +kernel
theorem dX10_calls_62 : decode cX10_calls 62 = .ok (.getfield 66, 3) := by decide +kernel
theorem dX10_calls_65 : decode cX10_calls 65 = .ok (.iload_n 1, 1) := by decide +kernel
theorem dX10_calls_66 : decode cX10_calls 66 = .ok (.iaload, 1) := by decide +kernel
theorem dX10_calls_67 : decode cX10_calls 67 = .ok (.i2l, 1) := by decide +kernel
theorem dX10_calls_68 : decode cX10_calls 68 = .ok (.lastore, 1) := by decide +kernel
theorem dX10_calls_69 : decode cX10_calls 69 = .ok (.return_, 1) := by decide +kernel
theorem dX10_callsHum_0 : decode cX10_callsHum 0 = .ok (.aload_n 0, 1) := by decide +kernel
theorem dX10_callsHum_1 : decode cX10_callsHum 1 = .ok (.iload_n 1, 1) := by decide +kernel
theorem dX10_callsHum_2 : decode cX10_callsHum 2 = .ok (.aload_n 0, 1) := by decide +kernel
theorem dX10_callsHum_3 : decode cX10_callsHum 3 = .ok (.iload_n 1, 1) := by decide +kernel
theorem dX10_callsHum_4 : decode cX10_callsHum 4 = .ok (.iload_n 3, 1) := by decide +kernel
theorem dX10_callsHum_5 : decode cX10_callsHum 5 = .ok (.invokevirtual 331, 3) := by decide +kernel
theorem dX10_callsHum_8 : decode cX10_callsHum 8 = .ok (.iload 4, 2) := by decide +kernel
theorem dX10_callsHum_10 : decode cX10_callsHum 10 = .ok (.aload_n 0, 1) := by decide +kernel
theorem dX10_callsHum_11 : decode cX10_callsHum 11 = .ok (.iload_n 2, 1) := by decide +kernel
theorem dX10_callsHum_12 : decode cX10_callsHum 12 = .ok (.invokevirtual 339, 3) := by decide +kernel
theorem dX10_callsHum_15 : decode cX10_callsHum 15 = .ok (.aload_n 0, 1) := by decide +kernel
theorem dX10_callsHum_16 : decode cX10_callsHum 16 = .ok (.getfield 25, 3) := by decide +kernel
theorem dX10_callsHum_19 : decode cX10_callsHum 19 = .ok (.iload_n 2, 1) := by decide +kernel
theorem dX10_callsHum_20 : decode cX10_callsHum 20 = .ok (.iaload, 1) := by decide +kernel
theorem dX10_callsHum_21 : decode cX10_callsHum 21 = .ok (.aload_n 0, 1) := by decide +kernel
theorem dX10_callsHum_22 : decode cX10_callsHum 22 = .ok (.iload_n 1, 1) := by decide +kernel
theorem dX10_callsHum_23 : decode cX10_callsHum 23 = .ok (.iload_n 3, 1) := by decide +kernel
theorem dX10_callsHum_24 : decode cX10_callsHum 24 = .ok (.iload 4, 2) := by decide +kernel
theorem dX10_callsHum_26 : decode cX10_callsHum 26 = .ok (.invokevirtual 342, 3) := by decide +kernel
theorem dX10_callsHum_29 : decode cX10_callsHum 29 = .ok (.invokevirtual 346, 3) := by decide +kernel
theorem dX10_callsHum_32 : decode cX10_callsHum 32 = .ok (.return_, 1) := by decide +kernel
theorem dX10_callsRust_0 : decode cX10_callsRust 0 = .ok (.aload_n 0, 1) := by decide +kernel
theorem dX10_callsRust_1 : decode cX10_callsRust 1 = .ok (.iload_n 1, 1) := by decide +kernel
theorem dX10_callsRust_2 : decode cX10_callsRust 2 = .ok (.aload_n 0, 1) := by decide +kernel
theorem dX10_callsRust_3 : decode cX10_callsRust 3 = .ok (.iload_n 1, 1) := by decide +kernel
theorem dX10_callsRust_4 : decode cX10_callsRust 4 = .ok (.aload_n 0, 1) := by decide +kernel
theorem dX10_callsRust_5 : decode cX10_callsRust 5 = .ok (.getfield 78, 3) := by decide +kernel
theorem dX10_callsRust_8 : decode cX10_callsRust 8 = .ok (.bipush 8, 2) := by decide +kernel
theorem dX10_callsRust_10 : decode cX10_callsRust 10 = .ok (.iload_n 1, 1) := by decide +kernel
theorem dX10_callsRust_11 : decode cX10_callsRust 11 = .ok (.imul, 1) := by decide +kernel
theorem dX10_callsRust_12 : decode cX10_callsRust 12 = .ok (.iload_n 2, 1) := by decide +kernel
theorem dX10_callsRust_13 : decode cX10_callsRust 13 = .ok (.iadd, 1) := by decide +kernel
theorem dX10_callsRust_14 : decode cX10_callsRust 14 = .ok (.iaload, 1) := by decide +kernel
theorem dX10_callsRust_15 : decode cX10_callsRust 15 = .ok (.invokevirtual 331, 3) := by decide +kernel
theorem dX10_callsRust_18 : decode cX10_callsRust 18 = .ok (.iconst 0, 1) := by decide +kernel
theorem dX10_callsRust_19 : decode cX10_callsRust 19 = .ok (.aload_n 0, 1) := by decide +kernel
theorem dX10_callsRust_20 : decode cX10_callsRust 20 = .ok (.iload_n 2, 1) := by decide +kernel
theorem dX10_callsRust_21 : decode cX10_callsRust 21 = .ok (.invokevirtual 339, 3) := by decide +kernel
theorem dX10_callsRust_24 : decode cX10_callsRust 24 = .ok (.aload_n 0, 1) := by decide +kernel
theorem dX10_callsRust_25 : decode cX10_callsRust 25 = .ok (.getfield 25, 3) := by decide +kernel
theorem dX10_callsRust_28 : decode cX10_callsRust 28 = .ok (.iload_n 2, 1) := by decide +kernel
theorem dX10_callsRust_29 : decode cX10_callsRust 29 = .ok (.iaload, 1) := by decide +kernel
theorem dX10_callsRust_30 : decode cX10_callsRust 30 = .ok (.iconst 0, 1) := by decide +kernel
theorem dX10_callsRust_31 : decode cX10_callsRust 31 = .ok (.invokevirtual 346, 3) := by decide +kernel
theorem dX10_callsRust_34 : decode cX10_callsRust 34 = .ok (.return_, 1) := by decide +kernel
theorem dX10_within_0 : decode cX10_within 0 = .ok (.aload_n 0, 1) := by decide +kernel
theorem dX10_within_1 : decode cX10_within 1 = .ok (.iload_n 1, 1) := by decide +kernel
theorem dX10_within_2 : decode cX10_within 2 = .ok (.invokevirtual 350, 3) := by decide +kernel
theorem dX10_within_5 : decode cX10_within 5 = .ok (.ifCond .eq 11, 3) := by decide +kernel
theorem dX10_within_8 : decode cX10_within 8 = .ok (.aload_n 0, 1) := by decide +kernel
theorem dX10_within_9 : decode cX10_within 9 = .ok (.iload_n 1, 1) := by decide +kernel
theorem dX10_within_10 : decode cX10_within 10 = .ok (.invokevirtual 353, 3) := by decide +kernel
theorem dX10_within_13 : decode cX10_within 13 = .ok (.ifCond .ne 5, 3) := by decide +kernel
theorem dX10_within_16 : decode cX10_within 16 = .ok (.iload_n 3, 1) := by decide +kernel
theorem dX10_within_17 : decode cX10_within 17 = .ok (.ireturn, 1) := by decide +kernel
theorem dX10_within_18 : decode cX10_within 18 = .ok (.lconst 0, 1) := by decide +kernel
theorem dX10_within_19 : decode cX10_within 19 = .ok (.iload_n 2, 1) := by decide +kernel
theorem dX10_within_20 : decode cX10_within 20 = .ok (.i2l, 1) := by decide +kernel
theorem dX10_within_21 : decode cX10_within 21 = .ok (.aload_n 0, 1) := by decide +kernel
theorem dX10_within_22 : decode cX10_within 22 = .ok (.getfield 63, 3) := by decide +kernel
theorem dX10_within_25 : decode cX10_within 25 = .ok (.iconst 0, 1) := by decide +kernel
theorem dX10_within_26 : decode cX10_within 26 = .ok (.laload, 1) := by decide +kernel
theorem dX10_within_27 : decode cX10_within 27 = .ok (.invokestatic 356, 3) := by decide +kernel
theorem dX10_within_30 : decode cX10_within 30 = .ok (.invokestatic 359, 3) := by decide +kernel
theorem dX10_within_33 : decode cX10_within 33 = .ok (.l2i, 1) := by decide +kernel
theorem dX10_within_34 : decode cX10_within 34 = .ok (.ireturn, 1) := by decide +kernel
theorem dX10_loudAt_0 : decode cX10_loudAt 0 = .ok (.aload_n 0, 1) := by decide +kernel
theorem dX10_loudAt_1 : decode cX10_loudAt 1 = .ok (.iload_n 1, 1) := by decide +kernel
theorem dX10_loudAt_2 : decode cX10_loudAt 2 = .ok (.iload_n 2, 1) := by decide +kernel
theorem dX10_loudAt_3 : decode cX10_loudAt 3 = .ok (.iload_n 3, 1) := by decide +kernel
theorem dX10_loudAt_4 : decode cX10_loudAt 4 = .ok (.iload 4, 2) := by decide +kernel
theorem dX10_loudAt_6 : decode cX10_loudAt 6 = .ok (.invokevirtual 361, 3) := by decide +kernel
theorem dX10_loudAt_9 : decode cX10_loudAt 9 = .ok (.aload_n 0, 1) := by decide +kernel
theorem dX10_loudAt_10 : decode cX10_loudAt 10 = .ok (.iload_n 2, 1) := by decide +kernel
theorem dX10_loudAt_11 : decode cX10_loudAt 11 = .ok (.invokevirtual 365, 3) := by decide +kernel
theorem dX10_loudAt_14 : decode cX10_loudAt 14 = .ok (.ifCond .ne 19, 3) := by decide +kernel
theorem dX10_loudAt_17 : decode cX10_loudAt 17 = .ok (.aload_n 0, 1) := by decide +kernel
theorem dX10_loudAt_18 : decode cX10_loudAt 18 = .ok (.iload_n 1, 1) := by decide +kernel
theorem dX10_loudAt_19 : decode cX10_loudAt 19 = .ok (.iload_n 3, 1) := by decide +kernel
theorem dX10_loudAt_20 : decode cX10_loudAt 20 = .ok (.iload 4, 2) := by decide +kernel
theorem dX10_loudAt_22 : decode cX10_loudAt 22 = .ok (.invokevirtual 342, 3) := by decide +kernel
theorem dX10_loudAt_25 : decode cX10_loudAt 25 = .ok (.aload_n 0, 1) := by decide +kernel
theorem dX10_loudAt_26 : decode cX10_loudAt 26 = .ok (.iload_n 2, 1) := by decide +kernel
theorem dX10_loudAt_27 : decode cX10_loudAt 27 = .ok (.invokevirtual 339, 3) := by decide +kernel
theorem dX10_loudAt_30 : decode cX10_loudAt 30 = .ok (.if_icmp .gt 7, 3) := by decide +kernel
theorem dX10_loudAt_33 : decode cX10_loudAt 33 = .ok (.iconst 1, 1) := by decide +kernel
theorem dX10_loudAt_34 : decode cX10_loudAt 34 = .ok (.goto 4, 3) := by decide +kernel
theorem dX10_loudAt_37 : decode cX10_loudAt 37 = .ok (.iconst 0, 1) := by decide +kernel
theorem dX10_loudAt_38 : decode cX10_loudAt 38 = .ok (.istore 5, 2) := by decide +kernel
theorem dX10_loudAt_40 : decode cX10_loudAt 40 = .ok (.aload_n 0, 1) := by decide +kernel
theorem dX10_loudAt_41 : decode cX10_loudAt 41 = .ok (.iconst 0, 1) := by decide +kernel
theorem dX10_loudAt_42 : decode cX10_loudAt 42 = .ok (.bipush 99, 2) := by decide +kernel
theorem dX10_loudAt_44 : decode cX10_loudAt 44 = .ok (.iload 5, 2) := by decide +kernel
theorem dX10_loudAt_46 : decode cX10_loudAt 46 = .ok (.ifCond .eq 12, 3) := by decide +kernel
theorem dX10_loudAt_49 : decode cX10_loudAt 49 = .ok (.aload_n 0, 1) := by decide +kernel
theorem dX10_loudAt_50 : decode cX10_loudAt 50 = .ok (.getfield 25, 3) := by decide +kernel
theorem dX10_loudAt_53 : decode cX10_loudAt 53 = .ok (.iload_n 2, 1) := by decide +kernel
theorem dX10_loudAt_54 : decode cX10_loudAt 54 = .ok (.iaload, 1) := by decide +kernel
theorem dX10_loudAt_55 : decode cX10_loudAt 55 = .ok (.goto 4, 3) := by decide +kernel
theorem dX10_loudAt_58 : decode cX10_loudAt 58 = .ok (.iconst 0, 1) := by decide +kernel
theorem dX10_loudAt_59 : decode cX10_loudAt 59 = .ok (.invokevirtual 368, 3) := by decide +kernel
theorem dX10_loudAt_62 : decode cX10_loudAt 62 = .ok (.ireturn, 1) := by decide +kernel
theorem dX10_humOf_0 : decode cX10_humOf 0 = .ok (.aload_n 0, 1) := by decide +kernel
theorem dX10_humOf_1 : decode cX10_humOf 1 = .ok (.iload_n 2, 1) := by decide +kernel
theorem dX10_humOf_2 : decode cX10_humOf 2 = .ok (.invokevirtual 371, 3) := by decide +kernel
theorem dX10_humOf_5 : decode cX10_humOf 5 = .ok (.ifCond .eq 12, 3) := by decide +kernel
theorem dX10_humOf_8 : decode cX10_humOf 8 = .ok (.aload_n 0, 1) := by decide +kernel
theorem dX10_humOf_9 : decode cX10_humOf 9 = .ok (.iload_n 1, 1) := by decide +kernel
theorem dX10_humOf_10 : decode cX10_humOf 10 = .ok (.iload_n 2, 1) := by decide +kernel
theorem dX10_humOf_11 : decode cX10_humOf 11 = .ok (.invokevirtual 374, 3) := by decide +kernel
theorem dX10_humOf_14 : decode cX10_humOf 14 = .ok (.ifCond .eq 7, 3) := by decide +kernel
theorem dX10_humOf_17 : decode cX10_humOf 17 = .ok (.iconst 0, 1) := by decide +kernel
theorem dX10_humOf_18 : decode cX10_humOf 18 = .ok (.goto 21, 3) := by decide +kernel
theorem dX10_humOf_21 : decode cX10_humOf 21 = .ok (.aload_n 0, 1) := by decide +kernel
theorem dX10_humOf_22 : decode cX10_humOf 22 = .ok (.iload_n 1, 1) := by decide +kernel
theorem dX10_humOf_23 : decode cX10_humOf 23 = .ok (.iload_n 2, 1) := by decide +kernel
theorem dX10_humOf_24 : decode cX10_humOf 24 = .ok (.aload_n 0, 1) := by decide +kernel
theorem dX10_humOf_25 : decode cX10_humOf 25 = .ok (.getfield 78, 3) := by decide +kernel
theorem dX10_humOf_28 : decode cX10_humOf 28 = .ok (.bipush 8, 2) := by decide +kernel
theorem dX10_humOf_30 : decode cX10_humOf 30 = .ok (.iload_n 1, 1) := by decide +kernel
theorem dX10_humOf_31 : decode cX10_humOf 31 = .ok (.imul, 1) := by decide +kernel
theorem dX10_humOf_32 : decode cX10_humOf 32 = .ok (.iload_n 2, 1) := by decide +kernel
theorem dX10_humOf_33 : decode cX10_humOf 33 = .ok (.iadd, 1) := by decide +kernel
theorem dX10_humOf_34 : decode cX10_humOf 34 = .ok (.iaload, 1) := by decide +kernel
theorem dX10_humOf_35 : decode cX10_humOf 35 = .ok (.iload_n 3, 1) := by decide +kernel
theorem dX10_humOf_36 : decode cX10_humOf 36 = .ok (.invokevirtual 378, 3) := by decide +kernel
theorem dX10_humOf_39 : decode cX10_humOf 39 = .ok (.ireturn, 1) := by decide +kernel
theorem dX10_humAll_0 : decode cX10_humAll 0 = .ok (.iconst 0, 1) := by decide +kernel
theorem dX10_humAll_1 : decode cX10_humAll 1 = .ok (.istore_n 3, 1) := by decide +kernel
theorem dX10_humAll_2 : decode cX10_humAll 2 = .ok (.iconst 0, 1) := by decide +kernel
theorem dX10_humAll_3 : decode cX10_humAll 3 = .ok (.istore 4, 2) := by decide +kernel
theorem dX10_humAll_5 : decode cX10_humAll 5 = .ok (.iload 4, 2) := by decide +kernel
theorem dX10_humAll_7 : decode cX10_humAll 7 = .ok (.aload_n 0, 1) := by decide +kernel
theorem dX10_humAll_8 : decode cX10_humAll 8 = .ok (.getfield 13, 3) := by decide +kernel
theorem dX10_humAll_11 : decode cX10_humAll 11 = .ok (.iconst 0, 1) := by decide +kernel
theorem dX10_humAll_12 : decode cX10_humAll 12 = .ok (.iaload, 1) := by decide +kernel
theorem dX10_humAll_13 : decode cX10_humAll 13 = .ok (.if_icmp .ge 20, 3) := by decide +kernel
theorem dX10_humAll_16 : decode cX10_humAll 16 = .ok (.iload_n 3, 1) := by decide +kernel
theorem dX10_humAll_17 : decode cX10_humAll 17 = .ok (.aload_n 0, 1) := by decide +kernel
theorem dX10_humAll_18 : decode cX10_humAll 18 = .ok (.iload_n 1, 1) := by decide +kernel
theorem dX10_humAll_19 : decode cX10_humAll 19 = .ok (.iload 4, 2) := by decide +kernel
theorem dX10_humAll_21 : decode cX10_humAll 21 = .ok (.iload_n 2, 1) := by decide +kernel
theorem dX10_humAll_22 : decode cX10_humAll 22 = .ok (.invokevirtual 382, 3) := by decide +kernel
theorem dX10_humAll_25 : decode cX10_humAll 25 = .ok (.iadd, 1) := by decide +kernel
theorem dX10_humAll_26 : decode cX10_humAll 26 = .ok (.istore_n 3, 1) := by decide +kernel
theorem dX10_humAll_27 : decode cX10_humAll 27 = .ok (.iinc 4 1, 3) := by decide +kernel
theorem dX10_humAll_30 : decode cX10_humAll 30 = .ok (.goto (-25), 3) := by decide +kernel
theorem dX10_humAll_33 : decode cX10_humAll 33 = .ok (.iload_n 3, 1) := by decide +kernel
theorem dX10_humAll_34 : decode cX10_humAll 34 = .ok (.ireturn, 1) := by decide +kernel
theorem dX10_passes_0 : decode cX10_passes 0 = .ok (.aload_n 0, 1) := by decide +kernel
theorem dX10_passes_1 : decode cX10_passes 1 = .ok (.iload_n 1, 1) := by decide +kernel
theorem dX10_passes_2 : decode cX10_passes 2 = .ok (.iconst 0, 1) := by decide +kernel
theorem dX10_passes_3 : decode cX10_passes 3 = .ok (.iload_n 2, 1) := by decide +kernel
theorem dX10_passes_4 : decode cX10_passes 4 = .ok (.iconst 0, 1) := by decide +kernel
theorem dX10_passes_5 : decode cX10_passes 5 = .ok (.iload_n 3, 1) := by decide +kernel
theorem dX10_passes_6 : decode cX10_passes 6 = .ok (.iconst 0, 1) := by decide +kernel
theorem dX10_passes_7 : decode cX10_passes 7 = .ok (.invokevirtual 346, 3) := by decide +kernel
theorem dX10_passes_10 : decode cX10_passes 10 = .ok (.aload_n 0, 1) := by decide +kernel
theorem dX10_passes_11 : decode cX10_passes 11 = .ok (.iconst 2, 1) := by decide +kernel
theorem dX10_passes_12 : decode cX10_passes 12 = .ok (.invokevirtual 350, 3) := by decide +kernel
theorem dX10_passes_15 : decode cX10_passes 15 = .ok (.ifCond .eq 30, 3) := by decide +kernel
theorem dX10_passes_18 : decode cX10_passes 18 = .ok (.aload_n 0, 1) := by decide +kernel
theorem dX10_passes_19 : decode cX10_passes 19 = .ok (.iconst 2, 1) := by decide +kernel
theorem dX10_passes_20 : decode cX10_passes 20 = .ok (.invokevirtual 353, 3) := by decide +kernel
theorem dX10_passes_23 : decode cX10_passes 23 = .ok (.ifCond .eq 22, 3) := by decide +kernel
theorem dX10_passes_26 : decode cX10_passes 26 = .ok (.aload_n 0, 1) := by decide +kernel
theorem dX10_passes_27 : decode cX10_passes 27 = .ok (.getfield 63, 3) := by decide +kernel
theorem dX10_passes_30 : decode cX10_passes 30 = .ok (.iconst 0, 1) := by decide +kernel
theorem dX10_passes_31 : decode cX10_passes 31 = .ok (.laload, 1) := by decide +kernel
theorem dX10_passes_32 : decode cX10_passes 32 = .ok (.lconst 0, 1) := by decide +kernel
theorem dX10_passes_33 : decode cX10_passes 33 = .ok (.lcmp, 1) := by decide +kernel
theorem dX10_passes_34 : decode cX10_passes 34 = .ok (.ifCond .eq 7, 3) := by decide +kernel
theorem dX10_passes_37 : decode cX10_passes 37 = .ok (.iconst 1, 1) := by decide +kernel
theorem dX10_passes_38 : decode cX10_passes 38 = .ok (.goto 22, 3) := by decide +kernel
theorem dX10_passes_41 : decode cX10_passes 41 = .ok (.iconst 0, 1) := by decide +kernel
theorem dX10_passes_42 : decode cX10_passes 42 = .ok (.goto 18, 3) := by decide +kernel
theorem dX10_passes_45 : decode cX10_passes 45 = .ok (.iload_n 3, 1) := by decide +kernel
theorem dX10_passes_46 : decode cX10_passes 46 = .ok (.aload_n 0, 1) := by decide +kernel
theorem dX10_passes_47 : decode cX10_passes 47 = .ok (.getfield 13, 3) := by decide +kernel
theorem dX10_passes_50 : decode cX10_passes 50 = .ok (.iconst 2, 1) := by decide +kernel
theorem dX10_passes_51 : decode cX10_passes 51 = .ok (.iaload, 1) := by decide +kernel
theorem dX10_passes_52 : decode cX10_passes 52 = .ok (.if_icmp .lt 7, 3) := by decide +kernel
theorem dX10_passes_55 : decode cX10_passes 55 = .ok (.iconst 1, 1) := by decide +kernel
theorem dX10_passes_56 : decode cX10_passes 56 = .ok (.goto 4, 3) := by decide +kernel
theorem dX10_passes_59 : decode cX10_passes 59 = .ok (.iconst 0, 1) := by decide +kernel
theorem dX10_passes_60 : decode cX10_passes 60 = .ok (.ireturn, 1) := by decide +kernel
theorem dX10_strikes_0 : decode cX10_strikes 0 = .ok (.bipush 10, 2) := by decide +kernel
theorem dX10_strikes_2 : decode cX10_strikes 2 = .ok (.iload_n 1, 1) := by decide +kernel
theorem dX10_strikes_3 : decode cX10_strikes 3 = .ok (.imul, 1) := by decide +kernel
theorem dX10_strikes_4 : decode cX10_strikes 4 = .ok (.iload_n 2, 1) := by decide +kernel
theorem dX10_strikes_5 : decode cX10_strikes 5 = .ok (.iadd, 1) := by decide +kernel
theorem dX10_strikes_6 : decode cX10_strikes 6 = .ok (.istore_n 3, 1) := by decide +kernel
theorem dX10_strikes_7 : decode cX10_strikes 7 = .ok (.aload_n 0, 1) := by decide +kernel
theorem dX10_strikes_8 : decode cX10_strikes 8 = .ok (.getfield 87, 3) := by decide +kernel
theorem dX10_strikes_11 : decode cX10_strikes 11 = .ok (.iload_n 3, 1) := by decide +kernel
theorem dX10_strikes_12 : decode cX10_strikes 12 = .ok (.aload_n 0, 1) := by decide +kernel
theorem dX10_strikes_13 : decode cX10_strikes 13 = .ok (.iload_n 1, 1) := by decide +kernel
theorem dX10_strikes_14 : decode cX10_strikes 14 = .ok (.aload_n 0, 1) := by decide +kernel
theorem dX10_strikes_15 : decode cX10_strikes 15 = .ok (.getfield 34, 3) := by decide +kernel
theorem dX10_strikes_18 : decode cX10_strikes 18 = .ok (.iload_n 2, 1) := by decide +kernel
theorem dX10_strikes_19 : decode cX10_strikes 19 = .ok (.iaload, 1) := by decide +kernel
theorem dX10_strikes_20 : decode cX10_strikes 20 = .ok (.invokevirtual 385, 3) := by decide +kernel
theorem dX10_strikes_23 : decode cX10_strikes 23 = .ok (.iastore, 1) := by decide +kernel
theorem dX10_strikes_24 : decode cX10_strikes 24 = .ok (.aload_n 0, 1) := by decide +kernel
theorem dX10_strikes_25 : decode cX10_strikes 25 = .ok (.getfield 84, 3) := by decide +kernel
theorem dX10_strikes_28 : decode cX10_strikes 28 = .ok (.iload_n 3, 1) := by decide +kernel
theorem dX10_strikes_29 : decode cX10_strikes 29 = .ok (.aload_n 0, 1) := by decide +kernel
theorem dX10_strikes_30 : decode cX10_strikes 30 = .ok (.iload_n 1, 1) := by decide +kernel
theorem dX10_strikes_31 : decode cX10_strikes 31 = .ok (.aload_n 0, 1) := by decide +kernel
theorem dX10_strikes_32 : decode cX10_strikes 32 = .ok (.getfield 34, 3) := by decide +kernel
theorem dX10_strikes_35 : decode cX10_strikes 35 = .ok (.iload_n 2, 1) := by decide +kernel
theorem dX10_strikes_36 : decode cX10_strikes 36 = .ok (.iaload, 1) := by decide +kernel
theorem dX10_strikes_37 : decode cX10_strikes 37 = .ok (.aload_n 0, 1) := by decide +kernel
theorem dX10_strikes_38 : decode cX10_strikes 38 = .ok (.getfield 87, 3) := by decide +kernel
theorem dX10_strikes_41 : decode cX10_strikes 41 = .ok (.iload_n 3, 1) := by decide +kernel
theorem dX10_strikes_42 : decode cX10_strikes 42 = .ok (.iaload, 1) := by decide +kernel
theorem dX10_strikes_43 : decode cX10_strikes 43 = .ok (.invokevirtual 388, 3) := by decide +kernel
theorem dX10_strikes_46 : decode cX10_strikes 46 = .ok (.ifCond .eq 7, 3) := by decide +kernel
theorem dX10_strikes_49 : decode cX10_strikes 49 = .ok (.iconst 1, 1) := by decide +kernel
theorem dX10_strikes_50 : decode cX10_strikes 50 = .ok (.goto 4, 3) := by decide +kernel
theorem dX10_strikes_53 : decode cX10_strikes 53 = .ok (.iconst 0, 1) := by decide +kernel
theorem dX10_strikes_54 : decode cX10_strikes 54 = .ok (.iastore, 1) := by decide +kernel
theorem dX10_strikes_55 : decode cX10_strikes 55 = .ok (.return_, 1) := by decide +kernel
theorem dX10_dayGoes_0 : decode cX10_dayGoes 0 = .ok (.iconst 0, 1) := by decide +kernel
theorem dX10_dayGoes_1 : decode cX10_dayGoes 1 = .ok (.istore_n 2, 1) := by decide +kernel
theorem dX10_dayGoes_2 : decode cX10_dayGoes 2 = .ok (.iload_n 2, 1) := by decide +kernel
theorem dX10_dayGoes_3 : decode cX10_dayGoes 3 = .ok (.aload_n 0, 1) := by decide +kernel
theorem dX10_dayGoes_4 : decode cX10_dayGoes 4 = .ok (.getfield 13, 3) := by decide +kernel
theorem dX10_dayGoes_7 : decode cX10_dayGoes 7 = .ok (.iconst 1, 1) := by decide +kernel
theorem dX10_dayGoes_8 : decode cX10_dayGoes 8 = .ok (.iaload, 1) := by decide +kernel
theorem dX10_dayGoes_9 : decode cX10_dayGoes 9 = .ok (.if_icmp .ge 47, 3) := by decide +kernel
theorem dX10_dayGoes_12 : decode cX10_dayGoes 12 = .ok (.bipush 10, 2) := by decide +kernel
theorem dX10_dayGoes_14 : decode cX10_dayGoes 14 = .ok (.iload_n 1, 1) := by decide +kernel
theorem dX10_dayGoes_15 : decode cX10_dayGoes 15 = .ok (.imul, 1) := by decide +kernel
theorem dX10_dayGoes_16 : decode cX10_dayGoes 16 = .ok (.iload_n 2, 1) := by decide +kernel
theorem dX10_dayGoes_17 : decode cX10_dayGoes 17 = .ok (.iadd, 1) := by decide +kernel
theorem dX10_dayGoes_18 : decode cX10_dayGoes 18 = .ok (.istore_n 3, 1) := by decide +kernel
theorem dX10_dayGoes_19 : decode cX10_dayGoes 19 = .ok (.aload_n 0, 1) := by decide +kernel
theorem dX10_dayGoes_20 : decode cX10_dayGoes 20 = .ok (.getfield 84, 3) := by decide +kernel
theorem dX10_dayGoes_23 : decode cX10_dayGoes 23 = .ok (.iload_n 3, 1) := by decide +kernel
theorem dX10_dayGoes_24 : decode cX10_dayGoes 24 = .ok (.iaload, 1) := by decide +kernel
theorem dX10_dayGoes_25 : decode cX10_dayGoes 25 = .ok (.iconst (-1), 1) := by decide +kernel
theorem dX10_dayGoes_26 : decode cX10_dayGoes 26 = .ok (.if_icmp .ne 24, 3) := by decide +kernel
theorem dX10_dayGoes_29 : decode cX10_dayGoes 29 = .ok (.aload_n 0, 1) := by decide +kernel
theorem dX10_dayGoes_30 : decode cX10_dayGoes 30 = .ok (.getfield 81, 3) := by decide +kernel
theorem dX10_dayGoes_33 : decode cX10_dayGoes 33 = .ok (.iload_n 3, 1) := by decide +kernel
theorem dX10_dayGoes_34 : decode cX10_dayGoes 34 = .ok (.iaload, 1) := by decide +kernel
theorem dX10_dayGoes_35 : decode cX10_dayGoes 35 = .ok (.aload_n 0, 1) := by decide +kernel
theorem dX10_dayGoes_36 : decode cX10_dayGoes 36 = .ok (.getfield 66, 3) := by decide +kernel
theorem dX10_dayGoes_39 : decode cX10_dayGoes 39 = .ok (.iload_n 1, 1) := by decide +kernel
theorem dX10_dayGoes_40 : decode cX10_dayGoes 40 = .ok (.iaload, 1) := by decide +kernel
theorem dX10_dayGoes_41 : decode cX10_dayGoes 41 = .ok (.if_icmp .ne 9, 3) := by decide +kernel
theorem dX10_dayGoes_44 : decode cX10_dayGoes 44 = .ok (.aload_n 0, 1) := by decide +kernel
theorem dX10_dayGoes_45 : decode cX10_dayGoes 45 = .ok (.iload_n 1, 1) := by decide +kernel
theorem dX10_dayGoes_46 : decode cX10_dayGoes 46 = .ok (.iload_n 2, 1) := by decide +kernel
theorem dX10_dayGoes_47 : decode cX10_dayGoes 47 = .ok (.invokevirtual 392, 3) := by decide +kernel
theorem dX10_dayGoes_50 : decode cX10_dayGoes 50 = .ok (.iinc 2 1, 3) := by decide +kernel
theorem dX10_dayGoes_53 : decode cX10_dayGoes 53 = .ok (.goto (-51), 3) := by decide +kernel
theorem dX10_dayGoes_56 : decode cX10_dayGoes 56 = .ok (.iconst 0, 1) := by decide +kernel
theorem dX10_dayGoes_57 : decode cX10_dayGoes 57 = .ok (.istore_n 2, 1) := by decide +kernel
theorem dX10_dayGoes_58 : decode cX10_dayGoes 58 = .ok (.iload_n 2, 1) := by decide +kernel
theorem dX10_dayGoes_59 : decode cX10_dayGoes 59 = .ok (.aload_n 0, 1) := by decide +kernel
theorem dX10_dayGoes_60 : decode cX10_dayGoes 60 = .ok (.getfield 13, 3) := by decide +kernel
theorem dX10_dayGoes_63 : decode cX10_dayGoes 63 = .ok (.iconst 0, 1) := by decide +kernel
theorem dX10_dayGoes_64 : decode cX10_dayGoes 64 = .ok (.iaload, 1) := by decide +kernel
theorem dX10_dayGoes_65 : decode cX10_dayGoes 65 = .ok (.if_icmp .ge 62, 3) := by decide +kernel
theorem dX10_dayGoes_68 : decode cX10_dayGoes 68 = .ok (.aload_n 0, 1) := by decide +kernel
theorem dX10_dayGoes_69 : decode cX10_dayGoes 69 = .ok (.getfield 316, 3) := by decide +kernel
theorem dX10_dayGoes_72 : decode cX10_dayGoes 72 = .ok (.iconst 3, 1) := by decide +kernel
theorem dX10_dayGoes_73 : decode cX10_dayGoes 73 = .ok (.if_icmp .eq 54, 3) := by decide +kernel
theorem dX10_dayGoes_76 : decode cX10_dayGoes 76 = .ok (.aload_n 0, 1) := by decide +kernel
theorem dX10_dayGoes_77 : decode cX10_dayGoes 77 = .ok (.iload_n 1, 1) := by decide +kernel
theorem dX10_dayGoes_78 : decode cX10_dayGoes 78 = .ok (.iload_n 2, 1) := by decide +kernel
theorem dX10_dayGoes_79 : decode cX10_dayGoes 79 = .ok (.invokevirtual 395, 3) := by decide +kernel
theorem dX10_dayGoes_82 : decode cX10_dayGoes 82 = .ok (.bipush 8, 2) := by decide +kernel
theorem dX10_dayGoes_84 : decode cX10_dayGoes 84 = .ok (.iload_n 1, 1) := by decide +kernel
theorem dX10_dayGoes_85 : decode cX10_dayGoes 85 = .ok (.imul, 1) := by decide +kernel
theorem dX10_dayGoes_86 : decode cX10_dayGoes 86 = .ok (.iload_n 2, 1) := by decide +kernel
theorem dX10_dayGoes_87 : decode cX10_dayGoes 87 = .ok (.iadd, 1) := by decide +kernel
theorem dX10_dayGoes_88 : decode cX10_dayGoes 88 = .ok (.istore_n 3, 1) := by decide +kernel
theorem dX10_dayGoes_89 : decode cX10_dayGoes 89 = .ok (.aload_n 0, 1) := by decide +kernel
theorem dX10_dayGoes_90 : decode cX10_dayGoes 90 = .ok (.getfield 78, 3) := by decide +kernel
theorem dX10_dayGoes_93 : decode cX10_dayGoes 93 = .ok (.iload_n 3, 1) := by decide +kernel
theorem dX10_dayGoes_94 : decode cX10_dayGoes 94 = .ok (.bipush 100, 2) := by decide +kernel
theorem dX10_dayGoes_96 : decode cX10_dayGoes 96 = .ok (.aload_n 0, 1) := by decide +kernel
theorem dX10_dayGoes_97 : decode cX10_dayGoes 97 = .ok (.getfield 78, 3) := by decide +kernel
theorem dX10_dayGoes_100 : decode cX10_dayGoes 100 = .ok (.iload_n 3, 1) := by decide +kernel
theorem dX10_dayGoes_101 : decode cX10_dayGoes 101 = .ok (.iaload, 1) := by decide +kernel
theorem dX10_dayGoes_102 : decode cX10_dayGoes 102 = .ok (.aload_n 0, 1) := by decide +kernel
theorem dX10_dayGoes_103 : decode cX10_dayGoes 103 = .ok (.iconst 1, 1) := by decide +kernel
theorem dX10_dayGoes_104 : decode cX10_dayGoes 104 = .ok (.bipush 9, 2) := by decide +kernel
theorem dX10_dayGoes_106 : decode cX10_dayGoes 106 = .ok (.aload_n 0, 1) := by decide +kernel
theorem dX10_dayGoes_107 : decode cX10_dayGoes 107 = .ok (.getfield 13, 3) := by decide +kernel
theorem dX10_dayGoes_110 : decode cX10_dayGoes 110 = .ok (.bipush 6, 2) := by decide +kernel
theorem dX10_dayGoes_112 : decode cX10_dayGoes 112 = .ok (.iaload, 1) := by decide +kernel
theorem dX10_dayGoes_113 : decode cX10_dayGoes 113 = .ok (.invokevirtual 368, 3) := by decide +kernel
theorem dX10_dayGoes_116 : decode cX10_dayGoes 116 = .ok (.isub, 1) := by decide +kernel
theorem dX10_dayGoes_117 : decode cX10_dayGoes 117 = .ok (.invokestatic 328, 3) := by decide +kernel
theorem dX10_dayGoes_120 : decode cX10_dayGoes 120 = .ok (.iastore, 1) := by decide +kernel
theorem dX10_dayGoes_121 : decode cX10_dayGoes 121 = .ok (.iinc 2 1, 3) := by decide +kernel
theorem dX10_dayGoes_124 : decode cX10_dayGoes 124 = .ok (.goto (-66), 3) := by decide +kernel
theorem dX10_dayGoes_127 : decode cX10_dayGoes 127 = .ok (.aload_n 0, 1) := by decide +kernel
theorem dX10_dayGoes_128 : decode cX10_dayGoes 128 = .ok (.getfield 75, 3) := by decide +kernel
theorem dX10_dayGoes_131 : decode cX10_dayGoes 131 = .ok (.iload_n 1, 1) := by decide +kernel
theorem dX10_dayGoes_132 : decode cX10_dayGoes 132 = .ok (.iconst 0, 1) := by decide +kernel
theorem dX10_dayGoes_133 : decode cX10_dayGoes 133 = .ok (.iastore, 1) := by decide +kernel
theorem dX10_dayGoes_134 : decode cX10_dayGoes 134 = .ok (.aload_n 0, 1) := by decide +kernel
theorem dX10_dayGoes_135 : decode cX10_dayGoes 135 = .ok (.getfield 66, 3) := by decide +kernel
theorem dX10_dayGoes_138 : decode cX10_dayGoes 138 = .ok (.iload_n 1, 1) := by decide +kernel
theorem dX10_dayGoes_139 : decode cX10_dayGoes 139 = .ok (.dup2, 1) := by decide +kernel
theorem dX10_dayGoes_140 : decode cX10_dayGoes 140 = .ok (.iaload, 1) := by decide +kernel
theorem dX10_dayGoes_141 : decode cX10_dayGoes 141 = .ok (.iconst 1, 1) := by decide +kernel
theorem dX10_dayGoes_142 : decode cX10_dayGoes 142 = .ok (.iadd, 1) := by decide +kernel
theorem dX10_dayGoes_143 : decode cX10_dayGoes 143 = .ok (.iastore, 1) := by decide +kernel
theorem dX10_dayGoes_144 : decode cX10_dayGoes 144 = .ok (.return_, 1) := by decide +kernel
