/-! decode rows of the law -/
theorem dL_cell_0 : decode cL_cell 0 = .ok (.aload_n 0, 1) := by decide +kernel
theorem dL_cell_1 : decode cL_cell 1 = .ok (.arraylength, 1) := by decide +kernel
theorem dL_cell_2 : decode cL_cell 2 = .ok (.ifCond .ne 7, 3) := by decide +kernel
theorem dL_cell_5 : decode cL_cell 5 = .ok (.iconst 0, 1) := by decide +kernel
theorem dL_cell_6 : decode cL_cell 6 = .ok (.goto 15, 3) := by decide +kernel
theorem dL_cell_9 : decode cL_cell 9 = .ok (.aload_n 0, 1) := by decide +kernel
theorem dL_cell_10 : decode cL_cell 10 = .ok (.iload_n 1, 1) := by decide +kernel
theorem dL_cell_11 : decode cL_cell 11 = .ok (.aload_n 0, 1) := by decide +kernel
theorem dL_cell_12 : decode cL_cell 12 = .ok (.arraylength, 1) := by decide +kernel
theorem dL_cell_13 : decode cL_cell 13 = .ok (.irem, 1) := by decide +kernel
theorem dL_cell_14 : decode cL_cell 14 = .ok (.iaload, 1) := by decide +kernel
theorem dL_cell_15 : decode cL_cell 15 = .ok (.ldc 7, 2) := by decide +kernel
theorem dL_cell_17 : decode cL_cell 17 = .ok (.irem, 1) := by decide +kernel
theorem dL_cell_18 : decode cL_cell 18 = .ok (.invokestatic 8, 3) := by decide +kernel
theorem dL_cell_21 : decode cL_cell 21 = .ok (.ireturn, 1) := by decide +kernel
theorem dL_load_0 : decode cL_load 0 = .ok (.lconst 0, 1) := by decide +kernel
theorem dL_load_1 : decode cL_load 1 = .ok (.lstore_n 2, 1) := by decide +kernel
theorem dL_load_2 : decode cL_load 2 = .ok (.iconst 0, 1) := by decide +kernel
theorem dL_load_3 : decode cL_load 3 = .ok (.istore 4, 2) := by decide +kernel
theorem dL_load_5 : decode cL_load 5 = .ok (.iload 4, 2) := by decide +kernel
theorem dL_load_7 : decode cL_load 7 = .ok (.aload_n 1, 1) := by decide +kernel
theorem dL_load_8 : decode cL_load 8 = .ok (.invokevirtual 14, 3) := by decide +kernel
theorem dL_load_11 : decode cL_load 11 = .ok (.if_icmp .ge 54, 3) := by decide +kernel
theorem dL_load_14 : decode cL_load 14 = .ok (.lload_n 2, 1) := by decide +kernel
theorem dL_load_15 : decode cL_load 15 = .ok (.bipush 8, 2) := by decide +kernel
theorem dL_load_17 : decode cL_load 17 = .ok (.lshl, 1) := by decide +kernel
theorem dL_load_18 : decode cL_load 18 = .ok (.aload_n 1, 1) := by decide +kernel
theorem dL_load_19 : decode cL_load 19 = .ok (.iload 4, 2) := by decide +kernel
theorem dL_load_21 : decode cL_load 21 = .ok (.invokevirtual 20, 3) := by decide +kernel
theorem dL_load_24 : decode cL_load 24 = .ok (.i2l, 1) := by decide +kernel
theorem dL_load_25 : decode cL_load 25 = .ok (.lor, 1) := by decide +kernel
theorem dL_load_26 : decode cL_load 26 = .ok (.lstore_n 2, 1) := by decide +kernel
theorem dL_load_27 : decode cL_load 27 = .ok (.iload 4, 2) := by decide +kernel
theorem dL_load_29 : decode cL_load 29 = .ok (.bipush 8, 2) := by decide +kernel
theorem dL_load_31 : decode cL_load 31 = .ok (.irem, 1) := by decide +kernel
theorem dL_load_32 : decode cL_load 32 = .ok (.bipush 7, 2) := by decide +kernel
theorem dL_load_34 : decode cL_load 34 = .ok (.if_icmp .eq 17, 3) := by decide +kernel
theorem dL_load_37 : decode cL_load 37 = .ok (.iload 4, 2) := by decide +kernel
theorem dL_load_39 : decode cL_load 39 = .ok (.aload_n 1, 1) := by decide +kernel
theorem dL_load_40 : decode cL_load 40 = .ok (.invokevirtual 14, 3) := by decide +kernel
theorem dL_load_43 : decode cL_load 43 = .ok (.iconst 1, 1) := by decide +kernel
theorem dL_load_44 : decode cL_load 44 = .ok (.isub, 1) := by decide +kernel
theorem dL_load_45 : decode cL_load 45 = .ok (.if_icmp .eq 6, 3) := by decide +kernel
theorem dL_load_48 : decode cL_load 48 = .ok (.goto 11, 3) := by decide +kernel
theorem dL_load_51 : decode cL_load 51 = .ok (.aload_n 0, 1) := by decide +kernel
theorem dL_load_52 : decode cL_load 52 = .ok (.lload_n 2, 1) := by decide +kernel
theorem dL_load_53 : decode cL_load 53 = .ok (.invokevirtual 24, 3) := by decide +kernel
theorem dL_load_56 : decode cL_load 56 = .ok (.pop, 1) := by decide +kernel
theorem dL_load_57 : decode cL_load 57 = .ok (.lconst 0, 1) := by decide +kernel
theorem dL_load_58 : decode cL_load 58 = .ok (.lstore_n 2, 1) := by decide +kernel
theorem dL_load_59 : decode cL_load 59 = .ok (.iinc 4 1, 3) := by decide +kernel
theorem dL_load_62 : decode cL_load 62 = .ok (.goto (-57), 3) := by decide +kernel
theorem dL_load_65 : decode cL_load 65 = .ok (.aload_n 0, 1) := by decide +kernel
theorem dL_load_66 : decode cL_load 66 = .ok (.invokevirtual 30, 3) := by decide +kernel
theorem dL_load_69 : decode cL_load 69 = .ok (.ireturn, 1) := by decide +kernel
theorem dL_text_0 : decode cL_text 0 = .ok (.new 33, 3) := by decide +kernel
theorem dL_text_3 : decode cL_text 3 = .ok (.dup, 1) := by decide +kernel
theorem dL_text_4 : decode cL_text 4 = .ok (.invokespecial 35, 3) := by decide +kernel
theorem dL_text_7 : decode cL_text 7 = .ok (.ldc 36, 2) := by decide +kernel
theorem dL_text_9 : decode cL_text 9 = .ok (.invokevirtual 38, 3) := by decide +kernel
theorem dL_text_12 : decode cL_text 12 = .ok (.iconst 1, 1) := by decide +kernel
theorem dL_text_13 : decode cL_text 13 = .ok (.aload_n 0, 1) := by decide +kernel
theorem dL_text_14 : decode cL_text 14 = .ok (.iconst 0, 1) := by decide +kernel
theorem dL_text_15 : decode cL_text 15 = .ok (.invokestatic 41, 3) := by decide +kernel
theorem dL_text_18 : decode cL_text 18 = .ok (.iconst 3, 1) := by decide +kernel
theorem dL_text_19 : decode cL_text 19 = .ok (.irem, 1) := by decide +kernel
theorem dL_text_20 : decode cL_text 20 = .ok (.iadd, 1) := by decide +kernel
theorem dL_text_21 : decode cL_text 21 = .ok (.invokevirtual 47, 3) := by decide +kernel
theorem dL_text_24 : decode cL_text 24 = .ok (.ldc 50, 2) := by decide +kernel
theorem dL_text_26 : decode cL_text 26 = .ok (.invokevirtual 38, 3) := by decide +kernel
theorem dL_text_29 : decode cL_text 29 = .ok (.iconst 5, 1) := by decide +kernel
theorem dL_text_30 : decode cL_text 30 = .ok (.aload_n 0, 1) := by decide +kernel
theorem dL_text_31 : decode cL_text 31 = .ok (.iconst 1, 1) := by decide +kernel
theorem dL_text_32 : decode cL_text 32 = .ok (.invokestatic 41, 3) := by decide +kernel
theorem dL_text_35 : decode cL_text 35 = .ok (.bipush 40, 2) := by decide +kernel
theorem dL_text_37 : decode cL_text 37 = .ok (.irem, 1) := by decide +kernel
theorem dL_text_38 : decode cL_text 38 = .ok (.iadd, 1) := by decide +kernel
theorem dL_text_39 : decode cL_text 39 = .ok (.invokevirtual 47, 3) := by decide +kernel
theorem dL_text_42 : decode cL_text 42 = .ok (.ldc 52, 2) := by decide +kernel
theorem dL_text_44 : decode cL_text 44 = .ok (.invokevirtual 38, 3) := by decide +kernel
theorem dL_text_47 : decode cL_text 47 = .ok (.bipush 50, 2) := by decide +kernel
theorem dL_text_49 : decode cL_text 49 = .ok (.aload_n 0, 1) := by decide +kernel
theorem dL_text_50 : decode cL_text 50 = .ok (.iconst 2, 1) := by decide +kernel
theorem dL_text_51 : decode cL_text 51 = .ok (.invokestatic 41, 3) := by decide +kernel
theorem dL_text_54 : decode cL_text 54 = .ok (.bipush 40, 2) := by decide +kernel
theorem dL_text_56 : decode cL_text 56 = .ok (.irem, 1) := by decide +kernel
theorem dL_text_57 : decode cL_text 57 = .ok (.iadd, 1) := by decide +kernel
theorem dL_text_58 : decode cL_text 58 = .ok (.invokevirtual 47, 3) := by decide +kernel
theorem dL_text_61 : decode cL_text 61 = .ok (.ldc 54, 2) := by decide +kernel
theorem dL_text_63 : decode cL_text 63 = .ok (.invokevirtual 38, 3) := by decide +kernel
theorem dL_text_66 : decode cL_text 66 = .ok (.aload_n 0, 1) := by decide +kernel
theorem dL_text_67 : decode cL_text 67 = .ok (.iconst 3, 1) := by decide +kernel
theorem dL_text_68 : decode cL_text 68 = .ok (.invokestatic 41, 3) := by decide +kernel
theorem dL_text_71 : decode cL_text 71 = .ok (.iconst 3, 1) := by decide +kernel
theorem dL_text_72 : decode cL_text 72 = .ok (.irem, 1) := by decide +kernel
theorem dL_text_73 : decode cL_text 73 = .ok (.invokevirtual 47, 3) := by decide +kernel
theorem dL_text_76 : decode cL_text 76 = .ok (.ldc 56, 2) := by decide +kernel
theorem dL_text_78 : decode cL_text 78 = .ok (.invokevirtual 38, 3) := by decide +kernel
theorem dL_text_81 : decode cL_text 81 = .ok (.aload_n 0, 1) := by decide +kernel
theorem dL_text_82 : decode cL_text 82 = .ok (.iconst 4, 1) := by decide +kernel
theorem dL_text_83 : decode cL_text 83 = .ok (.invokestatic 41, 3) := by decide +kernel
theorem dL_text_86 : decode cL_text 86 = .ok (.invokevirtual 47, 3) := by decide +kernel
theorem dL_text_89 : decode cL_text 89 = .ok (.invokevirtual 58, 3) := by decide +kernel
theorem dL_text_92 : decode cL_text 92 = .ok (.astore_n 1, 1) := by decide +kernel
theorem dL_text_93 : decode cL_text 93 = .ok (.iconst 0, 1) := by decide +kernel
theorem dL_text_94 : decode cL_text 94 = .ok (.istore_n 2, 1) := by decide +kernel
theorem dL_text_95 : decode cL_text 95 = .ok (.iload_n 2, 1) := by decide +kernel
theorem dL_text_96 : decode cL_text 96 = .ok (.iconst 3, 1) := by decide +kernel
theorem dL_text_97 : decode cL_text 97 = .ok (.if_icmp .ge 90, 3) := by decide +kernel
theorem dL_text_100 : decode cL_text 100 = .ok (.new 33, 3) := by decide +kernel
theorem dL_text_103 : decode cL_text 103 = .ok (.dup, 1) := by decide +kernel
theorem dL_text_104 : decode cL_text 104 = .ok (.invokespecial 35, 3) := by decide +kernel
theorem dL_text_107 : decode cL_text 107 = .ok (.aload_n 1, 1) := by decide +kernel
theorem dL_text_108 : decode cL_text 108 = .ok (.invokevirtual 38, 3) := by decide +kernel
theorem dL_text_111 : decode cL_text 111 = .ok (.ldc 62, 2) := by decide +kernel
theorem dL_text_113 : decode cL_text 113 = .ok (.invokevirtual 38, 3) := by decide +kernel
theorem dL_text_116 : decode cL_text 116 = .ok (.iload_n 2, 1) := by decide +kernel
theorem dL_text_117 : decode cL_text 117 = .ok (.invokevirtual 47, 3) := by decide +kernel
theorem dL_text_120 : decode cL_text 120 = .ok (.ldc 50, 2) := by decide +kernel
theorem dL_text_122 : decode cL_text 122 = .ok (.invokevirtual 38, 3) := by decide +kernel
theorem dL_text_125 : decode cL_text 125 = .ok (.aload_n 0, 1) := by decide +kernel
theorem dL_text_126 : decode cL_text 126 = .ok (.iconst 5, 1) := by decide +kernel
theorem dL_text_127 : decode cL_text 127 = .ok (.iload_n 2, 1) := by decide +kernel
theorem dL_text_128 : decode cL_text 128 = .ok (.iadd, 1) := by decide +kernel
theorem dL_text_129 : decode cL_text 129 = .ok (.invokestatic 41, 3) := by decide +kernel
theorem dL_text_132 : decode cL_text 132 = .ok (.sipush 1000, 3) := by decide +kernel
theorem dL_text_135 : decode cL_text 135 = .ok (.irem, 1) := by decide +kernel
theorem dL_text_136 : decode cL_text 136 = .ok (.invokevirtual 47, 3) := by decide +kernel
theorem dL_text_139 : decode cL_text 139 = .ok (.ldc 50, 2) := by decide +kernel
theorem dL_text_141 : decode cL_text 141 = .ok (.invokevirtual 38, 3) := by decide +kernel
theorem dL_text_144 : decode cL_text 144 = .ok (.aload_n 0, 1) := by decide +kernel
theorem dL_text_145 : decode cL_text 145 = .ok (.bipush 8, 2) := by decide +kernel
theorem dL_text_147 : decode cL_text 147 = .ok (.iload_n 2, 1) := by decide +kernel
theorem dL_text_148 : decode cL_text 148 = .ok (.iadd, 1) := by decide +kernel
theorem dL_text_149 : decode cL_text 149 = .ok (.invokestatic 41, 3) := by decide +kernel
theorem dL_text_152 : decode cL_text 152 = .ok (.bipush 8, 2) := by decide +kernel
theorem dL_text_154 : decode cL_text 154 = .ok (.irem, 1) := by decide +kernel
theorem dL_text_155 : decode cL_text 155 = .ok (.invokevirtual 47, 3) := by decide +kernel
theorem dL_text_158 : decode cL_text 158 = .ok (.ldc 50, 2) := by decide +kernel
theorem dL_text_160 : decode cL_text 160 = .ok (.invokevirtual 38, 3) := by decide +kernel
theorem dL_text_163 : decode cL_text 163 = .ok (.aload_n 0, 1) := by decide +kernel
theorem dL_text_164 : decode cL_text 164 = .ok (.bipush 11, 2) := by decide +kernel
theorem dL_text_166 : decode cL_text 166 = .ok (.iload_n 2, 1) := by decide +kernel
theorem dL_text_167 : decode cL_text 167 = .ok (.iadd, 1) := by decide +kernel
theorem dL_text_168 : decode cL_text 168 = .ok (.invokestatic 41, 3) := by decide +kernel
theorem dL_text_171 : decode cL_text 171 = .ok (.bipush 40, 2) := by decide +kernel
theorem dL_text_173 : decode cL_text 173 = .ok (.irem, 1) := by decide +kernel
theorem dL_text_174 : decode cL_text 174 = .ok (.invokevirtual 47, 3) := by decide +kernel
theorem dL_text_177 : decode cL_text 177 = .ok (.invokevirtual 58, 3) := by decide +kernel
theorem dL_text_180 : decode cL_text 180 = .ok (.astore_n 1, 1) := by decide +kernel
theorem dL_text_181 : decode cL_text 181 = .ok (.iinc 2 1, 3) := by decide +kernel
theorem dL_text_184 : decode cL_text 184 = .ok (.goto (-89), 3) := by decide +kernel
theorem dL_text_187 : decode cL_text 187 = .ok (.iconst 0, 1) := by decide +kernel
theorem dL_text_188 : decode cL_text 188 = .ok (.istore_n 2, 1) := by decide +kernel
theorem dL_text_189 : decode cL_text 189 = .ok (.iload_n 2, 1) := by decide +kernel
theorem dL_text_190 : decode cL_text 190 = .ok (.bipush 6, 2) := by decide +kernel
theorem dL_text_192 : decode cL_text 192 = .ok (.if_icmp .ge 75, 3) := by decide +kernel
theorem dL_text_195 : decode cL_text 195 = .ok (.new 33, 3) := by decide +kernel
theorem dL_text_198 : decode cL_text 198 = .ok (.dup, 1) := by decide +kernel
theorem dL_text_199 : decode cL_text 199 = .ok (.invokespecial 35, 3) := by decide +kernel
theorem dL_text_202 : decode cL_text 202 = .ok (.aload_n 1, 1) := by decide +kernel
theorem dL_text_203 : decode cL_text 203 = .ok (.invokevirtual 38, 3) := by decide +kernel
theorem dL_text_206 : decode cL_text 206 = .ok (.ldc 64, 2) := by decide +kernel
theorem dL_text_208 : decode cL_text 208 = .ok (.invokevirtual 38, 3) := by decide +kernel
theorem dL_text_211 : decode cL_text 211 = .ok (.iload_n 2, 1) := by decide +kernel
theorem dL_text_212 : decode cL_text 212 = .ok (.iconst 3, 1) := by decide +kernel
theorem dL_text_213 : decode cL_text 213 = .ok (.irem, 1) := by decide +kernel
theorem dL_text_214 : decode cL_text 214 = .ok (.invokevirtual 47, 3) := by decide +kernel
theorem dL_text_217 : decode cL_text 217 = .ok (.ldc 50, 2) := by decide +kernel
theorem dL_text_219 : decode cL_text 219 = .ok (.invokevirtual 38, 3) := by decide +kernel
theorem dL_text_222 : decode cL_text 222 = .ok (.aload_n 0, 1) := by decide +kernel
theorem dL_text_223 : decode cL_text 223 = .ok (.bipush 14, 2) := by decide +kernel
theorem dL_text_225 : decode cL_text 225 = .ok (.iload_n 2, 1) := by decide +kernel
theorem dL_text_226 : decode cL_text 226 = .ok (.iadd, 1) := by decide +kernel
theorem dL_text_227 : decode cL_text 227 = .ok (.invokestatic 41, 3) := by decide +kernel
theorem dL_text_230 : decode cL_text 230 = .ok (.sipush 1000, 3) := by decide +kernel
theorem dL_text_233 : decode cL_text 233 = .ok (.irem, 1) := by decide +kernel
theorem dL_text_234 : decode cL_text 234 = .ok (.invokevirtual 47, 3) := by decide +kernel
theorem dL_text_237 : decode cL_text 237 = .ok (.ldc 50, 2) := by decide +kernel
theorem dL_text_239 : decode cL_text 239 = .ok (.invokevirtual 38, 3) := by decide +kernel
theorem dL_text_242 : decode cL_text 242 = .ok (.aload_n 0, 1) := by decide +kernel
theorem dL_text_243 : decode cL_text 243 = .ok (.bipush 20, 2) := by decide +kernel
theorem dL_text_245 : decode cL_text 245 = .ok (.iload_n 2, 1) := by decide +kernel
theorem dL_text_246 : decode cL_text 246 = .ok (.iadd, 1) := by decide +kernel
theorem dL_text_247 : decode cL_text 247 = .ok (.invokestatic 41, 3) := by decide +kernel
theorem dL_text_250 : decode cL_text 250 = .ok (.sipush 1000, 3) := by decide +kernel
theorem dL_text_253 : decode cL_text 253 = .ok (.irem, 1) := by decide +kernel
theorem dL_text_254 : decode cL_text 254 = .ok (.invokevirtual 47, 3) := by decide +kernel
theorem dL_text_257 : decode cL_text 257 = .ok (.invokevirtual 58, 3) := by decide +kernel
theorem dL_text_260 : decode cL_text 260 = .ok (.astore_n 1, 1) := by decide +kernel
theorem dL_text_261 : decode cL_text 261 = .ok (.iinc 2 1, 3) := by decide +kernel
theorem dL_text_264 : decode cL_text 264 = .ok (.goto (-75), 3) := by decide +kernel
theorem dL_text_267 : decode cL_text 267 = .ok (.new 33, 3) := by decide +kernel
theorem dL_text_270 : decode cL_text 270 = .ok (.dup, 1) := by decide +kernel
theorem dL_text_271 : decode cL_text 271 = .ok (.invokespecial 35, 3) := by decide +kernel
theorem dL_text_274 : decode cL_text 274 = .ok (.aload_n 1, 1) := by decide +kernel
theorem dL_text_275 : decode cL_text 275 = .ok (.invokevirtual 38, 3) := by decide +kernel
theorem dL_text_278 : decode cL_text 278 = .ok (.ldc 66, 2) := by decide +kernel
theorem dL_text_280 : decode cL_text 280 = .ok (.invokevirtual 38, 3) := by decide +kernel
theorem dL_text_283 : decode cL_text 283 = .ok (.aload_n 0, 1) := by decide +kernel
theorem dL_text_284 : decode cL_text 284 = .ok (.bipush 26, 2) := by decide +kernel
theorem dL_text_286 : decode cL_text 286 = .ok (.invokestatic 41, 3) := by decide +kernel
theorem dL_text_289 : decode cL_text 289 = .ok (.iconst 4, 1) := by decide +kernel
theorem dL_text_290 : decode cL_text 290 = .ok (.irem, 1) := by decide +kernel
theorem dL_text_291 : decode cL_text 291 = .ok (.invokevirtual 47, 3) := by decide +kernel
theorem dL_text_294 : decode cL_text 294 = .ok (.ldc 68, 2) := by decide +kernel
theorem dL_text_296 : decode cL_text 296 = .ok (.invokevirtual 38, 3) := by decide +kernel
theorem dL_text_299 : decode cL_text 299 = .ok (.aload_n 0, 1) := by decide +kernel
theorem dL_text_300 : decode cL_text 300 = .ok (.bipush 27, 2) := by decide +kernel
theorem dL_text_302 : decode cL_text 302 = .ok (.invokestatic 41, 3) := by decide +kernel
theorem dL_text_305 : decode cL_text 305 = .ok (.iconst 4, 1) := by decide +kernel
theorem dL_text_306 : decode cL_text 306 = .ok (.irem, 1) := by decide +kernel
theorem dL_text_307 : decode cL_text 307 = .ok (.invokevirtual 47, 3) := by decide +kernel
theorem dL_text_310 : decode cL_text 310 = .ok (.ldc 70, 2) := by decide +kernel
theorem dL_text_312 : decode cL_text 312 = .ok (.invokevirtual 38, 3) := by decide +kernel
theorem dL_text_315 : decode cL_text 315 = .ok (.aload_n 0, 1) := by decide +kernel
theorem dL_text_316 : decode cL_text 316 = .ok (.bipush 28, 2) := by decide +kernel
theorem dL_text_318 : decode cL_text 318 = .ok (.invokestatic 41, 3) := by decide +kernel
theorem dL_text_321 : decode cL_text 321 = .ok (.bipush 30, 2) := by decide +kernel
theorem dL_text_323 : decode cL_text 323 = .ok (.irem, 1) := by decide +kernel
theorem dL_text_324 : decode cL_text 324 = .ok (.invokevirtual 47, 3) := by decide +kernel
theorem dL_text_327 : decode cL_text 327 = .ok (.invokevirtual 58, 3) := by decide +kernel
theorem dL_text_330 : decode cL_text 330 = .ok (.astore_n 1, 1) := by decide +kernel
theorem dL_text_331 : decode cL_text 331 = .ok (.aload_n 0, 1) := by decide +kernel
theorem dL_text_332 : decode cL_text 332 = .ok (.bipush 29, 2) := by decide +kernel
theorem dL_text_334 : decode cL_text 334 = .ok (.invokestatic 41, 3) := by decide +kernel
theorem dL_text_337 : decode cL_text 337 = .ok (.iconst 2, 1) := by decide +kernel
theorem dL_text_338 : decode cL_text 338 = .ok (.irem, 1) := by decide +kernel
theorem dL_text_339 : decode cL_text 339 = .ok (.ifCond .ne 25, 3) := by decide +kernel
theorem dL_text_342 : decode cL_text 342 = .ok (.new 33, 3) := by decide +kernel
theorem dL_text_345 : decode cL_text 345 = .ok (.dup, 1) := by decide +kernel
theorem dL_text_346 : decode cL_text 346 = .ok (.invokespecial 35, 3) := by decide +kernel
theorem dL_text_349 : decode cL_text 349 = .ok (.aload_n 1, 1) := by decide +kernel
theorem dL_text_350 : decode cL_text 350 = .ok (.invokevirtual 38, 3) := by decide +kernel
theorem dL_text_353 : decode cL_text 353 = .ok (.ldc 72, 2) := by decide +kernel
theorem dL_text_355 : decode cL_text 355 = .ok (.invokevirtual 38, 3) := by decide +kernel
theorem dL_text_358 : decode cL_text 358 = .ok (.invokevirtual 58, 3) := by decide +kernel
theorem dL_text_361 : decode cL_text 361 = .ok (.goto 4, 3) := by decide +kernel
theorem dL_text_364 : decode cL_text 364 = .ok (.aload_n 1, 1) := by decide +kernel
theorem dL_text_365 : decode cL_text 365 = .ok (.areturn, 1) := by decide +kernel
theorem dL_step_0 : decode cL_step 0 = .ok (.aload_n 1, 1) := by decide +kernel
theorem dL_step_1 : decode cL_step 1 = .ok (.iload_n 2, 1) := by decide +kernel
theorem dL_step_2 : decode cL_step 2 = .ok (.iconst 1, 1) := by decide +kernel
theorem dL_step_3 : decode cL_step 3 = .ok (.iadd, 1) := by decide +kernel
theorem dL_step_4 : decode cL_step 4 = .ok (.invokestatic 41, 3) := by decide +kernel
theorem dL_step_7 : decode cL_step 7 = .ok (.istore_n 3, 1) := by decide +kernel
theorem dL_step_8 : decode cL_step 8 = .ok (.iload_n 3, 1) := by decide +kernel
theorem dL_step_9 : decode cL_step 9 = .ok (.aload_n 0, 1) := by decide +kernel
theorem dL_step_10 : decode cL_step 10 = .ok (.iconst 0, 1) := by decide +kernel
theorem dL_step_11 : decode cL_step 11 = .ok (.invokevirtual 74, 3) := by decide +kernel
theorem dL_step_14 : decode cL_step 14 = .ok (.irem, 1) := by decide +kernel
theorem dL_step_15 : decode cL_step 15 = .ok (.istore 4, 2) := by decide +kernel
theorem dL_step_17 : decode cL_step 17 = .ok (.aload_n 1, 1) := by decide +kernel
theorem dL_step_18 : decode cL_step 18 = .ok (.iload_n 2, 1) := by decide +kernel
theorem dL_step_19 : decode cL_step 19 = .ok (.iconst 2, 1) := by decide +kernel
theorem dL_step_20 : decode cL_step 20 = .ok (.iadd, 1) := by decide +kernel
theorem dL_step_21 : decode cL_step 21 = .ok (.invokestatic 41, 3) := by decide +kernel
theorem dL_step_24 : decode cL_step 24 = .ok (.istore 5, 2) := by decide +kernel
theorem dL_step_26 : decode cL_step 26 = .ok (.aload_n 1, 1) := by decide +kernel
theorem dL_step_27 : decode cL_step 27 = .ok (.iload_n 2, 1) := by decide +kernel
theorem dL_step_28 : decode cL_step 28 = .ok (.invokestatic 41, 3) := by decide +kernel
theorem dL_step_31 : decode cL_step 31 = .ok (.bipush 15, 2) := by decide +kernel
theorem dL_step_33 : decode cL_step 33 = .ok (.irem, 1) := by decide +kernel
theorem dL_step_34 : decode cL_step 34 = .ok (.tableswitch 217 0 11 #[62, 76, 90, 100, 115, 125, 135, 151, 163, 187, 195, 203], 62) := by decide +kernel
theorem dL_step_96 : decode cL_step 96 = .ok (.aload_n 0, 1) := by decide +kernel
theorem dL_step_97 : decode cL_step 97 = .ok (.iload 4, 2) := by decide +kernel
theorem dL_step_99 : decode cL_step 99 = .ok (.iload 5, 2) := by decide +kernel
theorem dL_step_101 : decode cL_step 101 = .ok (.iconst 2, 1) := by decide +kernel
theorem dL_step_102 : decode cL_step 102 = .ok (.irem, 1) := by decide +kernel
theorem dL_step_103 : decode cL_step 103 = .ok (.invokevirtual 77, 3) := by decide +kernel
theorem dL_step_106 : decode cL_step 106 = .ok (.pop, 1) := by decide +kernel
theorem dL_step_107 : decode cL_step 107 = .ok (.goto 155, 3) := by decide +kernel
theorem dL_step_110 : decode cL_step 110 = .ok (.aload_n 0, 1) := by decide +kernel
theorem dL_step_111 : decode cL_step 111 = .ok (.iload 4, 2) := by decide +kernel
theorem dL_step_113 : decode cL_step 113 = .ok (.iload 5, 2) := by decide +kernel
theorem dL_step_115 : decode cL_step 115 = .ok (.iconst 3, 1) := by decide +kernel
theorem dL_step_116 : decode cL_step 116 = .ok (.irem, 1) := by decide +kernel
theorem dL_step_117 : decode cL_step 117 = .ok (.invokevirtual 81, 3) := by decide +kernel
theorem dL_step_120 : decode cL_step 120 = .ok (.pop, 1) := by decide +kernel
theorem dL_step_121 : decode cL_step 121 = .ok (.goto 141, 3) := by decide +kernel
theorem dL_step_124 : decode cL_step 124 = .ok (.aload_n 0, 1) := by decide +kernel
theorem dL_step_125 : decode cL_step 125 = .ok (.iload 4, 2) := by decide +kernel
theorem dL_step_127 : decode cL_step 127 = .ok (.invokevirtual 84, 3) := by decide +kernel
theorem dL_step_130 : decode cL_step 130 = .ok (.pop, 1) := by decide +kernel
theorem dL_step_131 : decode cL_step 131 = .ok (.goto 131, 3) := by decide +kernel
theorem dL_step_134 : decode cL_step 134 = .ok (.aload_n 0, 1) := by decide +kernel
theorem dL_step_135 : decode cL_step 135 = .ok (.iload 4, 2) := by decide +kernel
theorem dL_step_137 : decode cL_step 137 = .ok (.iload 5, 2) := by decide +kernel
theorem dL_step_139 : decode cL_step 139 = .ok (.bipush 6, 2) := by decide +kernel
theorem dL_step_141 : decode cL_step 141 = .ok (.irem, 1) := by decide +kernel
theorem dL_step_142 : decode cL_step 142 = .ok (.invokevirtual 87, 3) := by decide +kernel
theorem dL_step_145 : decode cL_step 145 = .ok (.pop, 1) := by decide +kernel
theorem dL_step_146 : decode cL_step 146 = .ok (.goto 116, 3) := by decide +kernel
theorem dL_step_149 : decode cL_step 149 = .ok (.aload_n 0, 1) := by decide +kernel
theorem dL_step_150 : decode cL_step 150 = .ok (.iload 4, 2) := by decide +kernel
theorem dL_step_152 : decode cL_step 152 = .ok (.invokevirtual 90, 3) := by decide +kernel
theorem dL_step_155 : decode cL_step 155 = .ok (.pop, 1) := by decide +kernel
theorem dL_step_156 : decode cL_step 156 = .ok (.goto 106, 3) := by decide +kernel
theorem dL_step_159 : decode cL_step 159 = .ok (.aload_n 0, 1) := by decide +kernel
theorem dL_step_160 : decode cL_step 160 = .ok (.iload 4, 2) := by decide +kernel
theorem dL_step_162 : decode cL_step 162 = .ok (.invokevirtual 93, 3) := by decide +kernel
theorem dL_step_165 : decode cL_step 165 = .ok (.pop, 1) := by decide +kernel
theorem dL_step_166 : decode cL_step 166 = .ok (.goto 96, 3) := by decide +kernel
theorem dL_step_169 : decode cL_step 169 = .ok (.aload_n 0, 1) := by decide +kernel
theorem dL_step_170 : decode cL_step 170 = .ok (.iload 5, 2) := by decide +kernel
theorem dL_step_172 : decode cL_step 172 = .ok (.iconst 3, 1) := by decide +kernel
theorem dL_step_173 : decode cL_step 173 = .ok (.irem, 1) := by decide +kernel
theorem dL_step_174 : decode cL_step 174 = .ok (.iload_n 3, 1) := by decide +kernel
theorem dL_step_175 : decode cL_step 175 = .ok (.bipush 6, 2) := by decide +kernel
theorem dL_step_177 : decode cL_step 177 = .ok (.irem, 1) := by decide +kernel
theorem dL_step_178 : decode cL_step 178 = .ok (.invokevirtual 96, 3) := by decide +kernel
theorem dL_step_181 : decode cL_step 181 = .ok (.pop, 1) := by decide +kernel
theorem dL_step_182 : decode cL_step 182 = .ok (.goto 80, 3) := by decide +kernel
theorem dL_step_185 : decode cL_step 185 = .ok (.aload_n 0, 1) := by decide +kernel
theorem dL_step_186 : decode cL_step 186 = .ok (.iload 5, 2) := by decide +kernel
theorem dL_step_188 : decode cL_step 188 = .ok (.iconst 3, 1) := by decide +kernel
theorem dL_step_189 : decode cL_step 189 = .ok (.irem, 1) := by decide +kernel
theorem dL_step_190 : decode cL_step 190 = .ok (.invokevirtual 99, 3) := by decide +kernel
theorem dL_step_193 : decode cL_step 193 = .ok (.pop, 1) := by decide +kernel
theorem dL_step_194 : decode cL_step 194 = .ok (.goto 68, 3) := by decide +kernel
theorem dL_step_197 : decode cL_step 197 = .ok (.aload_n 0, 1) := by decide +kernel
theorem dL_step_198 : decode cL_step 198 = .ok (.iload 5, 2) := by decide +kernel
theorem dL_step_200 : decode cL_step 200 = .ok (.bipush 6, 2) := by decide +kernel
theorem dL_step_202 : decode cL_step 202 = .ok (.irem, 1) := by decide +kernel
theorem dL_step_203 : decode cL_step 203 = .ok (.iload_n 3, 1) := by decide +kernel
theorem dL_step_204 : decode cL_step 204 = .ok (.iconst 2, 1) := by decide +kernel
theorem dL_step_205 : decode cL_step 205 = .ok (.irem, 1) := by decide +kernel
theorem dL_step_206 : decode cL_step 206 = .ok (.ifCond .ne 7, 3) := by decide +kernel
theorem dL_step_209 : decode cL_step 209 = .ok (.iconst 1, 1) := by decide +kernel
theorem dL_step_210 : decode cL_step 210 = .ok (.goto 4, 3) := by decide +kernel
theorem dL_step_213 : decode cL_step 213 = .ok (.iconst 0, 1) := by decide +kernel
theorem dL_step_214 : decode cL_step 214 = .ok (.invokevirtual 102, 3) := by decide +kernel
theorem dL_step_217 : decode cL_step 217 = .ok (.pop, 1) := by decide +kernel
theorem dL_step_218 : decode cL_step 218 = .ok (.goto 44, 3) := by decide +kernel
theorem dL_step_221 : decode cL_step 221 = .ok (.aload_n 0, 1) := by decide +kernel
theorem dL_step_222 : decode cL_step 222 = .ok (.invokevirtual 106, 3) := by decide +kernel
theorem dL_step_225 : decode cL_step 225 = .ok (.pop, 1) := by decide +kernel
theorem dL_step_226 : decode cL_step 226 = .ok (.goto 36, 3) := by decide +kernel
theorem dL_step_229 : decode cL_step 229 = .ok (.aload_n 0, 1) := by decide +kernel
theorem dL_step_230 : decode cL_step 230 = .ok (.invokevirtual 109, 3) := by decide +kernel
theorem dL_step_233 : decode cL_step 233 = .ok (.pop, 1) := by decide +kernel
theorem dL_step_234 : decode cL_step 234 = .ok (.goto 28, 3) := by decide +kernel
theorem dL_step_237 : decode cL_step 237 = .ok (.aload_n 0, 1) := by decide +kernel
theorem dL_step_238 : decode cL_step 238 = .ok (.bipush 7, 2) := by decide +kernel
theorem dL_step_240 : decode cL_step 240 = .ok (.iload_n 3, 1) := by decide +kernel
theorem dL_step_241 : decode cL_step 241 = .ok (.bipush 6, 2) := by decide +kernel
theorem dL_step_243 : decode cL_step 243 = .ok (.irem, 1) := by decide +kernel
theorem dL_step_244 : decode cL_step 244 = .ok (.invokevirtual 113, 3) := by decide +kernel
theorem dL_step_247 : decode cL_step 247 = .ok (.pop, 1) := by decide +kernel
theorem dL_step_248 : decode cL_step 248 = .ok (.goto 14, 3) := by decide +kernel
theorem dL_step_251 : decode cL_step 251 = .ok (.aload_n 0, 1) := by decide +kernel
theorem dL_step_252 : decode cL_step 252 = .ok (.iconst 1, 1) := by decide +kernel
theorem dL_step_253 : decode cL_step 253 = .ok (.iload_n 3, 1) := by decide +kernel
theorem dL_step_254 : decode cL_step 254 = .ok (.bipush 9, 2) := by decide +kernel
theorem dL_step_256 : decode cL_step 256 = .ok (.irem, 1) := by decide +kernel
theorem dL_step_257 : decode cL_step 257 = .ok (.iadd, 1) := by decide +kernel
theorem dL_step_258 : decode cL_step 258 = .ok (.invokevirtual 116, 3) := by decide +kernel
theorem dL_step_261 : decode cL_step 261 = .ok (.pop, 1) := by decide +kernel
theorem dL_step_262 : decode cL_step 262 = .ok (.return_, 1) := by decide +kernel
theorem dL_whole_0 : decode cL_whole 0 = .ok (.aload_n 0, 1) := by decide +kernel
theorem dL_whole_1 : decode cL_whole 1 = .ok (.invokevirtual 119, 3) := by decide +kernel
theorem dL_whole_4 : decode cL_whole 4 = .ok (.i2l, 1) := by decide +kernel
theorem dL_whole_5 : decode cL_whole 5 = .ok (.ldc2_w 122, 3) := by decide +kernel
theorem dL_whole_8 : decode cL_whole 8 = .ok (.aload_n 0, 1) := by decide +kernel
theorem dL_whole_9 : decode cL_whole 9 = .ok (.iconst 0, 1) := by decide +kernel
theorem dL_whole_10 : decode cL_whole 10 = .ok (.invokevirtual 124, 3) := by decide +kernel
theorem dL_whole_13 : decode cL_whole 13 = .ok (.i2l, 1) := by decide +kernel
theorem dL_whole_14 : decode cL_whole 14 = .ok (.lmul, 1) := by decide +kernel
theorem dL_whole_15 : decode cL_whole 15 = .ok (.ladd, 1) := by decide +kernel
theorem dL_whole_16 : decode cL_whole 16 = .ok (.ldc2_w 127, 3) := by decide +kernel
theorem dL_whole_19 : decode cL_whole 19 = .ok (.aload_n 0, 1) := by decide +kernel
theorem dL_whole_20 : decode cL_whole 20 = .ok (.iconst 1, 1) := by decide +kernel
theorem dL_whole_21 : decode cL_whole 21 = .ok (.invokevirtual 124, 3) := by decide +kernel
theorem dL_whole_24 : decode cL_whole 24 = .ok (.i2l, 1) := by decide +kernel
theorem dL_whole_25 : decode cL_whole 25 = .ok (.lmul, 1) := by decide +kernel
theorem dL_whole_26 : decode cL_whole 26 = .ok (.ladd, 1) := by decide +kernel
theorem dL_whole_27 : decode cL_whole 27 = .ok (.ldc2_w 129, 3) := by decide +kernel
theorem dL_whole_30 : decode cL_whole 30 = .ok (.aload_n 0, 1) := by decide +kernel
theorem dL_whole_31 : decode cL_whole 31 = .ok (.bipush 10, 2) := by decide +kernel
theorem dL_whole_33 : decode cL_whole 33 = .ok (.invokevirtual 131, 3) := by decide +kernel
theorem dL_whole_36 : decode cL_whole 36 = .ok (.i2l, 1) := by decide +kernel
theorem dL_whole_37 : decode cL_whole 37 = .ok (.lmul, 1) := by decide +kernel
theorem dL_whole_38 : decode cL_whole 38 = .ok (.ladd, 1) := by decide +kernel
theorem dL_whole_39 : decode cL_whole 39 = .ok (.aload_n 0, 1) := by decide +kernel
theorem dL_whole_40 : decode cL_whole 40 = .ok (.invokevirtual 134, 3) := by decide +kernel
theorem dL_whole_43 : decode cL_whole 43 = .ok (.i2l, 1) := by decide +kernel
theorem dL_whole_44 : decode cL_whole 44 = .ok (.ladd, 1) := by decide +kernel
theorem dL_whole_45 : decode cL_whole 45 = .ok (.aload_n 0, 1) := by decide +kernel
theorem dL_whole_46 : decode cL_whole 46 = .ok (.invokevirtual 137, 3) := by decide +kernel
theorem dL_whole_49 : decode cL_whole 49 = .ok (.ldc2_w 141, 3) := by decide +kernel
theorem dL_whole_52 : decode cL_whole 52 = .ok (.lmul, 1) := by decide +kernel
theorem dL_whole_53 : decode cL_whole 53 = .ok (.ladd, 1) := by decide +kernel
theorem dL_whole_54 : decode cL_whole 54 = .ok (.lstore_n 1, 1) := by decide +kernel
theorem dL_whole_55 : decode cL_whole 55 = .ok (.iconst 0, 1) := by decide +kernel
theorem dL_whole_56 : decode cL_whole 56 = .ok (.istore_n 3, 1) := by decide +kernel
theorem dL_whole_57 : decode cL_whole 57 = .ok (.iload_n 3, 1) := by decide +kernel
theorem dL_whole_58 : decode cL_whole 58 = .ok (.aload_n 0, 1) := by decide +kernel
theorem dL_whole_59 : decode cL_whole 59 = .ok (.iconst 0, 1) := by decide +kernel
theorem dL_whole_60 : decode cL_whole 60 = .ok (.invokevirtual 74, 3) := by decide +kernel
theorem dL_whole_63 : decode cL_whole 63 = .ok (.if_icmp .ge 40, 3) := by decide +kernel
theorem dL_whole_66 : decode cL_whole 66 = .ok (.iconst 0, 1) := by decide +kernel
theorem dL_whole_67 : decode cL_whole 67 = .ok (.istore 4, 2) := by decide +kernel
theorem dL_whole_69 : decode cL_whole 69 = .ok (.iload 4, 2) := by decide +kernel
theorem dL_whole_71 : decode cL_whole 71 = .ok (.bipush 7, 2) := by decide +kernel
theorem dL_whole_73 : decode cL_whole 73 = .ok (.if_icmp .gt 24, 3) := by decide +kernel
theorem dL_whole_76 : decode cL_whole 76 = .ok (.ldc2_w 122, 3) := by decide +kernel
theorem dL_whole_79 : decode cL_whole 79 = .ok (.lload_n 1, 1) := by decide +kernel
theorem dL_whole_80 : decode cL_whole 80 = .ok (.lmul, 1) := by decide +kernel
theorem dL_whole_81 : decode cL_whole 81 = .ok (.aload_n 0, 1) := by decide +kernel
theorem dL_whole_82 : decode cL_whole 82 = .ok (.iload_n 3, 1) := by decide +kernel
theorem dL_whole_83 : decode cL_whole 83 = .ok (.iload 4, 2) := by decide +kernel
theorem dL_whole_85 : decode cL_whole 85 = .ok (.invokevirtual 143, 3) := by decide +kernel
theorem dL_whole_88 : decode cL_whole 88 = .ok (.i2l, 1) := by decide +kernel
theorem dL_whole_89 : decode cL_whole 89 = .ok (.ladd, 1) := by decide +kernel
theorem dL_whole_90 : decode cL_whole 90 = .ok (.lstore_n 1, 1) := by decide +kernel
theorem dL_whole_91 : decode cL_whole 91 = .ok (.iinc 4 1, 3) := by decide +kernel
theorem dL_whole_94 : decode cL_whole 94 = .ok (.goto (-25), 3) := by decide +kernel
theorem dL_whole_97 : decode cL_whole 97 = .ok (.iinc 3 1, 3) := by decide +kernel
theorem dL_whole_100 : decode cL_whole 100 = .ok (.goto (-43), 3) := by decide +kernel
theorem dL_whole_103 : decode cL_whole 103 = .ok (.iconst 0, 1) := by decide +kernel
theorem dL_whole_104 : decode cL_whole 104 = .ok (.istore_n 3, 1) := by decide +kernel
theorem dL_whole_105 : decode cL_whole 105 = .ok (.iload_n 3, 1) := by decide +kernel
theorem dL_whole_106 : decode cL_whole 106 = .ok (.iconst 3, 1) := by decide +kernel
theorem dL_whole_107 : decode cL_whole 107 = .ok (.if_icmp .ge 40, 3) := by decide +kernel
theorem dL_whole_110 : decode cL_whole 110 = .ok (.iconst 0, 1) := by decide +kernel
theorem dL_whole_111 : decode cL_whole 111 = .ok (.istore 4, 2) := by decide +kernel
theorem dL_whole_113 : decode cL_whole 113 = .ok (.iload 4, 2) := by decide +kernel
theorem dL_whole_115 : decode cL_whole 115 = .ok (.bipush 7, 2) := by decide +kernel
theorem dL_whole_117 : decode cL_whole 117 = .ok (.if_icmp .gt 24, 3) := by decide +kernel
theorem dL_whole_120 : decode cL_whole 120 = .ok (.ldc2_w 122, 3) := by decide +kernel
theorem dL_whole_123 : decode cL_whole 123 = .ok (.lload_n 1, 1) := by decide +kernel
theorem dL_whole_124 : decode cL_whole 124 = .ok (.lmul, 1) := by decide +kernel
theorem dL_whole_125 : decode cL_whole 125 = .ok (.aload_n 0, 1) := by decide +kernel
theorem dL_whole_126 : decode cL_whole 126 = .ok (.iload_n 3, 1) := by decide +kernel
theorem dL_whole_127 : decode cL_whole 127 = .ok (.iload 4, 2) := by decide +kernel
theorem dL_whole_129 : decode cL_whole 129 = .ok (.invokevirtual 146, 3) := by decide +kernel
theorem dL_whole_132 : decode cL_whole 132 = .ok (.i2l, 1) := by decide +kernel
theorem dL_whole_133 : decode cL_whole 133 = .ok (.ladd, 1) := by decide +kernel
theorem dL_whole_134 : decode cL_whole 134 = .ok (.lstore_n 1, 1) := by decide +kernel
theorem dL_whole_135 : decode cL_whole 135 = .ok (.iinc 4 1, 3) := by decide +kernel
theorem dL_whole_138 : decode cL_whole 138 = .ok (.goto (-25), 3) := by decide +kernel
theorem dL_whole_141 : decode cL_whole 141 = .ok (.iinc 3 1, 3) := by decide +kernel
theorem dL_whole_144 : decode cL_whole 144 = .ok (.goto (-39), 3) := by decide +kernel
theorem dL_whole_147 : decode cL_whole 147 = .ok (.lload_n 1, 1) := by decide +kernel
theorem dL_whole_148 : decode cL_whole 148 = .ok (.lreturn, 1) := by decide +kernel
theorem dL_addsUp_0 : decode cL_addsUp 0 = .ok (.iconst 0, 1) := by decide +kernel
theorem dL_addsUp_1 : decode cL_addsUp 1 = .ok (.istore_n 1, 1) := by decide +kernel
theorem dL_addsUp_2 : decode cL_addsUp 2 = .ok (.iconst 0, 1) := by decide +kernel
theorem dL_addsUp_3 : decode cL_addsUp 3 = .ok (.istore_n 2, 1) := by decide +kernel
theorem dL_addsUp_4 : decode cL_addsUp 4 = .ok (.iconst 1, 1) := by decide +kernel
theorem dL_addsUp_5 : decode cL_addsUp 5 = .ok (.istore_n 3, 1) := by decide +kernel
theorem dL_addsUp_6 : decode cL_addsUp 6 = .ok (.iload_n 3, 1) := by decide +kernel
theorem dL_addsUp_7 : decode cL_addsUp 7 = .ok (.bipush 6, 2) := by decide +kernel
theorem dL_addsUp_9 : decode cL_addsUp 9 = .ok (.if_icmp .gt 25, 3) := by decide +kernel
theorem dL_addsUp_12 : decode cL_addsUp 12 = .ok (.iload_n 1, 1) := by decide +kernel
theorem dL_addsUp_13 : decode cL_addsUp 13 = .ok (.aload_n 0, 1) := by decide +kernel
theorem dL_addsUp_14 : decode cL_addsUp 14 = .ok (.iload_n 3, 1) := by decide +kernel
theorem dL_addsUp_15 : decode cL_addsUp 15 = .ok (.invokevirtual 149, 3) := by decide +kernel
theorem dL_addsUp_18 : decode cL_addsUp 18 = .ok (.iadd, 1) := by decide +kernel
theorem dL_addsUp_19 : decode cL_addsUp 19 = .ok (.istore_n 1, 1) := by decide +kernel
theorem dL_addsUp_20 : decode cL_addsUp 20 = .ok (.iload_n 2, 1) := by decide +kernel
theorem dL_addsUp_21 : decode cL_addsUp 21 = .ok (.aload_n 0, 1) := by decide +kernel
theorem dL_addsUp_22 : decode cL_addsUp 22 = .ok (.iload_n 3, 1) := by decide +kernel
theorem dL_addsUp_23 : decode cL_addsUp 23 = .ok (.invokevirtual 152, 3) := by decide +kernel
theorem dL_addsUp_26 : decode cL_addsUp 26 = .ok (.iadd, 1) := by decide +kernel
theorem dL_addsUp_27 : decode cL_addsUp 27 = .ok (.istore_n 2, 1) := by decide +kernel
theorem dL_addsUp_28 : decode cL_addsUp 28 = .ok (.iinc 3 1, 3) := by decide +kernel
theorem dL_addsUp_31 : decode cL_addsUp 31 = .ok (.goto (-25), 3) := by decide +kernel
theorem dL_addsUp_34 : decode cL_addsUp 34 = .ok (.iconst 2, 1) := by decide +kernel
theorem dL_addsUp_35 : decode cL_addsUp 35 = .ok (.newarray .int, 2) := by decide +kernel
theorem dL_addsUp_37 : decode cL_addsUp 37 = .ok (.dup, 1) := by decide +kernel
theorem dL_addsUp_38 : decode cL_addsUp 38 = .ok (.iconst 0, 1) := by decide +kernel
theorem dL_addsUp_39 : decode cL_addsUp 39 = .ok (.iconst 2, 1) := by decide +kernel
theorem dL_addsUp_40 : decode cL_addsUp 40 = .ok (.iastore, 1) := by decide +kernel
theorem dL_addsUp_41 : decode cL_addsUp 41 = .ok (.dup, 1) := by decide +kernel
theorem dL_addsUp_42 : decode cL_addsUp 42 = .ok (.iconst 1, 1) := by decide +kernel
theorem dL_addsUp_43 : decode cL_addsUp 43 = .ok (.iconst 1, 1) := by decide +kernel
theorem dL_addsUp_44 : decode cL_addsUp 44 = .ok (.iastore, 1) := by decide +kernel
theorem dL_addsUp_45 : decode cL_addsUp 45 = .ok (.astore_n 3, 1) := by decide +kernel
theorem dL_addsUp_46 : decode cL_addsUp 46 = .ok (.iconst 0, 1) := by decide +kernel
theorem dL_addsUp_47 : decode cL_addsUp 47 = .ok (.istore 4, 2) := by decide +kernel
theorem dL_addsUp_49 : decode cL_addsUp 49 = .ok (.iconst 0, 1) := by decide +kernel
theorem dL_addsUp_50 : decode cL_addsUp 50 = .ok (.istore 5, 2) := by decide +kernel
theorem dL_addsUp_52 : decode cL_addsUp 52 = .ok (.iconst 0, 1) := by decide +kernel
theorem dL_addsUp_53 : decode cL_addsUp 53 = .ok (.istore 6, 2) := by decide +kernel
theorem dL_addsUp_55 : decode cL_addsUp 55 = .ok (.iload 6, 2) := by decide +kernel
theorem dL_addsUp_57 : decode cL_addsUp 57 = .ok (.aload_n 0, 1) := by decide +kernel
theorem dL_addsUp_58 : decode cL_addsUp 58 = .ok (.iconst 0, 1) := by decide +kernel
theorem dL_addsUp_59 : decode cL_addsUp 59 = .ok (.invokevirtual 74, 3) := by decide +kernel
theorem dL_addsUp_62 : decode cL_addsUp 62 = .ok (.if_icmp .ge 112, 3) := by decide +kernel
theorem dL_addsUp_65 : decode cL_addsUp 65 = .ok (.aload_n 0, 1) := by decide +kernel
theorem dL_addsUp_66 : decode cL_addsUp 66 = .ok (.iload 6, 2) := by decide +kernel
theorem dL_addsUp_68 : decode cL_addsUp 68 = .ok (.iconst 0, 1) := by decide +kernel
theorem dL_addsUp_69 : decode cL_addsUp 69 = .ok (.invokevirtual 143, 3) := by decide +kernel
theorem dL_addsUp_72 : decode cL_addsUp 72 = .ok (.istore 7, 2) := by decide +kernel
theorem dL_addsUp_74 : decode cL_addsUp 74 = .ok (.iload 7, 2) := by decide +kernel
theorem dL_addsUp_76 : decode cL_addsUp 76 = .ok (.ifCond .lt 11, 3) := by decide +kernel
theorem dL_addsUp_79 : decode cL_addsUp 79 = .ok (.aload_n 3, 1) := by decide +kernel
theorem dL_addsUp_80 : decode cL_addsUp 80 = .ok (.iload 7, 2) := by decide +kernel
theorem dL_addsUp_82 : decode cL_addsUp 82 = .ok (.dup2, 1) := by decide +kernel
theorem dL_addsUp_83 : decode cL_addsUp 83 = .ok (.iaload, 1) := by decide +kernel
theorem dL_addsUp_84 : decode cL_addsUp 84 = .ok (.iconst 1, 1) := by decide +kernel
theorem dL_addsUp_85 : decode cL_addsUp 85 = .ok (.isub, 1) := by decide +kernel
theorem dL_addsUp_86 : decode cL_addsUp 86 = .ok (.iastore, 1) := by decide +kernel
theorem dL_addsUp_87 : decode cL_addsUp 87 = .ok (.iload 4, 2) := by decide +kernel
theorem dL_addsUp_89 : decode cL_addsUp 89 = .ok (.aload_n 0, 1) := by decide +kernel
theorem dL_addsUp_90 : decode cL_addsUp 90 = .ok (.iload 6, 2) := by decide +kernel
theorem dL_addsUp_92 : decode cL_addsUp 92 = .ok (.iconst 5, 1) := by decide +kernel
theorem dL_addsUp_93 : decode cL_addsUp 93 = .ok (.invokevirtual 143, 3) := by decide +kernel
theorem dL_addsUp_96 : decode cL_addsUp 96 = .ok (.iadd, 1) := by decide +kernel
theorem dL_addsUp_97 : decode cL_addsUp 97 = .ok (.istore 4, 2) := by decide +kernel
theorem dL_addsUp_99 : decode cL_addsUp 99 = .ok (.iload 5, 2) := by decide +kernel
theorem dL_addsUp_101 : decode cL_addsUp 101 = .ok (.aload_n 0, 1) := by decide +kernel
theorem dL_addsUp_102 : decode cL_addsUp 102 = .ok (.iload 6, 2) := by decide +kernel
theorem dL_addsUp_104 : decode cL_addsUp 104 = .ok (.iconst 1, 1) := by decide +kernel
theorem dL_addsUp_105 : decode cL_addsUp 105 = .ok (.invokevirtual 143, 3) := by decide +kernel
theorem dL_addsUp_108 : decode cL_addsUp 108 = .ok (.ifCond .lt 7, 3) := by decide +kernel
theorem dL_addsUp_111 : decode cL_addsUp 111 = .ok (.iconst 1, 1) := by decide +kernel
theorem dL_addsUp_112 : decode cL_addsUp 112 = .ok (.goto 4, 3) := by decide +kernel
theorem dL_addsUp_115 : decode cL_addsUp 115 = .ok (.iconst 0, 1) := by decide +kernel
theorem dL_addsUp_116 : decode cL_addsUp 116 = .ok (.iadd, 1) := by decide +kernel
theorem dL_addsUp_117 : decode cL_addsUp 117 = .ok (.istore 5, 2) := by decide +kernel
theorem dL_addsUp_119 : decode cL_addsUp 119 = .ok (.aload_n 0, 1) := by decide +kernel
theorem dL_addsUp_120 : decode cL_addsUp 120 = .ok (.iload 6, 2) := by decide +kernel
theorem dL_addsUp_122 : decode cL_addsUp 122 = .ok (.iconst 1, 1) := by decide +kernel
theorem dL_addsUp_123 : decode cL_addsUp 123 = .ok (.invokevirtual 143, 3) := by decide +kernel
theorem dL_addsUp_126 : decode cL_addsUp 126 = .ok (.ifCond .lt 19, 3) := by decide +kernel
theorem dL_addsUp_129 : decode cL_addsUp 129 = .ok (.aload_n 0, 1) := by decide +kernel
theorem dL_addsUp_130 : decode cL_addsUp 130 = .ok (.aload_n 0, 1) := by decide +kernel
theorem dL_addsUp_131 : decode cL_addsUp 131 = .ok (.iload 6, 2) := by decide +kernel
theorem dL_addsUp_133 : decode cL_addsUp 133 = .ok (.iconst 1, 1) := by decide +kernel
theorem dL_addsUp_134 : decode cL_addsUp 134 = .ok (.invokevirtual 143, 3) := by decide +kernel
theorem dL_addsUp_137 : decode cL_addsUp 137 = .ok (.invokevirtual 155, 3) := by decide +kernel
theorem dL_addsUp_140 : decode cL_addsUp 140 = .ok (.iload 7, 2) := by decide +kernel
theorem dL_addsUp_142 : decode cL_addsUp 142 = .ok (.if_icmp .ne 24, 3) := by decide +kernel
theorem dL_addsUp_145 : decode cL_addsUp 145 = .ok (.aload_n 0, 1) := by decide +kernel
theorem dL_addsUp_146 : decode cL_addsUp 146 = .ok (.iload 6, 2) := by decide +kernel
theorem dL_addsUp_148 : decode cL_addsUp 148 = .ok (.iconst 2, 1) := by decide +kernel
theorem dL_addsUp_149 : decode cL_addsUp 149 = .ok (.invokevirtual 143, 3) := by decide +kernel
theorem dL_addsUp_152 : decode cL_addsUp 152 = .ok (.iconst 1, 1) := by decide +kernel
theorem dL_addsUp_153 : decode cL_addsUp 153 = .ok (.if_icmp .ne 15, 3) := by decide +kernel
theorem dL_addsUp_156 : decode cL_addsUp 156 = .ok (.aload_n 0, 1) := by decide +kernel
theorem dL_addsUp_157 : decode cL_addsUp 157 = .ok (.iload 6, 2) := by decide +kernel
theorem dL_addsUp_159 : decode cL_addsUp 159 = .ok (.iconst 1, 1) := by decide +kernel
theorem dL_addsUp_160 : decode cL_addsUp 160 = .ok (.invokevirtual 143, 3) := by decide +kernel
theorem dL_addsUp_163 : decode cL_addsUp 163 = .ok (.ifCond .ge 5, 3) := by decide +kernel
theorem dL_addsUp_166 : decode cL_addsUp 166 = .ok (.iconst 0, 1) := by decide +kernel
theorem dL_addsUp_167 : decode cL_addsUp 167 = .ok (.ireturn, 1) := by decide +kernel
theorem dL_addsUp_168 : decode cL_addsUp 168 = .ok (.iinc 6 1, 3) := by decide +kernel
theorem dL_addsUp_171 : decode cL_addsUp 171 = .ok (.goto (-116), 3) := by decide +kernel
theorem dL_addsUp_174 : decode cL_addsUp 174 = .ok (.iconst 0, 1) := by decide +kernel
theorem dL_addsUp_175 : decode cL_addsUp 175 = .ok (.istore 6, 2) := by decide +kernel
theorem dL_addsUp_177 : decode cL_addsUp 177 = .ok (.iconst 0, 1) := by decide +kernel
theorem dL_addsUp_178 : decode cL_addsUp 178 = .ok (.istore 7, 2) := by decide +kernel
theorem dL_addsUp_180 : decode cL_addsUp 180 = .ok (.iload 7, 2) := by decide +kernel
theorem dL_addsUp_182 : decode cL_addsUp 182 = .ok (.iconst 3, 1) := by decide +kernel
theorem dL_addsUp_183 : decode cL_addsUp 183 = .ok (.if_icmp .ge 21, 3) := by decide +kernel
theorem dL_addsUp_186 : decode cL_addsUp 186 = .ok (.iload 6, 2) := by decide +kernel
theorem dL_addsUp_188 : decode cL_addsUp 188 = .ok (.aload_n 0, 1) := by decide +kernel
theorem dL_addsUp_189 : decode cL_addsUp 189 = .ok (.iload 7, 2) := by decide +kernel
theorem dL_addsUp_191 : decode cL_addsUp 191 = .ok (.iconst 2, 1) := by decide +kernel
theorem dL_addsUp_192 : decode cL_addsUp 192 = .ok (.invokevirtual 158, 3) := by decide +kernel
theorem dL_addsUp_195 : decode cL_addsUp 195 = .ok (.iadd, 1) := by decide +kernel
theorem dL_addsUp_196 : decode cL_addsUp 196 = .ok (.istore 6, 2) := by decide +kernel
theorem dL_addsUp_198 : decode cL_addsUp 198 = .ok (.iinc 7 1, 3) := by decide +kernel
theorem dL_addsUp_201 : decode cL_addsUp 201 = .ok (.goto (-21), 3) := by decide +kernel
theorem dL_addsUp_204 : decode cL_addsUp 204 = .ok (.iload_n 1, 1) := by decide +kernel
theorem dL_addsUp_205 : decode cL_addsUp 205 = .ok (.aload_n 0, 1) := by decide +kernel
theorem dL_addsUp_206 : decode cL_addsUp 206 = .ok (.invokevirtual 119, 3) := by decide +kernel
theorem dL_addsUp_209 : decode cL_addsUp 209 = .ok (.if_icmp .ne 66, 3) := by decide +kernel
theorem dL_addsUp_212 : decode cL_addsUp 212 = .ok (.aload_n 0, 1) := by decide +kernel
theorem dL_addsUp_213 : decode cL_addsUp 213 = .ok (.invokevirtual 134, 3) := by decide +kernel
theorem dL_addsUp_216 : decode cL_addsUp 216 = .ok (.bipush 40, 2) := by decide +kernel
theorem dL_addsUp_218 : decode cL_addsUp 218 = .ok (.iload_n 2, 1) := by decide +kernel
theorem dL_addsUp_219 : decode cL_addsUp 219 = .ok (.invokestatic 161, 3) := by decide +kernel
theorem dL_addsUp_222 : decode cL_addsUp 222 = .ok (.if_icmp .ne 53, 3) := by decide +kernel
theorem dL_addsUp_225 : decode cL_addsUp 225 = .ok (.aload_n 3, 1) := by decide +kernel
theorem dL_addsUp_226 : decode cL_addsUp 226 = .ok (.iconst 0, 1) := by decide +kernel
theorem dL_addsUp_227 : decode cL_addsUp 227 = .ok (.iaload, 1) := by decide +kernel
theorem dL_addsUp_228 : decode cL_addsUp 228 = .ok (.aload_n 0, 1) := by decide +kernel
theorem dL_addsUp_229 : decode cL_addsUp 229 = .ok (.iconst 0, 1) := by decide +kernel
theorem dL_addsUp_230 : decode cL_addsUp 230 = .ok (.invokevirtual 164, 3) := by decide +kernel
theorem dL_addsUp_233 : decode cL_addsUp 233 = .ok (.if_icmp .ne 42, 3) := by decide +kernel
theorem dL_addsUp_236 : decode cL_addsUp 236 = .ok (.aload_n 3, 1) := by decide +kernel
theorem dL_addsUp_237 : decode cL_addsUp 237 = .ok (.iconst 1, 1) := by decide +kernel
theorem dL_addsUp_238 : decode cL_addsUp 238 = .ok (.iaload, 1) := by decide +kernel
theorem dL_addsUp_239 : decode cL_addsUp 239 = .ok (.aload_n 0, 1) := by decide +kernel
theorem dL_addsUp_240 : decode cL_addsUp 240 = .ok (.iconst 1, 1) := by decide +kernel
theorem dL_addsUp_241 : decode cL_addsUp 241 = .ok (.invokevirtual 164, 3) := by decide +kernel
theorem dL_addsUp_244 : decode cL_addsUp 244 = .ok (.if_icmp .ne 31, 3) := by decide +kernel
theorem dL_addsUp_247 : decode cL_addsUp 247 = .ok (.iload 4, 2) := by decide +kernel
theorem dL_addsUp_249 : decode cL_addsUp 249 = .ok (.aload_n 0, 1) := by decide +kernel
theorem dL_addsUp_250 : decode cL_addsUp 250 = .ok (.iconst 1, 1) := by decide +kernel
theorem dL_addsUp_251 : decode cL_addsUp 251 = .ok (.invokevirtual 152, 3) := by decide +kernel
theorem dL_addsUp_254 : decode cL_addsUp 254 = .ok (.if_icmp .ne 21, 3) := by decide +kernel
theorem dL_addsUp_257 : decode cL_addsUp 257 = .ok (.iload 5, 2) := by decide +kernel
theorem dL_addsUp_259 : decode cL_addsUp 259 = .ok (.iload 6, 2) := by decide +kernel
theorem dL_addsUp_261 : decode cL_addsUp 261 = .ok (.if_icmp .ne 14, 3) := by decide +kernel
theorem dL_addsUp_264 : decode cL_addsUp 264 = .ok (.aload_n 0, 1) := by decide +kernel
theorem dL_addsUp_265 : decode cL_addsUp 265 = .ok (.invokevirtual 167, 3) := by decide +kernel
theorem dL_addsUp_268 : decode cL_addsUp 268 = .ok (.ifCond .eq 7, 3) := by decide +kernel
theorem dL_addsUp_271 : decode cL_addsUp 271 = .ok (.iconst 1, 1) := by decide +kernel
theorem dL_addsUp_272 : decode cL_addsUp 272 = .ok (.goto 4, 3) := by decide +kernel
theorem dL_addsUp_275 : decode cL_addsUp 275 = .ok (.iconst 0, 1) := by decide +kernel
theorem dL_addsUp_276 : decode cL_addsUp 276 = .ok (.ireturn, 1) := by decide +kernel
theorem dL_areSpots_0 : decode cL_areSpots 0 = .ok (.lconst 0, 1) := by decide +kernel
theorem dL_areSpots_1 : decode cL_areSpots 1 = .ok (.lstore_n 1, 1) := by decide +kernel
theorem dL_areSpots_2 : decode cL_areSpots 2 = .ok (.iconst 0, 1) := by decide +kernel
theorem dL_areSpots_3 : decode cL_areSpots 3 = .ok (.istore_n 3, 1) := by decide +kernel
theorem dL_areSpots_4 : decode cL_areSpots 4 = .ok (.iload_n 3, 1) := by decide +kernel
theorem dL_areSpots_5 : decode cL_areSpots 5 = .ok (.bipush 6, 2) := by decide +kernel
theorem dL_areSpots_7 : decode cL_areSpots 7 = .ok (.if_icmp .ge 113, 3) := by decide +kernel
theorem dL_areSpots_10 : decode cL_areSpots 10 = .ok (.aload_n 0, 1) := by decide +kernel
theorem dL_areSpots_11 : decode cL_areSpots 11 = .ok (.iload_n 3, 1) := by decide +kernel
theorem dL_areSpots_12 : decode cL_areSpots 12 = .ok (.iconst 3, 1) := by decide +kernel
theorem dL_areSpots_13 : decode cL_areSpots 13 = .ok (.invokevirtual 170, 3) := by decide +kernel
theorem dL_areSpots_16 : decode cL_areSpots 16 = .ok (.istore 4, 2) := by decide +kernel
theorem dL_areSpots_18 : decode cL_areSpots 18 = .ok (.aload_n 0, 1) := by decide +kernel
theorem dL_areSpots_19 : decode cL_areSpots 19 = .ok (.invokevirtual 137, 3) := by decide +kernel
theorem dL_areSpots_22 : decode cL_areSpots 22 = .ok (.iload_n 3, 1) := by decide +kernel
theorem dL_areSpots_23 : decode cL_areSpots 23 = .ok (.lshr, 1) := by decide +kernel
theorem dL_areSpots_24 : decode cL_areSpots 24 = .ok (.lconst 1, 1) := by decide +kernel
theorem dL_areSpots_25 : decode cL_areSpots 25 = .ok (.land, 1) := by decide +kernel
theorem dL_areSpots_26 : decode cL_areSpots 26 = .ok (.lconst 1, 1) := by decide +kernel
theorem dL_areSpots_27 : decode cL_areSpots 27 = .ok (.lcmp, 1) := by decide +kernel
theorem dL_areSpots_28 : decode cL_areSpots 28 = .ok (.ifCond .ne 7, 3) := by decide +kernel
theorem dL_areSpots_31 : decode cL_areSpots 31 = .ok (.iconst 1, 1) := by decide +kernel
theorem dL_areSpots_32 : decode cL_areSpots 32 = .ok (.goto 4, 3) := by decide +kernel
theorem dL_areSpots_35 : decode cL_areSpots 35 = .ok (.iconst 0, 1) := by decide +kernel
theorem dL_areSpots_36 : decode cL_areSpots 36 = .ok (.iload 4, 2) := by decide +kernel
theorem dL_areSpots_38 : decode cL_areSpots 38 = .ok (.iconst 1, 1) := by decide +kernel
theorem dL_areSpots_39 : decode cL_areSpots 39 = .ok (.if_icmp .ne 7, 3) := by decide +kernel
theorem dL_areSpots_42 : decode cL_areSpots 42 = .ok (.iconst 1, 1) := by decide +kernel
theorem dL_areSpots_43 : decode cL_areSpots 43 = .ok (.goto 4, 3) := by decide +kernel
theorem dL_areSpots_46 : decode cL_areSpots 46 = .ok (.iconst 0, 1) := by decide +kernel
theorem dL_areSpots_47 : decode cL_areSpots 47 = .ok (.if_icmp .ne 44, 3) := by decide +kernel
theorem dL_areSpots_50 : decode cL_areSpots 50 = .ok (.aload_n 0, 1) := by decide +kernel
theorem dL_areSpots_51 : decode cL_areSpots 51 = .ok (.iload_n 3, 1) := by decide +kernel
theorem dL_areSpots_52 : decode cL_areSpots 52 = .ok (.iconst 5, 1) := by decide +kernel
theorem dL_areSpots_53 : decode cL_areSpots 53 = .ok (.invokevirtual 170, 3) := by decide +kernel
theorem dL_areSpots_56 : decode cL_areSpots 56 = .ok (.ifCond .lt 7, 3) := by decide +kernel
theorem dL_areSpots_59 : decode cL_areSpots 59 = .ok (.iconst 1, 1) := by decide +kernel
theorem dL_areSpots_60 : decode cL_areSpots 60 = .ok (.goto 4, 3) := by decide +kernel
theorem dL_areSpots_63 : decode cL_areSpots 63 = .ok (.iconst 0, 1) := by decide +kernel
theorem dL_areSpots_64 : decode cL_areSpots 64 = .ok (.iload 4, 2) := by decide +kernel
theorem dL_areSpots_66 : decode cL_areSpots 66 = .ok (.iconst 1, 1) := by decide +kernel
theorem dL_areSpots_67 : decode cL_areSpots 67 = .ok (.if_icmp .ne 7, 3) := by decide +kernel
theorem dL_areSpots_70 : decode cL_areSpots 70 = .ok (.iconst 1, 1) := by decide +kernel
theorem dL_areSpots_71 : decode cL_areSpots 71 = .ok (.goto 4, 3) := by decide +kernel
theorem dL_areSpots_74 : decode cL_areSpots 74 = .ok (.iconst 0, 1) := by decide +kernel
theorem dL_areSpots_75 : decode cL_areSpots 75 = .ok (.if_icmp .ne 16, 3) := by decide +kernel
theorem dL_areSpots_78 : decode cL_areSpots 78 = .ok (.aload_n 0, 1) := by decide +kernel
theorem dL_areSpots_79 : decode cL_areSpots 79 = .ok (.iload_n 3, 1) := by decide +kernel
theorem dL_areSpots_80 : decode cL_areSpots 80 = .ok (.iconst 4, 1) := by decide +kernel
theorem dL_areSpots_81 : decode cL_areSpots 81 = .ok (.invokevirtual 170, 3) := by decide +kernel
theorem dL_areSpots_84 : decode cL_areSpots 84 = .ok (.aload_n 0, 1) := by decide +kernel
theorem dL_areSpots_85 : decode cL_areSpots 85 = .ok (.invokevirtual 119, 3) := by decide +kernel
theorem dL_areSpots_88 : decode cL_areSpots 88 = .ok (.if_icmp .le 5, 3) := by decide +kernel
theorem dL_areSpots_91 : decode cL_areSpots 91 = .ok (.iconst 0, 1) := by decide +kernel
theorem dL_areSpots_92 : decode cL_areSpots 92 = .ok (.ireturn, 1) := by decide +kernel
theorem dL_areSpots_93 : decode cL_areSpots 93 = .ok (.iload 4, 2) := by decide +kernel
theorem dL_areSpots_95 : decode cL_areSpots 95 = .ok (.ifCond .ne 19, 3) := by decide +kernel
theorem dL_areSpots_98 : decode cL_areSpots 98 = .ok (.aload_n 0, 1) := by decide +kernel
theorem dL_areSpots_99 : decode cL_areSpots 99 = .ok (.iload_n 3, 1) := by decide +kernel
theorem dL_areSpots_100 : decode cL_areSpots 100 = .ok (.invokevirtual 173, 3) := by decide +kernel
theorem dL_areSpots_103 : decode cL_areSpots 103 = .ok (.lconst 0, 1) := by decide +kernel
theorem dL_areSpots_104 : decode cL_areSpots 104 = .ok (.lcmp, 1) := by decide +kernel
theorem dL_areSpots_105 : decode cL_areSpots 105 = .ok (.ifCond .ne 9, 3) := by decide +kernel
theorem dL_areSpots_108 : decode cL_areSpots 108 = .ok (.lload_n 1, 1) := by decide +kernel
theorem dL_areSpots_109 : decode cL_areSpots 109 = .ok (.lconst 1, 1) := by decide +kernel
theorem dL_areSpots_110 : decode cL_areSpots 110 = .ok (.iload_n 3, 1) := by decide +kernel
theorem dL_areSpots_111 : decode cL_areSpots 111 = .ok (.lshl, 1) := by decide +kernel
theorem dL_areSpots_112 : decode cL_areSpots 112 = .ok (.lor, 1) := by decide +kernel
theorem dL_areSpots_113 : decode cL_areSpots 113 = .ok (.lstore_n 1, 1) := by decide +kernel
theorem dL_areSpots_114 : decode cL_areSpots 114 = .ok (.iinc 3 1, 3) := by decide +kernel
theorem dL_areSpots_117 : decode cL_areSpots 117 = .ok (.goto (-113), 3) := by decide +kernel
theorem dL_areSpots_120 : decode cL_areSpots 120 = .ok (.lload_n 1, 1) := by decide +kernel
theorem dL_areSpots_121 : decode cL_areSpots 121 = .ok (.aload_n 0, 1) := by decide +kernel
theorem dL_areSpots_122 : decode cL_areSpots 122 = .ok (.invokevirtual 177, 3) := by decide +kernel
theorem dL_areSpots_125 : decode cL_areSpots 125 = .ok (.lcmp, 1) := by decide +kernel
theorem dL_areSpots_126 : decode cL_areSpots 126 = .ok (.ifCond .ne 21, 3) := by decide +kernel
theorem dL_areSpots_129 : decode cL_areSpots 129 = .ok (.aload_n 0, 1) := by decide +kernel
theorem dL_areSpots_130 : decode cL_areSpots 130 = .ok (.invokevirtual 177, 3) := by decide +kernel
theorem dL_areSpots_133 : decode cL_areSpots 133 = .ok (.aload_n 0, 1) := by decide +kernel
theorem dL_areSpots_134 : decode cL_areSpots 134 = .ok (.invokevirtual 137, 3) := by decide +kernel
theorem dL_areSpots_137 : decode cL_areSpots 137 = .ok (.land, 1) := by decide +kernel
theorem dL_areSpots_138 : decode cL_areSpots 138 = .ok (.lconst 0, 1) := by decide +kernel
theorem dL_areSpots_139 : decode cL_areSpots 139 = .ok (.lcmp, 1) := by decide +kernel
theorem dL_areSpots_140 : decode cL_areSpots 140 = .ok (.ifCond .ne 7, 3) := by decide +kernel
theorem dL_areSpots_143 : decode cL_areSpots 143 = .ok (.iconst 1, 1) := by decide +kernel
theorem dL_areSpots_144 : decode cL_areSpots 144 = .ok (.goto 4, 3) := by decide +kernel
theorem dL_areSpots_147 : decode cL_areSpots 147 = .ok (.iconst 0, 1) := by decide +kernel
theorem dL_areSpots_148 : decode cL_areSpots 148 = .ok (.ireturn, 1) := by decide +kernel
theorem dL_foresees_0 : decode cL_foresees 0 = .ok (.aload_n 0, 1) := by decide +kernel
theorem dL_foresees_1 : decode cL_foresees 1 = .ok (.invokestatic 180, 3) := by decide +kernel
theorem dL_foresees_4 : decode cL_foresees 4 = .ok (.lstore_n 1, 1) := by decide +kernel
theorem dL_foresees_5 : decode cL_foresees 5 = .ok (.aload_n 0, 1) := by decide +kernel
theorem dL_foresees_6 : decode cL_foresees 6 = .ok (.invokevirtual 184, 3) := by decide +kernel
theorem dL_foresees_9 : decode cL_foresees 9 = .ok (.istore_n 3, 1) := by decide +kernel
theorem dL_foresees_10 : decode cL_foresees 10 = .ok (.aload_n 0, 1) := by decide +kernel
theorem dL_foresees_11 : decode cL_foresees 11 = .ok (.invokevirtual 187, 3) := by decide +kernel
theorem dL_foresees_14 : decode cL_foresees 14 = .ok (.istore 4, 2) := by decide +kernel
theorem dL_foresees_16 : decode cL_foresees 16 = .ok (.aload_n 0, 1) := by decide +kernel
theorem dL_foresees_17 : decode cL_foresees 17 = .ok (.invokevirtual 190, 3) := by decide +kernel
theorem dL_foresees_20 : decode cL_foresees 20 = .ok (.istore 5, 2) := by decide +kernel
theorem dL_foresees_22 : decode cL_foresees 22 = .ok (.aload_n 0, 1) := by decide +kernel
theorem dL_foresees_23 : decode cL_foresees 23 = .ok (.invokevirtual 193, 3) := by decide +kernel
theorem dL_foresees_26 : decode cL_foresees 26 = .ok (.istore 6, 2) := by decide +kernel
theorem dL_foresees_28 : decode cL_foresees 28 = .ok (.aload_n 0, 1) := by decide +kernel
theorem dL_foresees_29 : decode cL_foresees 29 = .ok (.invokevirtual 196, 3) := by decide +kernel
theorem dL_foresees_32 : decode cL_foresees 32 = .ok (.istore 7, 2) := by decide +kernel
theorem dL_foresees_34 : decode cL_foresees 34 = .ok (.aload_n 0, 1) := by decide +kernel
theorem dL_foresees_35 : decode cL_foresees 35 = .ok (.invokevirtual 199, 3) := by decide +kernel
theorem dL_foresees_38 : decode cL_foresees 38 = .ok (.istore 8, 2) := by decide +kernel
theorem dL_foresees_40 : decode cL_foresees 40 = .ok (.aload_n 0, 1) := by decide +kernel
theorem dL_foresees_41 : decode cL_foresees 41 = .ok (.invokevirtual 202, 3) := by decide +kernel
theorem dL_foresees_44 : decode cL_foresees 44 = .ok (.istore 9, 2) := by decide +kernel
theorem dL_foresees_46 : decode cL_foresees 46 = .ok (.aload_n 0, 1) := by decide +kernel
theorem dL_foresees_47 : decode cL_foresees 47 = .ok (.invokevirtual 205, 3) := by decide +kernel
theorem dL_foresees_50 : decode cL_foresees 50 = .ok (.istore 10, 2) := by decide +kernel
theorem dL_foresees_52 : decode cL_foresees 52 = .ok (.aload_n 0, 1) := by decide +kernel
theorem dL_foresees_53 : decode cL_foresees 53 = .ok (.iconst 0, 1) := by decide +kernel
theorem dL_foresees_54 : decode cL_foresees 54 = .ok (.invokevirtual 208, 3) := by decide +kernel
theorem dL_foresees_57 : decode cL_foresees 57 = .ok (.istore 11, 2) := by decide +kernel
theorem dL_foresees_59 : decode cL_foresees 59 = .ok (.aload_n 0, 1) := by decide +kernel
theorem dL_foresees_60 : decode cL_foresees 60 = .ok (.invokestatic 180, 3) := by decide +kernel
theorem dL_foresees_63 : decode cL_foresees 63 = .ok (.lload_n 1, 1) := by decide +kernel
theorem dL_foresees_64 : decode cL_foresees 64 = .ok (.lcmp, 1) := by decide +kernel
theorem dL_foresees_65 : decode cL_foresees 65 = .ok (.ifCond .ne 59, 3) := by decide +kernel
theorem dL_foresees_68 : decode cL_foresees 68 = .ok (.iload 10, 2) := by decide +kernel
theorem dL_foresees_70 : decode cL_foresees 70 = .ok (.ifCond .lt 54, 3) := by decide +kernel
theorem dL_foresees_73 : decode cL_foresees 73 = .ok (.iload 10, 2) := by decide +kernel
theorem dL_foresees_75 : decode cL_foresees 75 = .ok (.iconst 5, 1) := by decide +kernel
theorem dL_foresees_76 : decode cL_foresees 76 = .ok (.if_icmp .gt 48, 3) := by decide +kernel
theorem dL_foresees_79 : decode cL_foresees 79 = .ok (.iload 4, 2) := by decide +kernel
theorem dL_foresees_81 : decode cL_foresees 81 = .ok (.ifCond .ge 7, 3) := by decide +kernel
theorem dL_foresees_84 : decode cL_foresees 84 = .ok (.iconst 1, 1) := by decide +kernel
theorem dL_foresees_85 : decode cL_foresees 85 = .ok (.goto 4, 3) := by decide +kernel
theorem dL_foresees_88 : decode cL_foresees 88 = .ok (.iconst 0, 1) := by decide +kernel
theorem dL_foresees_89 : decode cL_foresees 89 = .ok (.iload 5, 2) := by decide +kernel
theorem dL_foresees_91 : decode cL_foresees 91 = .ok (.ifCond .ge 7, 3) := by decide +kernel
theorem dL_foresees_94 : decode cL_foresees 94 = .ok (.iconst 1, 1) := by decide +kernel
theorem dL_foresees_95 : decode cL_foresees 95 = .ok (.goto 4, 3) := by decide +kernel
theorem dL_foresees_98 : decode cL_foresees 98 = .ok (.iconst 0, 1) := by decide +kernel
theorem dL_foresees_99 : decode cL_foresees 99 = .ok (.if_icmp .ne 25, 3) := by decide +kernel
theorem dL_foresees_102 : decode cL_foresees 102 = .ok (.iload_n 3, 1) := by decide +kernel
theorem dL_foresees_103 : decode cL_foresees 103 = .ok (.ifCond .ge 7, 3) := by decide +kernel
theorem dL_foresees_106 : decode cL_foresees 106 = .ok (.iconst 1, 1) := by decide +kernel
theorem dL_foresees_107 : decode cL_foresees 107 = .ok (.goto 4, 3) := by decide +kernel
theorem dL_foresees_110 : decode cL_foresees 110 = .ok (.iconst 0, 1) := by decide +kernel
theorem dL_foresees_111 : decode cL_foresees 111 = .ok (.iload 4, 2) := by decide +kernel
theorem dL_foresees_113 : decode cL_foresees 113 = .ok (.ifCond .ne 7, 3) := by decide +kernel
theorem dL_foresees_116 : decode cL_foresees 116 = .ok (.iconst 1, 1) := by decide +kernel
theorem dL_foresees_117 : decode cL_foresees 117 = .ok (.goto 4, 3) := by decide +kernel
theorem dL_foresees_120 : decode cL_foresees 120 = .ok (.iconst 0, 1) := by decide +kernel
theorem dL_foresees_121 : decode cL_foresees 121 = .ok (.if_icmp .eq 5, 3) := by decide +kernel
theorem dL_foresees_124 : decode cL_foresees 124 = .ok (.iconst 0, 1) := by decide +kernel
theorem dL_foresees_125 : decode cL_foresees 125 = .ok (.ireturn, 1) := by decide +kernel
theorem dL_foresees_126 : decode cL_foresees 126 = .ok (.iload 4, 2) := by decide +kernel
theorem dL_foresees_128 : decode cL_foresees 128 = .ok (.ifCond .ge 5, 3) := by decide +kernel
theorem dL_foresees_131 : decode cL_foresees 131 = .ok (.iconst 1, 1) := by decide +kernel
theorem dL_foresees_132 : decode cL_foresees 132 = .ok (.ireturn, 1) := by decide +kernel
theorem dL_foresees_133 : decode cL_foresees 133 = .ok (.aload_n 0, 1) := by decide +kernel
theorem dL_foresees_134 : decode cL_foresees 134 = .ok (.iconst 0, 1) := by decide +kernel
theorem dL_foresees_135 : decode cL_foresees 135 = .ok (.invokevirtual 211, 3) := by decide +kernel
theorem dL_foresees_138 : decode cL_foresees 138 = .ok (.pop, 1) := by decide +kernel
theorem dL_foresees_139 : decode cL_foresees 139 = .ok (.aload_n 0, 1) := by decide +kernel
theorem dL_foresees_140 : decode cL_foresees 140 = .ok (.iconst 1, 1) := by decide +kernel
theorem dL_foresees_141 : decode cL_foresees 141 = .ok (.invokevirtual 152, 3) := by decide +kernel
theorem dL_foresees_144 : decode cL_foresees 144 = .ok (.istore 12, 2) := by decide +kernel
theorem dL_foresees_146 : decode cL_foresees 146 = .ok (.aload_n 0, 1) := by decide +kernel
theorem dL_foresees_147 : decode cL_foresees 147 = .ok (.bipush 6, 2) := by decide +kernel
theorem dL_foresees_149 : decode cL_foresees 149 = .ok (.invokevirtual 152, 3) := by decide +kernel
theorem dL_foresees_152 : decode cL_foresees 152 = .ok (.istore 13, 2) := by decide +kernel
theorem dL_foresees_154 : decode cL_foresees 154 = .ok (.iconst 0, 1) := by decide +kernel
theorem dL_foresees_155 : decode cL_foresees 155 = .ok (.istore 14, 2) := by decide +kernel
theorem dL_foresees_157 : decode cL_foresees 157 = .ok (.aload_n 0, 1) := by decide +kernel
theorem dL_foresees_158 : decode cL_foresees 158 = .ok (.iconst 0, 1) := by decide +kernel
theorem dL_foresees_159 : decode cL_foresees 159 = .ok (.iconst 2, 1) := by decide +kernel
theorem dL_foresees_160 : decode cL_foresees 160 = .ok (.invokevirtual 146, 3) := by decide +kernel
theorem dL_foresees_163 : decode cL_foresees 163 = .ok (.ifCond .ne 16, 3) := by decide +kernel
theorem dL_foresees_166 : decode cL_foresees 166 = .ok (.aload_n 0, 1) := by decide +kernel
theorem dL_foresees_167 : decode cL_foresees 167 = .ok (.iconst 0, 1) := by decide +kernel
theorem dL_foresees_168 : decode cL_foresees 168 = .ok (.iconst 4, 1) := by decide +kernel
theorem dL_foresees_169 : decode cL_foresees 169 = .ok (.invokevirtual 146, 3) := by decide +kernel
theorem dL_foresees_172 : decode cL_foresees 172 = .ok (.ifCond .ne 7, 3) := by decide +kernel
theorem dL_foresees_175 : decode cL_foresees 175 = .ok (.iconst 0, 1) := by decide +kernel
theorem dL_foresees_176 : decode cL_foresees 176 = .ok (.goto 4, 3) := by decide +kernel
theorem dL_foresees_179 : decode cL_foresees 179 = .ok (.iconst (-1), 1) := by decide +kernel
theorem dL_foresees_180 : decode cL_foresees 180 = .ok (.istore 15, 2) := by decide +kernel
theorem dL_foresees_182 : decode cL_foresees 182 = .ok (.iload 14, 2) := by decide +kernel
theorem dL_foresees_184 : decode cL_foresees 184 = .ok (.iload 4, 2) := by decide +kernel
theorem dL_foresees_186 : decode cL_foresees 186 = .ok (.if_icmp .ge 107, 3) := by decide +kernel
theorem dL_foresees_189 : decode cL_foresees 189 = .ok (.aload_n 0, 1) := by decide +kernel
theorem dL_foresees_190 : decode cL_foresees 190 = .ok (.invokevirtual 184, 3) := by decide +kernel
theorem dL_foresees_193 : decode cL_foresees 193 = .ok (.ifCond .lt 100, 3) := by decide +kernel
theorem dL_foresees_196 : decode cL_foresees 196 = .ok (.aload_n 0, 1) := by decide +kernel
theorem dL_foresees_197 : decode cL_foresees 197 = .ok (.invokevirtual 184, 3) := by decide +kernel
theorem dL_foresees_200 : decode cL_foresees 200 = .ok (.istore 16, 2) := by decide +kernel
theorem dL_foresees_202 : decode cL_foresees 202 = .ok (.aload_n 0, 1) := by decide +kernel
theorem dL_foresees_203 : decode cL_foresees 203 = .ok (.invokevirtual 214, 3) := by decide +kernel
theorem dL_foresees_206 : decode cL_foresees 206 = .ok (.istore 17, 2) := by decide +kernel
theorem dL_foresees_208 : decode cL_foresees 208 = .ok (.iinc 14 1, 3) := by decide +kernel
theorem dL_foresees_211 : decode cL_foresees 211 = .ok (.aload_n 0, 1) := by decide +kernel
theorem dL_foresees_212 : decode cL_foresees 212 = .ok (.aload_n 0, 1) := by decide +kernel
theorem dL_foresees_213 : decode cL_foresees 213 = .ok (.invokevirtual 134, 3) := by decide +kernel
theorem dL_foresees_216 : decode cL_foresees 216 = .ok (.iconst 1, 1) := by decide +kernel
theorem dL_foresees_217 : decode cL_foresees 217 = .ok (.isub, 1) := by decide +kernel
theorem dL_foresees_218 : decode cL_foresees 218 = .ok (.iconst 0, 1) := by decide +kernel
theorem dL_foresees_219 : decode cL_foresees 219 = .ok (.invokevirtual 217, 3) := by decide +kernel
theorem dL_foresees_222 : decode cL_foresees 222 = .ok (.iload 16, 2) := by decide +kernel
theorem dL_foresees_224 : decode cL_foresees 224 = .ok (.if_icmp .ne 37, 3) := by decide +kernel
theorem dL_foresees_227 : decode cL_foresees 227 = .ok (.aload_n 0, 1) := by decide +kernel
theorem dL_foresees_228 : decode cL_foresees 228 = .ok (.aload_n 0, 1) := by decide +kernel
theorem dL_foresees_229 : decode cL_foresees 229 = .ok (.invokevirtual 134, 3) := by decide +kernel
theorem dL_foresees_232 : decode cL_foresees 232 = .ok (.iconst 1, 1) := by decide +kernel
theorem dL_foresees_233 : decode cL_foresees 233 = .ok (.isub, 1) := by decide +kernel
theorem dL_foresees_234 : decode cL_foresees 234 = .ok (.iconst 1, 1) := by decide +kernel
theorem dL_foresees_235 : decode cL_foresees 235 = .ok (.invokevirtual 217, 3) := by decide +kernel
theorem dL_foresees_238 : decode cL_foresees 238 = .ok (.iload 17, 2) := by decide +kernel
theorem dL_foresees_240 : decode cL_foresees 240 = .ok (.if_icmp .ne 21, 3) := by decide +kernel
theorem dL_foresees_243 : decode cL_foresees 243 = .ok (.aload_n 0, 1) := by decide +kernel
theorem dL_foresees_244 : decode cL_foresees 244 = .ok (.aload_n 0, 1) := by decide +kernel
theorem dL_foresees_245 : decode cL_foresees 245 = .ok (.invokevirtual 134, 3) := by decide +kernel
theorem dL_foresees_248 : decode cL_foresees 248 = .ok (.iconst 1, 1) := by decide +kernel
theorem dL_foresees_249 : decode cL_foresees 249 = .ok (.isub, 1) := by decide +kernel
theorem dL_foresees_250 : decode cL_foresees 250 = .ok (.iconst 2, 1) := by decide +kernel
theorem dL_foresees_251 : decode cL_foresees 251 = .ok (.invokevirtual 217, 3) := by decide +kernel
theorem dL_foresees_254 : decode cL_foresees 254 = .ok (.aload_n 0, 1) := by decide +kernel
theorem dL_foresees_255 : decode cL_foresees 255 = .ok (.invokevirtual 119, 3) := by decide +kernel
theorem dL_foresees_258 : decode cL_foresees 258 = .ok (.if_icmp .eq 5, 3) := by decide +kernel
theorem dL_foresees_261 : decode cL_foresees 261 = .ok (.iconst 0, 1) := by decide +kernel
theorem dL_foresees_262 : decode cL_foresees 262 = .ok (.ireturn, 1) := by decide +kernel
theorem dL_foresees_263 : decode cL_foresees 263 = .ok (.iload 15, 2) := by decide +kernel
theorem dL_foresees_265 : decode cL_foresees 265 = .ok (.ifCond .ge 25, 3) := by decide +kernel
theorem dL_foresees_268 : decode cL_foresees 268 = .ok (.aload_n 0, 1) := by decide +kernel
theorem dL_foresees_269 : decode cL_foresees 269 = .ok (.iconst 0, 1) := by decide +kernel
theorem dL_foresees_270 : decode cL_foresees 270 = .ok (.iconst 2, 1) := by decide +kernel
theorem dL_foresees_271 : decode cL_foresees 271 = .ok (.invokevirtual 146, 3) := by decide +kernel
theorem dL_foresees_274 : decode cL_foresees 274 = .ok (.ifCond .ne 16, 3) := by decide +kernel
theorem dL_foresees_277 : decode cL_foresees 277 = .ok (.aload_n 0, 1) := by decide +kernel
theorem dL_foresees_278 : decode cL_foresees 278 = .ok (.iconst 0, 1) := by decide +kernel
theorem dL_foresees_279 : decode cL_foresees 279 = .ok (.iconst 4, 1) := by decide +kernel
theorem dL_foresees_280 : decode cL_foresees 280 = .ok (.invokevirtual 146, 3) := by decide +kernel
theorem dL_foresees_283 : decode cL_foresees 283 = .ok (.ifCond .ne 7, 3) := by decide +kernel
theorem dL_foresees_286 : decode cL_foresees 286 = .ok (.iload 14, 2) := by decide +kernel
theorem dL_foresees_288 : decode cL_foresees 288 = .ok (.istore 15, 2) := by decide +kernel
theorem dL_foresees_290 : decode cL_foresees 290 = .ok (.goto (-108), 3) := by decide +kernel
theorem dL_foresees_293 : decode cL_foresees 293 = .ok (.iload 14, 2) := by decide +kernel
theorem dL_foresees_295 : decode cL_foresees 295 = .ok (.iload 4, 2) := by decide +kernel
theorem dL_foresees_297 : decode cL_foresees 297 = .ok (.if_icmp .ne 70, 3) := by decide +kernel
theorem dL_foresees_300 : decode cL_foresees 300 = .ok (.aload_n 0, 1) := by decide +kernel
theorem dL_foresees_301 : decode cL_foresees 301 = .ok (.invokevirtual 184, 3) := by decide +kernel
theorem dL_foresees_304 : decode cL_foresees 304 = .ok (.ifCond .ge 63, 3) := by decide +kernel
theorem dL_foresees_307 : decode cL_foresees 307 = .ok (.aload_n 0, 1) := by decide +kernel
theorem dL_foresees_308 : decode cL_foresees 308 = .ok (.invokevirtual 119, 3) := by decide +kernel
theorem dL_foresees_311 : decode cL_foresees 311 = .ok (.iload 5, 2) := by decide +kernel
theorem dL_foresees_313 : decode cL_foresees 313 = .ok (.if_icmp .ne 54, 3) := by decide +kernel
theorem dL_foresees_316 : decode cL_foresees 316 = .ok (.aload_n 0, 1) := by decide +kernel
theorem dL_foresees_317 : decode cL_foresees 317 = .ok (.invokevirtual 137, 3) := by decide +kernel
theorem dL_foresees_320 : decode cL_foresees 320 = .ok (.invokestatic 220, 3) := by decide +kernel
theorem dL_foresees_323 : decode cL_foresees 323 = .ok (.iload 6, 2) := by decide +kernel
theorem dL_foresees_325 : decode cL_foresees 325 = .ok (.if_icmp .ne 42, 3) := by decide +kernel
theorem dL_foresees_328 : decode cL_foresees 328 = .ok (.aload_n 0, 1) := by decide +kernel
theorem dL_foresees_329 : decode cL_foresees 329 = .ok (.iconst 1, 1) := by decide +kernel
theorem dL_foresees_330 : decode cL_foresees 330 = .ok (.invokevirtual 152, 3) := by decide +kernel
theorem dL_foresees_333 : decode cL_foresees 333 = .ok (.iload 12, 2) := by decide +kernel
theorem dL_foresees_335 : decode cL_foresees 335 = .ok (.isub, 1) := by decide +kernel
theorem dL_foresees_336 : decode cL_foresees 336 = .ok (.iload 8, 2) := by decide +kernel
theorem dL_foresees_338 : decode cL_foresees 338 = .ok (.if_icmp .ne 29, 3) := by decide +kernel
theorem dL_foresees_341 : decode cL_foresees 341 = .ok (.aload_n 0, 1) := by decide +kernel
theorem dL_foresees_342 : decode cL_foresees 342 = .ok (.bipush 6, 2) := by decide +kernel
theorem dL_foresees_344 : decode cL_foresees 344 = .ok (.invokevirtual 152, 3) := by decide +kernel
theorem dL_foresees_347 : decode cL_foresees 347 = .ok (.iload 13, 2) := by decide +kernel
theorem dL_foresees_349 : decode cL_foresees 349 = .ok (.isub, 1) := by decide +kernel
theorem dL_foresees_350 : decode cL_foresees 350 = .ok (.iload 9, 2) := by decide +kernel
theorem dL_foresees_352 : decode cL_foresees 352 = .ok (.if_icmp .ne 15, 3) := by decide +kernel
theorem dL_foresees_355 : decode cL_foresees 355 = .ok (.iload 15, 2) := by decide +kernel
theorem dL_foresees_357 : decode cL_foresees 357 = .ok (.iload 11, 2) := by decide +kernel
theorem dL_foresees_359 : decode cL_foresees 359 = .ok (.if_icmp .ne 8, 3) := by decide +kernel
theorem dL_foresees_362 : decode cL_foresees 362 = .ok (.iload 7, 2) := by decide +kernel
theorem dL_foresees_364 : decode cL_foresees 364 = .ok (.ifCond .ge 5, 3) := by decide +kernel
theorem dL_foresees_367 : decode cL_foresees 367 = .ok (.iconst 0, 1) := by decide +kernel
theorem dL_foresees_368 : decode cL_foresees 368 = .ok (.ireturn, 1) := by decide +kernel
theorem dL_foresees_369 : decode cL_foresees 369 = .ok (.aload_n 0, 1) := by decide +kernel
theorem dL_foresees_370 : decode cL_foresees 370 = .ok (.iconst 0, 1) := by decide +kernel
theorem dL_foresees_371 : decode cL_foresees 371 = .ok (.invokevirtual 225, 3) := by decide +kernel
theorem dL_foresees_374 : decode cL_foresees 374 = .ok (.pop, 1) := by decide +kernel
theorem dL_foresees_375 : decode cL_foresees 375 = .ok (.aload_n 0, 1) := by decide +kernel
theorem dL_foresees_376 : decode cL_foresees 376 = .ok (.invokestatic 180, 3) := by decide +kernel
theorem dL_foresees_379 : decode cL_foresees 379 = .ok (.lload_n 1, 1) := by decide +kernel
theorem dL_foresees_380 : decode cL_foresees 380 = .ok (.lcmp, 1) := by decide +kernel
theorem dL_foresees_381 : decode cL_foresees 381 = .ok (.ifCond .ne 7, 3) := by decide +kernel
theorem dL_foresees_384 : decode cL_foresees 384 = .ok (.iconst 1, 1) := by decide +kernel
theorem dL_foresees_385 : decode cL_foresees 385 = .ok (.goto 4, 3) := by decide +kernel
theorem dL_foresees_388 : decode cL_foresees 388 = .ok (.iconst 0, 1) := by decide +kernel
theorem dL_foresees_389 : decode cL_foresees 389 = .ok (.ireturn, 1) := by decide +kernel
theorem dL_law_0 : decode cL_law 0 = .ok (.new 25, 3) := by decide +kernel
theorem dL_law_3 : decode cL_law 3 = .ok (.dup, 1) := by decide +kernel
theorem dL_law_4 : decode cL_law 4 = .ok (.invokespecial 228, 3) := by decide +kernel
theorem dL_law_7 : decode cL_law 7 = .ok (.astore_n 1, 1) := by decide +kernel
theorem dL_law_8 : decode cL_law 8 = .ok (.aload_n 1, 1) := by decide +kernel
theorem dL_law_9 : decode cL_law 9 = .ok (.aload_n 0, 1) := by decide +kernel
theorem dL_law_10 : decode cL_law 10 = .ok (.invokestatic 229, 3) := by decide +kernel
theorem dL_law_13 : decode cL_law 13 = .ok (.invokestatic 233, 3) := by decide +kernel
theorem dL_law_16 : decode cL_law 16 = .ok (.bipush 6, 2) := by decide +kernel
theorem dL_law_18 : decode cL_law 18 = .ok (.if_icmp .eq 5, 3) := by decide +kernel
theorem dL_law_21 : decode cL_law 21 = .ok (.iconst 0, 1) := by decide +kernel
theorem dL_law_22 : decode cL_law 22 = .ok (.ireturn, 1) := by decide +kernel
theorem dL_law_23 : decode cL_law 23 = .ok (.iconst 0, 1) := by decide +kernel
theorem dL_law_24 : decode cL_law 24 = .ok (.istore_n 2, 1) := by decide +kernel
theorem dL_law_25 : decode cL_law 25 = .ok (.iload_n 2, 1) := by decide +kernel
theorem dL_law_26 : decode cL_law 26 = .ok (.bipush 22, 2) := by decide +kernel
theorem dL_law_28 : decode cL_law 28 = .ok (.if_icmp .ge 42, 3) := by decide +kernel
theorem dL_law_31 : decode cL_law 31 = .ok (.aload_n 1, 1) := by decide +kernel
theorem dL_law_32 : decode cL_law 32 = .ok (.invokevirtual 119, 3) := by decide +kernel
theorem dL_law_35 : decode cL_law 35 = .ok (.istore_n 3, 1) := by decide +kernel
theorem dL_law_36 : decode cL_law 36 = .ok (.aload_n 1, 1) := by decide +kernel
theorem dL_law_37 : decode cL_law 37 = .ok (.aload_n 0, 1) := by decide +kernel
theorem dL_law_38 : decode cL_law 38 = .ok (.bipush 30, 2) := by decide +kernel
theorem dL_law_40 : decode cL_law 40 = .ok (.iconst 3, 1) := by decide +kernel
theorem dL_law_41 : decode cL_law 41 = .ok (.iload_n 2, 1) := by decide +kernel
theorem dL_law_42 : decode cL_law 42 = .ok (.imul, 1) := by decide +kernel
theorem dL_law_43 : decode cL_law 43 = .ok (.iadd, 1) := by decide +kernel
theorem dL_law_44 : decode cL_law 44 = .ok (.invokestatic 236, 3) := by decide +kernel
theorem dL_law_47 : decode cL_law 47 = .ok (.aload_n 1, 1) := by decide +kernel
theorem dL_law_48 : decode cL_law 48 = .ok (.invokevirtual 119, 3) := by decide +kernel
theorem dL_law_51 : decode cL_law 51 = .ok (.iload_n 3, 1) := by decide +kernel
theorem dL_law_52 : decode cL_law 52 = .ok (.if_icmp .lt 10, 3) := by decide +kernel
theorem dL_law_55 : decode cL_law 55 = .ok (.aload_n 1, 1) := by decide +kernel
theorem dL_law_56 : decode cL_law 56 = .ok (.invokevirtual 167, 3) := by decide +kernel
theorem dL_law_59 : decode cL_law 59 = .ok (.ifCond .ne 5, 3) := by decide +kernel
theorem dL_law_62 : decode cL_law 62 = .ok (.iconst 0, 1) := by decide +kernel
theorem dL_law_63 : decode cL_law 63 = .ok (.ireturn, 1) := by decide +kernel
theorem dL_law_64 : decode cL_law 64 = .ok (.iinc 2 1, 3) := by decide +kernel
theorem dL_law_67 : decode cL_law 67 = .ok (.goto (-42), 3) := by decide +kernel
theorem dL_law_70 : decode cL_law 70 = .ok (.aload_n 1, 1) := by decide +kernel
theorem dL_law_71 : decode cL_law 71 = .ok (.invokestatic 239, 3) := by decide +kernel
theorem dL_law_74 : decode cL_law 74 = .ok (.ifCond .eq 21, 3) := by decide +kernel
theorem dL_law_77 : decode cL_law 77 = .ok (.aload_n 1, 1) := by decide +kernel
theorem dL_law_78 : decode cL_law 78 = .ok (.invokestatic 243, 3) := by decide +kernel
theorem dL_law_81 : decode cL_law 81 = .ok (.ifCond .eq 14, 3) := by decide +kernel
theorem dL_law_84 : decode cL_law 84 = .ok (.aload_n 1, 1) := by decide +kernel
theorem dL_law_85 : decode cL_law 85 = .ok (.invokestatic 246, 3) := by decide +kernel
theorem dL_law_88 : decode cL_law 88 = .ok (.ifCond .eq 7, 3) := by decide +kernel
theorem dL_law_91 : decode cL_law 91 = .ok (.iconst 1, 1) := by decide +kernel
theorem dL_law_92 : decode cL_law 92 = .ok (.goto 4, 3) := by decide +kernel
theorem dL_law_95 : decode cL_law 95 = .ok (.iconst 0, 1) := by decide +kernel
theorem dL_law_96 : decode cL_law 96 = .ok (.ireturn, 1) := by decide +kernel
