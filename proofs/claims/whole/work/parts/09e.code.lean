/-! what each instruction is (by names.py) -/
theorem d_Mo_formula_0 : decode (M_Mo_formula).cc 0 = .ok (.aload_n 0, 1) := by decide +kernel
theorem d_Mo_formula_1 : decode (M_Mo_formula).cc 1 = .ok (.iconst 0, 1) := by decide +kernel
theorem d_Mo_formula_2 : decode (M_Mo_formula).cc 2 = .ok (.putfield 85, 3) := by decide +kernel
theorem d_Mo_formula_5 : decode (M_Mo_formula).cc 5 = .ok (.iconst 0, 1) := by decide +kernel
theorem d_Mo_formula_6 : decode (M_Mo_formula).cc 6 = .ok (.istore_n 1, 1) := by decide +kernel
theorem d_Mo_formula_7 : decode (M_Mo_formula).cc 7 = .ok (.iload_n 1, 1) := by decide +kernel
theorem d_Mo_formula_8 : decode (M_Mo_formula).cc 8 = .ok (.bipush 10, 2) := by decide +kernel
theorem d_Mo_formula_10 : decode (M_Mo_formula).cc 10 = .ok (.if_icmp .ge 16, 3) := by decide +kernel
theorem d_Mo_formula_13 : decode (M_Mo_formula).cc 13 = .ok (.aload_n 0, 1) := by decide +kernel
theorem d_Mo_formula_14 : decode (M_Mo_formula).cc 14 = .ok (.getfield 55, 3) := by decide +kernel
theorem d_Mo_formula_17 : decode (M_Mo_formula).cc 17 = .ok (.iload_n 1, 1) := by decide +kernel
theorem d_Mo_formula_18 : decode (M_Mo_formula).cc 18 = .ok (.iconst 0, 1) := by decide +kernel
theorem d_Mo_formula_19 : decode (M_Mo_formula).cc 19 = .ok (.iastore, 1) := by decide +kernel
theorem d_Mo_formula_20 : decode (M_Mo_formula).cc 20 = .ok (.iinc 1 1, 3) := by decide +kernel
theorem d_Mo_formula_23 : decode (M_Mo_formula).cc 23 = .ok (.goto (-16), 3) := by decide +kernel
theorem d_Mo_formula_26 : decode (M_Mo_formula).cc 26 = .ok (.iconst 0, 1) := by decide +kernel
theorem d_Mo_formula_27 : decode (M_Mo_formula).cc 27 = .ok (.istore_n 1, 1) := by decide +kernel
theorem d_Mo_formula_28 : decode (M_Mo_formula).cc 28 = .ok (.iload_n 1, 1) := by decide +kernel
theorem d_Mo_formula_29 : decode (M_Mo_formula).cc 29 = .ok (.aload_n 0, 1) := by decide +kernel
theorem d_Mo_formula_30 : decode (M_Mo_formula).cc 30 = .ok (.getfield 88, 3) := by decide +kernel
theorem d_Mo_formula_33 : decode (M_Mo_formula).cc 33 = .ok (.if_icmp .lt 10, 3) := by decide +kernel
theorem d_Mo_formula_36 : decode (M_Mo_formula).cc 36 = .ok (.aload_n 0, 1) := by decide +kernel
theorem d_Mo_formula_37 : decode (M_Mo_formula).cc 37 = .ok (.getfield 88, 3) := by decide +kernel
theorem d_Mo_formula_40 : decode (M_Mo_formula).cc 40 = .ok (.ifCond .ne 152, 3) := by decide +kernel
theorem d_Mo_formula_43 : decode (M_Mo_formula).cc 43 = .ok (.aload_n 0, 1) := by decide +kernel
theorem d_Mo_formula_44 : decode (M_Mo_formula).cc 44 = .ok (.iload_n 1, 1) := by decide +kernel
theorem d_Mo_formula_45 : decode (M_Mo_formula).cc 45 = .ok (.invokevirtual 99, 3) := by decide +kernel
theorem d_Mo_formula_48 : decode (M_Mo_formula).cc 48 = .ok (.istore_n 2, 1) := by decide +kernel
theorem d_Mo_formula_49 : decode (M_Mo_formula).cc 49 = .ok (.iload_n 2, 1) := by decide +kernel
theorem d_Mo_formula_50 : decode (M_Mo_formula).cc 50 = .ok (.ifCond .ge 11, 3) := by decide +kernel
theorem d_Mo_formula_53 : decode (M_Mo_formula).cc 53 = .ok (.aload_n 0, 1) := by decide +kernel
theorem d_Mo_formula_54 : decode (M_Mo_formula).cc 54 = .ok (.bipush (-2), 2) := by decide +kernel
theorem d_Mo_formula_56 : decode (M_Mo_formula).cc 56 = .ok (.iload_n 1, 1) := by decide +kernel
theorem d_Mo_formula_57 : decode (M_Mo_formula).cc 57 = .ok (.invokevirtual 103, 3) := by decide +kernel
theorem d_Mo_formula_60 : decode (M_Mo_formula).cc 60 = .ok (.ireturn, 1) := by decide +kernel
theorem d_Mo_formula_61 : decode (M_Mo_formula).cc 61 = .ok (.aload_n 0, 1) := by decide +kernel
theorem d_Mo_formula_62 : decode (M_Mo_formula).cc 62 = .ok (.getfield 55, 3) := by decide +kernel
theorem d_Mo_formula_65 : decode (M_Mo_formula).cc 65 = .ok (.iload_n 2, 1) := by decide +kernel
theorem d_Mo_formula_66 : decode (M_Mo_formula).cc 66 = .ok (.iaload, 1) := by decide +kernel
theorem d_Mo_formula_67 : decode (M_Mo_formula).cc 67 = .ok (.ifCond .le 11, 3) := by decide +kernel
theorem d_Mo_formula_70 : decode (M_Mo_formula).cc 70 = .ok (.aload_n 0, 1) := by decide +kernel
theorem d_Mo_formula_71 : decode (M_Mo_formula).cc 71 = .ok (.bipush (-3), 2) := by decide +kernel
theorem d_Mo_formula_73 : decode (M_Mo_formula).cc 73 = .ok (.iload_n 1, 1) := by decide +kernel
theorem d_Mo_formula_74 : decode (M_Mo_formula).cc 74 = .ok (.invokevirtual 103, 3) := by decide +kernel
theorem d_Mo_formula_77 : decode (M_Mo_formula).cc 77 = .ok (.ireturn, 1) := by decide +kernel
theorem d_Mo_formula_78 : decode (M_Mo_formula).cc 78 = .ok (.iload_n 1, 1) := by decide +kernel
theorem d_Mo_formula_79 : decode (M_Mo_formula).cc 79 = .ok (.iload_n 2, 1) := by decide +kernel
theorem d_Mo_formula_80 : decode (M_Mo_formula).cc 80 = .ok (.invokestatic 107, 3) := by decide +kernel
theorem d_Mo_formula_83 : decode (M_Mo_formula).cc 83 = .ok (.iadd, 1) := by decide +kernel
theorem d_Mo_formula_84 : decode (M_Mo_formula).cc 84 = .ok (.istore_n 1, 1) := by decide +kernel
theorem d_Mo_formula_85 : decode (M_Mo_formula).cc 85 = .ok (.iload_n 1, 1) := by decide +kernel
theorem d_Mo_formula_86 : decode (M_Mo_formula).cc 86 = .ok (.istore_n 3, 1) := by decide +kernel
theorem d_Mo_formula_87 : decode (M_Mo_formula).cc 87 = .ok (.iconst 0, 1) := by decide +kernel
theorem d_Mo_formula_88 : decode (M_Mo_formula).cc 88 = .ok (.istore 4, 2) := by decide +kernel
theorem d_Mo_formula_90 : decode (M_Mo_formula).cc 90 = .ok (.aload_n 0, 1) := by decide +kernel
theorem d_Mo_formula_91 : decode (M_Mo_formula).cc 91 = .ok (.iload_n 1, 1) := by decide +kernel
theorem d_Mo_formula_92 : decode (M_Mo_formula).cc 92 = .ok (.invokevirtual 95, 3) := by decide +kernel
theorem d_Mo_formula_95 : decode (M_Mo_formula).cc 95 = .ok (.invokestatic 110, 3) := by decide +kernel
theorem d_Mo_formula_98 : decode (M_Mo_formula).cc 98 = .ok (.ifCond .eq 38, 3) := by decide +kernel
theorem d_Mo_formula_101 : decode (M_Mo_formula).cc 101 = .ok (.iload 4, 2) := by decide +kernel
theorem d_Mo_formula_103 : decode (M_Mo_formula).cc 103 = .ok (.sipush 1000, 3) := by decide +kernel
theorem d_Mo_formula_106 : decode (M_Mo_formula).cc 106 = .ok (.if_icmp .ge 20, 3) := by decide +kernel
theorem d_Mo_formula_109 : decode (M_Mo_formula).cc 109 = .ok (.bipush 10, 2) := by decide +kernel
theorem d_Mo_formula_111 : decode (M_Mo_formula).cc 111 = .ok (.iload 4, 2) := by decide +kernel
theorem d_Mo_formula_113 : decode (M_Mo_formula).cc 113 = .ok (.imul, 1) := by decide +kernel
theorem d_Mo_formula_114 : decode (M_Mo_formula).cc 114 = .ok (.aload_n 0, 1) := by decide +kernel
theorem d_Mo_formula_115 : decode (M_Mo_formula).cc 115 = .ok (.iload_n 1, 1) := by decide +kernel
theorem d_Mo_formula_116 : decode (M_Mo_formula).cc 116 = .ok (.invokevirtual 95, 3) := by decide +kernel
theorem d_Mo_formula_119 : decode (M_Mo_formula).cc 119 = .ok (.iadd, 1) := by decide +kernel
theorem d_Mo_formula_120 : decode (M_Mo_formula).cc 120 = .ok (.bipush 48, 2) := by decide +kernel
theorem d_Mo_formula_122 : decode (M_Mo_formula).cc 122 = .ok (.isub, 1) := by decide +kernel
theorem d_Mo_formula_123 : decode (M_Mo_formula).cc 123 = .ok (.goto 5, 3) := by decide +kernel
theorem d_Mo_formula_126 : decode (M_Mo_formula).cc 126 = .ok (.iload 4, 2) := by decide +kernel
theorem d_Mo_formula_128 : decode (M_Mo_formula).cc 128 = .ok (.istore 4, 2) := by decide +kernel
theorem d_Mo_formula_130 : decode (M_Mo_formula).cc 130 = .ok (.iinc 1 1, 3) := by decide +kernel
theorem d_Mo_formula_133 : decode (M_Mo_formula).cc 133 = .ok (.goto (-43), 3) := by decide +kernel
theorem d_Mo_formula_136 : decode (M_Mo_formula).cc 136 = .ok (.iload_n 1, 1) := by decide +kernel
theorem d_Mo_formula_137 : decode (M_Mo_formula).cc 137 = .ok (.iload_n 3, 1) := by decide +kernel
theorem d_Mo_formula_138 : decode (M_Mo_formula).cc 138 = .ok (.if_icmp .le 34, 3) := by decide +kernel
theorem d_Mo_formula_141 : decode (M_Mo_formula).cc 141 = .ok (.aload_n 0, 1) := by decide +kernel
theorem d_Mo_formula_142 : decode (M_Mo_formula).cc 142 = .ok (.iload_n 3, 1) := by decide +kernel
theorem d_Mo_formula_143 : decode (M_Mo_formula).cc 143 = .ok (.invokevirtual 95, 3) := by decide +kernel
theorem d_Mo_formula_146 : decode (M_Mo_formula).cc 146 = .ok (.bipush 48, 2) := by decide +kernel
theorem d_Mo_formula_148 : decode (M_Mo_formula).cc 148 = .ok (.if_icmp .eq 16, 3) := by decide +kernel
theorem d_Mo_formula_151 : decode (M_Mo_formula).cc 151 = .ok (.iload 4, 2) := by decide +kernel
theorem d_Mo_formula_153 : decode (M_Mo_formula).cc 153 = .ok (.iconst 2, 1) := by decide +kernel
theorem d_Mo_formula_154 : decode (M_Mo_formula).cc 154 = .ok (.if_icmp .lt 10, 3) := by decide +kernel
theorem d_Mo_formula_157 : decode (M_Mo_formula).cc 157 = .ok (.iload 4, 2) := by decide +kernel
theorem d_Mo_formula_159 : decode (M_Mo_formula).cc 159 = .ok (.bipush 99, 2) := by decide +kernel
theorem d_Mo_formula_161 : decode (M_Mo_formula).cc 161 = .ok (.if_icmp .le 11, 3) := by decide +kernel
theorem d_Mo_formula_164 : decode (M_Mo_formula).cc 164 = .ok (.aload_n 0, 1) := by decide +kernel
theorem d_Mo_formula_165 : decode (M_Mo_formula).cc 165 = .ok (.bipush (-4), 2) := by decide +kernel
theorem d_Mo_formula_167 : decode (M_Mo_formula).cc 167 = .ok (.iload_n 3, 1) := by decide +kernel
theorem d_Mo_formula_168 : decode (M_Mo_formula).cc 168 = .ok (.invokevirtual 103, 3) := by decide +kernel
theorem d_Mo_formula_171 : decode (M_Mo_formula).cc 171 = .ok (.ireturn, 1) := by decide +kernel
theorem d_Mo_formula_172 : decode (M_Mo_formula).cc 172 = .ok (.aload_n 0, 1) := by decide +kernel
theorem d_Mo_formula_173 : decode (M_Mo_formula).cc 173 = .ok (.getfield 55, 3) := by decide +kernel
theorem d_Mo_formula_176 : decode (M_Mo_formula).cc 176 = .ok (.iload_n 2, 1) := by decide +kernel
theorem d_Mo_formula_177 : decode (M_Mo_formula).cc 177 = .ok (.iload_n 1, 1) := by decide +kernel
theorem d_Mo_formula_178 : decode (M_Mo_formula).cc 178 = .ok (.iload_n 3, 1) := by decide +kernel
theorem d_Mo_formula_179 : decode (M_Mo_formula).cc 179 = .ok (.if_icmp .le 8, 3) := by decide +kernel
theorem d_Mo_formula_182 : decode (M_Mo_formula).cc 182 = .ok (.iload 4, 2) := by decide +kernel
theorem d_Mo_formula_184 : decode (M_Mo_formula).cc 184 = .ok (.goto 4, 3) := by decide +kernel
theorem d_Mo_formula_187 : decode (M_Mo_formula).cc 187 = .ok (.iconst 1, 1) := by decide +kernel
theorem d_Mo_formula_188 : decode (M_Mo_formula).cc 188 = .ok (.iastore, 1) := by decide +kernel
theorem d_Mo_formula_189 : decode (M_Mo_formula).cc 189 = .ok (.goto (-161), 3) := by decide +kernel
theorem d_Mo_formula_192 : decode (M_Mo_formula).cc 192 = .ok (.iconst 0, 1) := by decide +kernel
theorem d_Mo_formula_193 : decode (M_Mo_formula).cc 193 = .ok (.istore_n 2, 1) := by decide +kernel
theorem d_Mo_formula_194 : decode (M_Mo_formula).cc 194 = .ok (.iconst 0, 1) := by decide +kernel
theorem d_Mo_formula_195 : decode (M_Mo_formula).cc 195 = .ok (.istore_n 3, 1) := by decide +kernel
theorem d_Mo_formula_196 : decode (M_Mo_formula).cc 196 = .ok (.iconst 0, 1) := by decide +kernel
theorem d_Mo_formula_197 : decode (M_Mo_formula).cc 197 = .ok (.istore 4, 2) := by decide +kernel
theorem d_Mo_formula_199 : decode (M_Mo_formula).cc 199 = .ok (.iload 4, 2) := by decide +kernel
theorem d_Mo_formula_201 : decode (M_Mo_formula).cc 201 = .ok (.bipush 9, 2) := by decide +kernel
theorem d_Mo_formula_203 : decode (M_Mo_formula).cc 203 = .ok (.if_icmp .ge 35, 3) := by decide +kernel
theorem d_Mo_formula_206 : decode (M_Mo_formula).cc 206 = .ok (.iload_n 2, 1) := by decide +kernel
theorem d_Mo_formula_207 : decode (M_Mo_formula).cc 207 = .ok (.aload_n 0, 1) := by decide +kernel
theorem d_Mo_formula_208 : decode (M_Mo_formula).cc 208 = .ok (.getfield 55, 3) := by decide +kernel
theorem d_Mo_formula_211 : decode (M_Mo_formula).cc 211 = .ok (.iload 4, 2) := by decide +kernel
theorem d_Mo_formula_213 : decode (M_Mo_formula).cc 213 = .ok (.iaload, 1) := by decide +kernel
theorem d_Mo_formula_214 : decode (M_Mo_formula).cc 214 = .ok (.iadd, 1) := by decide +kernel
theorem d_Mo_formula_215 : decode (M_Mo_formula).cc 215 = .ok (.istore_n 2, 1) := by decide +kernel
theorem d_Mo_formula_216 : decode (M_Mo_formula).cc 216 = .ok (.iload_n 3, 1) := by decide +kernel
theorem d_Mo_formula_217 : decode (M_Mo_formula).cc 217 = .ok (.aload_n 0, 1) := by decide +kernel
theorem d_Mo_formula_218 : decode (M_Mo_formula).cc 218 = .ok (.getfield 55, 3) := by decide +kernel
theorem d_Mo_formula_221 : decode (M_Mo_formula).cc 221 = .ok (.iload 4, 2) := by decide +kernel
theorem d_Mo_formula_223 : decode (M_Mo_formula).cc 223 = .ok (.iaload, 1) := by decide +kernel
theorem d_Mo_formula_224 : decode (M_Mo_formula).cc 224 = .ok (.iload 4, 2) := by decide +kernel
theorem d_Mo_formula_226 : decode (M_Mo_formula).cc 226 = .ok (.invokestatic 114, 3) := by decide +kernel
theorem d_Mo_formula_229 : decode (M_Mo_formula).cc 229 = .ok (.imul, 1) := by decide +kernel
theorem d_Mo_formula_230 : decode (M_Mo_formula).cc 230 = .ok (.iadd, 1) := by decide +kernel
theorem d_Mo_formula_231 : decode (M_Mo_formula).cc 231 = .ok (.istore_n 3, 1) := by decide +kernel
theorem d_Mo_formula_232 : decode (M_Mo_formula).cc 232 = .ok (.iinc 4 1, 3) := by decide +kernel
theorem d_Mo_formula_235 : decode (M_Mo_formula).cc 235 = .ok (.goto (-36), 3) := by decide +kernel
theorem d_Mo_formula_238 : decode (M_Mo_formula).cc 238 = .ok (.iload_n 2, 1) := by decide +kernel
theorem d_Mo_formula_239 : decode (M_Mo_formula).cc 239 = .ok (.ifCond .eq 9, 3) := by decide +kernel
theorem d_Mo_formula_242 : decode (M_Mo_formula).cc 242 = .ok (.iload_n 2, 1) := by decide +kernel
theorem d_Mo_formula_243 : decode (M_Mo_formula).cc 243 = .ok (.bipush 6, 2) := by decide +kernel
theorem d_Mo_formula_245 : decode (M_Mo_formula).cc 245 = .ok (.if_icmp .le 14, 3) := by decide +kernel
theorem d_Mo_formula_248 : decode (M_Mo_formula).cc 248 = .ok (.aload_n 0, 1) := by decide +kernel
theorem d_Mo_formula_249 : decode (M_Mo_formula).cc 249 = .ok (.bipush (-5), 2) := by decide +kernel
theorem d_Mo_formula_251 : decode (M_Mo_formula).cc 251 = .ok (.aload_n 0, 1) := by decide +kernel
theorem d_Mo_formula_252 : decode (M_Mo_formula).cc 252 = .ok (.getfield 88, 3) := by decide +kernel
theorem d_Mo_formula_255 : decode (M_Mo_formula).cc 255 = .ok (.invokevirtual 103, 3) := by decide +kernel
theorem d_Mo_formula_258 : decode (M_Mo_formula).cc 258 = .ok (.ireturn, 1) := by decide +kernel
theorem d_Mo_formula_259 : decode (M_Mo_formula).cc 259 = .ok (.aload_n 0, 1) := by decide +kernel
theorem d_Mo_formula_260 : decode (M_Mo_formula).cc 260 = .ok (.iconst 0, 1) := by decide +kernel
theorem d_Mo_formula_261 : decode (M_Mo_formula).cc 261 = .ok (.putfield 117, 3) := by decide +kernel
theorem d_Mo_formula_264 : decode (M_Mo_formula).cc 264 = .ok (.iconst 0, 1) := by decide +kernel
theorem d_Mo_formula_265 : decode (M_Mo_formula).cc 265 = .ok (.istore 4, 2) := by decide +kernel
theorem d_Mo_formula_267 : decode (M_Mo_formula).cc 267 = .ok (.iload 4, 2) := by decide +kernel
theorem d_Mo_formula_269 : decode (M_Mo_formula).cc 269 = .ok (.bipush 9, 2) := by decide +kernel
theorem d_Mo_formula_271 : decode (M_Mo_formula).cc 271 = .ok (.if_icmp .ge 65, 3) := by decide +kernel
theorem d_Mo_formula_274 : decode (M_Mo_formula).cc 274 = .ok (.iconst 0, 1) := by decide +kernel
theorem d_Mo_formula_275 : decode (M_Mo_formula).cc 275 = .ok (.istore 5, 2) := by decide +kernel
theorem d_Mo_formula_277 : decode (M_Mo_formula).cc 277 = .ok (.iload 5, 2) := by decide +kernel
theorem d_Mo_formula_279 : decode (M_Mo_formula).cc 279 = .ok (.aload_n 0, 1) := by decide +kernel
theorem d_Mo_formula_280 : decode (M_Mo_formula).cc 280 = .ok (.getfield 55, 3) := by decide +kernel
theorem d_Mo_formula_283 : decode (M_Mo_formula).cc 283 = .ok (.iload 4, 2) := by decide +kernel
theorem d_Mo_formula_285 : decode (M_Mo_formula).cc 285 = .ok (.iaload, 1) := by decide +kernel
theorem d_Mo_formula_286 : decode (M_Mo_formula).cc 286 = .ok (.if_icmp .ge 44, 3) := by decide +kernel
theorem d_Mo_formula_289 : decode (M_Mo_formula).cc 289 = .ok (.aload_n 0, 1) := by decide +kernel
theorem d_Mo_formula_290 : decode (M_Mo_formula).cc 290 = .ok (.getfield 24, 3) := by decide +kernel
theorem d_Mo_formula_293 : decode (M_Mo_formula).cc 293 = .ok (.aload_n 0, 1) := by decide +kernel
theorem d_Mo_formula_294 : decode (M_Mo_formula).cc 294 = .ok (.getfield 117, 3) := by decide +kernel
theorem d_Mo_formula_297 : decode (M_Mo_formula).cc 297 = .ok (.iload 4, 2) := by decide +kernel
theorem d_Mo_formula_299 : decode (M_Mo_formula).cc 299 = .ok (.iastore, 1) := by decide +kernel
theorem d_Mo_formula_300 : decode (M_Mo_formula).cc 300 = .ok (.aload_n 0, 1) := by decide +kernel
theorem d_Mo_formula_301 : decode (M_Mo_formula).cc 301 = .ok (.getfield 30, 3) := by decide +kernel
theorem d_Mo_formula_304 : decode (M_Mo_formula).cc 304 = .ok (.aload_n 0, 1) := by decide +kernel
theorem d_Mo_formula_305 : decode (M_Mo_formula).cc 305 = .ok (.getfield 117, 3) := by decide +kernel
theorem d_Mo_formula_308 : decode (M_Mo_formula).cc 308 = .ok (.iload 4, 2) := by decide +kernel
theorem d_Mo_formula_310 : decode (M_Mo_formula).cc 310 = .ok (.invokestatic 114, 3) := by decide +kernel
theorem d_Mo_formula_313 : decode (M_Mo_formula).cc 313 = .ok (.iastore, 1) := by decide +kernel
theorem d_Mo_formula_314 : decode (M_Mo_formula).cc 314 = .ok (.aload_n 0, 1) := by decide +kernel
theorem d_Mo_formula_315 : decode (M_Mo_formula).cc 315 = .ok (.dup, 1) := by decide +kernel
theorem d_Mo_formula_316 : decode (M_Mo_formula).cc 316 = .ok (.getfield 117, 3) := by decide +kernel
theorem d_Mo_formula_319 : decode (M_Mo_formula).cc 319 = .ok (.iconst 1, 1) := by decide +kernel
theorem d_Mo_formula_320 : decode (M_Mo_formula).cc 320 = .ok (.iadd, 1) := by decide +kernel
theorem d_Mo_formula_321 : decode (M_Mo_formula).cc 321 = .ok (.putfield 117, 3) := by decide +kernel
theorem d_Mo_formula_324 : decode (M_Mo_formula).cc 324 = .ok (.iinc 5 1, 3) := by decide +kernel
theorem d_Mo_formula_327 : decode (M_Mo_formula).cc 327 = .ok (.goto (-50), 3) := by decide +kernel
theorem d_Mo_formula_330 : decode (M_Mo_formula).cc 330 = .ok (.iinc 4 1, 3) := by decide +kernel
theorem d_Mo_formula_333 : decode (M_Mo_formula).cc 333 = .ok (.goto (-66), 3) := by decide +kernel
theorem d_Mo_formula_336 : decode (M_Mo_formula).cc 336 = .ok (.iload_n 3, 1) := by decide +kernel
theorem d_Mo_formula_337 : decode (M_Mo_formula).cc 337 = .ok (.aload_n 0, 1) := by decide +kernel
theorem d_Mo_formula_338 : decode (M_Mo_formula).cc 338 = .ok (.getfield 55, 3) := by decide +kernel
theorem d_Mo_formula_341 : decode (M_Mo_formula).cc 341 = .ok (.bipush 9, 2) := by decide +kernel
theorem d_Mo_formula_343 : decode (M_Mo_formula).cc 343 = .ok (.iaload, 1) := by decide +kernel
theorem d_Mo_formula_344 : decode (M_Mo_formula).cc 344 = .ok (.isub, 1) := by decide +kernel
theorem d_Mo_formula_345 : decode (M_Mo_formula).cc 345 = .ok (.istore 4, 2) := by decide +kernel
theorem d_Mo_formula_347 : decode (M_Mo_formula).cc 347 = .ok (.aload_n 0, 1) := by decide +kernel
theorem d_Mo_formula_348 : decode (M_Mo_formula).cc 348 = .ok (.iconst 0, 1) := by decide +kernel
theorem d_Mo_formula_349 : decode (M_Mo_formula).cc 349 = .ok (.putfield 120, 3) := by decide +kernel
theorem d_Mo_formula_352 : decode (M_Mo_formula).cc 352 = .ok (.iload 4, 2) := by decide +kernel
theorem d_Mo_formula_354 : decode (M_Mo_formula).cc 354 = .ok (.ifCond .lt 22, 3) := by decide +kernel
theorem d_Mo_formula_357 : decode (M_Mo_formula).cc 357 = .ok (.iload 4, 2) := by decide +kernel
theorem d_Mo_formula_359 : decode (M_Mo_formula).cc 359 = .ok (.iconst 2, 1) := by decide +kernel
theorem d_Mo_formula_360 : decode (M_Mo_formula).cc 360 = .ok (.irem, 1) := by decide +kernel
theorem d_Mo_formula_361 : decode (M_Mo_formula).cc 361 = .ok (.ifCond .ne 15, 3) := by decide +kernel
theorem d_Mo_formula_364 : decode (M_Mo_formula).cc 364 = .ok (.aload_n 0, 1) := by decide +kernel
theorem d_Mo_formula_365 : decode (M_Mo_formula).cc 365 = .ok (.iload 4, 2) := by decide +kernel
theorem d_Mo_formula_367 : decode (M_Mo_formula).cc 367 = .ok (.iconst 2, 1) := by decide +kernel
theorem d_Mo_formula_368 : decode (M_Mo_formula).cc 368 = .ok (.idiv, 1) := by decide +kernel
theorem d_Mo_formula_369 : decode (M_Mo_formula).cc 369 = .ok (.putfield 123, 3) := by decide +kernel
theorem d_Mo_formula_372 : decode (M_Mo_formula).cc 372 = .ok (.aload_n 0, 1) := by decide +kernel
theorem d_Mo_formula_373 : decode (M_Mo_formula).cc 373 = .ok (.invokevirtual 126, 3) := by decide +kernel
theorem d_Mo_formula_376 : decode (M_Mo_formula).cc 376 = .ok (.aload_n 0, 1) := by decide +kernel
theorem d_Mo_formula_377 : decode (M_Mo_formula).cc 377 = .ok (.getfield 120, 3) := by decide +kernel
theorem d_Mo_formula_380 : decode (M_Mo_formula).cc 380 = .ok (.sipush 500, 3) := by decide +kernel
theorem d_Mo_formula_383 : decode (M_Mo_formula).cc 383 = .ok (.if_icmp .le 14, 3) := by decide +kernel
theorem d_Mo_formula_386 : decode (M_Mo_formula).cc 386 = .ok (.aload_n 0, 1) := by decide +kernel
theorem d_Mo_formula_387 : decode (M_Mo_formula).cc 387 = .ok (.bipush (-6), 2) := by decide +kernel
theorem d_Mo_formula_389 : decode (M_Mo_formula).cc 389 = .ok (.aload_n 0, 1) := by decide +kernel
theorem d_Mo_formula_390 : decode (M_Mo_formula).cc 390 = .ok (.getfield 88, 3) := by decide +kernel
theorem d_Mo_formula_393 : decode (M_Mo_formula).cc 393 = .ok (.invokevirtual 103, 3) := by decide +kernel
theorem d_Mo_formula_396 : decode (M_Mo_formula).cc 396 = .ok (.ireturn, 1) := by decide +kernel
theorem d_Mo_formula_397 : decode (M_Mo_formula).cc 397 = .ok (.aload_n 0, 1) := by decide +kernel
theorem d_Mo_formula_398 : decode (M_Mo_formula).cc 398 = .ok (.iconst (-1), 1) := by decide +kernel
theorem d_Mo_formula_399 : decode (M_Mo_formula).cc 399 = .ok (.putfield 13, 3) := by decide +kernel
theorem d_Mo_formula_402 : decode (M_Mo_formula).cc 402 = .ok (.aload_n 0, 1) := by decide +kernel
theorem d_Mo_formula_403 : decode (M_Mo_formula).cc 403 = .ok (.aload_n 0, 1) := by decide +kernel
theorem d_Mo_formula_404 : decode (M_Mo_formula).cc 404 = .ok (.getfield 117, 3) := by decide +kernel
theorem d_Mo_formula_407 : decode (M_Mo_formula).cc 407 = .ok (.putfield 129, 3) := by decide +kernel
theorem d_Mo_formula_410 : decode (M_Mo_formula).cc 410 = .ok (.aload_n 0, 1) := by decide +kernel
theorem d_Mo_formula_411 : decode (M_Mo_formula).cc 411 = .ok (.aload_n 0, 1) := by decide +kernel
theorem d_Mo_formula_412 : decode (M_Mo_formula).cc 412 = .ok (.getfield 55, 3) := by decide +kernel
theorem d_Mo_formula_415 : decode (M_Mo_formula).cc 415 = .ok (.bipush 9, 2) := by decide +kernel
theorem d_Mo_formula_417 : decode (M_Mo_formula).cc 417 = .ok (.iaload, 1) := by decide +kernel
theorem d_Mo_formula_418 : decode (M_Mo_formula).cc 418 = .ok (.putfield 132, 3) := by decide +kernel
theorem d_Mo_formula_421 : decode (M_Mo_formula).cc 421 = .ok (.iconst 0, 1) := by decide +kernel
theorem d_Mo_formula_422 : decode (M_Mo_formula).cc 422 = .ok (.istore 5, 2) := by decide +kernel
theorem d_Mo_formula_424 : decode (M_Mo_formula).cc 424 = .ok (.iload 5, 2) := by decide +kernel
theorem d_Mo_formula_426 : decode (M_Mo_formula).cc 426 = .ok (.aload_n 0, 1) := by decide +kernel
theorem d_Mo_formula_427 : decode (M_Mo_formula).cc 427 = .ok (.getfield 129, 3) := by decide +kernel
theorem d_Mo_formula_430 : decode (M_Mo_formula).cc 430 = .ok (.if_icmp .ge 23, 3) := by decide +kernel
theorem d_Mo_formula_433 : decode (M_Mo_formula).cc 433 = .ok (.aload_n 0, 1) := by decide +kernel
theorem d_Mo_formula_434 : decode (M_Mo_formula).cc 434 = .ok (.getfield 17, 3) := by decide +kernel
theorem d_Mo_formula_437 : decode (M_Mo_formula).cc 437 = .ok (.iload 5, 2) := by decide +kernel
theorem d_Mo_formula_439 : decode (M_Mo_formula).cc 439 = .ok (.aload_n 0, 1) := by decide +kernel
theorem d_Mo_formula_440 : decode (M_Mo_formula).cc 440 = .ok (.getfield 24, 3) := by decide +kernel
theorem d_Mo_formula_443 : decode (M_Mo_formula).cc 443 = .ok (.iload 5, 2) := by decide +kernel
theorem d_Mo_formula_445 : decode (M_Mo_formula).cc 445 = .ok (.iaload, 1) := by decide +kernel
theorem d_Mo_formula_446 : decode (M_Mo_formula).cc 446 = .ok (.iastore, 1) := by decide +kernel
theorem d_Mo_formula_447 : decode (M_Mo_formula).cc 447 = .ok (.iinc 5 1, 3) := by decide +kernel
theorem d_Mo_formula_450 : decode (M_Mo_formula).cc 450 = .ok (.goto (-26), 3) := by decide +kernel
theorem d_Mo_formula_453 : decode (M_Mo_formula).cc 453 = .ok (.aload_n 0, 1) := by decide +kernel
theorem d_Mo_formula_454 : decode (M_Mo_formula).cc 454 = .ok (.aload_n 0, 1) := by decide +kernel
theorem d_Mo_formula_455 : decode (M_Mo_formula).cc 455 = .ok (.getfield 120, 3) := by decide +kernel
theorem d_Mo_formula_458 : decode (M_Mo_formula).cc 458 = .ok (.putfield 135, 3) := by decide +kernel
theorem d_Mo_formula_461 : decode (M_Mo_formula).cc 461 = .ok (.iconst 0, 1) := by decide +kernel
theorem d_Mo_formula_462 : decode (M_Mo_formula).cc 462 = .ok (.istore 5, 2) := by decide +kernel
theorem d_Mo_formula_464 : decode (M_Mo_formula).cc 464 = .ok (.iload 5, 2) := by decide +kernel
theorem d_Mo_formula_466 : decode (M_Mo_formula).cc 466 = .ok (.bipush 15, 2) := by decide +kernel
theorem d_Mo_formula_468 : decode (M_Mo_formula).cc 468 = .ok (.aload_n 0, 1) := by decide +kernel
theorem d_Mo_formula_469 : decode (M_Mo_formula).cc 469 = .ok (.getfield 120, 3) := by decide +kernel
theorem d_Mo_formula_472 : decode (M_Mo_formula).cc 472 = .ok (.imul, 1) := by decide +kernel
theorem d_Mo_formula_473 : decode (M_Mo_formula).cc 473 = .ok (.if_icmp .ge 23, 3) := by decide +kernel
theorem d_Mo_formula_476 : decode (M_Mo_formula).cc 476 = .ok (.aload_n 0, 1) := by decide +kernel
theorem d_Mo_formula_477 : decode (M_Mo_formula).cc 477 = .ok (.getfield 21, 3) := by decide +kernel
theorem d_Mo_formula_480 : decode (M_Mo_formula).cc 480 = .ok (.iload 5, 2) := by decide +kernel
theorem d_Mo_formula_482 : decode (M_Mo_formula).cc 482 = .ok (.aload_n 0, 1) := by decide +kernel
theorem d_Mo_formula_483 : decode (M_Mo_formula).cc 483 = .ok (.getfield 36, 3) := by decide +kernel
theorem d_Mo_formula_486 : decode (M_Mo_formula).cc 486 = .ok (.iload 5, 2) := by decide +kernel
theorem d_Mo_formula_488 : decode (M_Mo_formula).cc 488 = .ok (.iaload, 1) := by decide +kernel
theorem d_Mo_formula_489 : decode (M_Mo_formula).cc 489 = .ok (.iastore, 1) := by decide +kernel
theorem d_Mo_formula_490 : decode (M_Mo_formula).cc 490 = .ok (.iinc 5 1, 3) := by decide +kernel
theorem d_Mo_formula_493 : decode (M_Mo_formula).cc 493 = .ok (.goto (-29), 3) := by decide +kernel
theorem d_Mo_formula_496 : decode (M_Mo_formula).cc 496 = .ok (.aload_n 0, 1) := by decide +kernel
theorem d_Mo_formula_497 : decode (M_Mo_formula).cc 497 = .ok (.getfield 135, 3) := by decide +kernel
theorem d_Mo_formula_500 : decode (M_Mo_formula).cc 500 = .ok (.ireturn, 1) := by decide +kernel
theorem d_Mo_parse_0 : decode (M_Mo_parse).cc 0 = .ok (.iconst 0, 1) := by decide +kernel
theorem d_Mo_parse_1 : decode (M_Mo_parse).cc 1 = .ok (.istore_n 1, 1) := by decide +kernel
theorem d_Mo_parse_2 : decode (M_Mo_parse).cc 2 = .ok (.iconst 0, 1) := by decide +kernel
theorem d_Mo_parse_3 : decode (M_Mo_parse).cc 3 = .ok (.istore_n 2, 1) := by decide +kernel
theorem d_Mo_parse_4 : decode (M_Mo_parse).cc 4 = .ok (.iload_n 2, 1) := by decide +kernel
theorem d_Mo_parse_5 : decode (M_Mo_parse).cc 5 = .ok (.bipush 10, 2) := by decide +kernel
theorem d_Mo_parse_7 : decode (M_Mo_parse).cc 7 = .ok (.if_icmp .ge 16, 3) := by decide +kernel
theorem d_Mo_parse_10 : decode (M_Mo_parse).cc 10 = .ok (.aload_n 0, 1) := by decide +kernel
theorem d_Mo_parse_11 : decode (M_Mo_parse).cc 11 = .ok (.getfield 61, 3) := by decide +kernel
theorem d_Mo_parse_14 : decode (M_Mo_parse).cc 14 = .ok (.iload_n 2, 1) := by decide +kernel
theorem d_Mo_parse_15 : decode (M_Mo_parse).cc 15 = .ok (.iconst (-1), 1) := by decide +kernel
theorem d_Mo_parse_16 : decode (M_Mo_parse).cc 16 = .ok (.iastore, 1) := by decide +kernel
theorem d_Mo_parse_17 : decode (M_Mo_parse).cc 17 = .ok (.iinc 2 1, 3) := by decide +kernel
theorem d_Mo_parse_20 : decode (M_Mo_parse).cc 20 = .ok (.goto (-16), 3) := by decide +kernel
theorem d_Mo_parse_23 : decode (M_Mo_parse).cc 23 = .ok (.iconst 0, 1) := by decide +kernel
theorem d_Mo_parse_24 : decode (M_Mo_parse).cc 24 = .ok (.istore_n 2, 1) := by decide +kernel
theorem d_Mo_parse_25 : decode (M_Mo_parse).cc 25 = .ok (.iconst (-1), 1) := by decide +kernel
theorem d_Mo_parse_26 : decode (M_Mo_parse).cc 26 = .ok (.istore_n 3, 1) := by decide +kernel
theorem d_Mo_parse_27 : decode (M_Mo_parse).cc 27 = .ok (.iconst 0, 1) := by decide +kernel
theorem d_Mo_parse_28 : decode (M_Mo_parse).cc 28 = .ok (.istore 4, 2) := by decide +kernel
theorem d_Mo_parse_30 : decode (M_Mo_parse).cc 30 = .ok (.iconst 0, 1) := by decide +kernel
theorem d_Mo_parse_31 : decode (M_Mo_parse).cc 31 = .ok (.istore 5, 2) := by decide +kernel
theorem d_Mo_parse_33 : decode (M_Mo_parse).cc 33 = .ok (.iload 5, 2) := by decide +kernel
theorem d_Mo_parse_35 : decode (M_Mo_parse).cc 35 = .ok (.aload_n 0, 1) := by decide +kernel
theorem d_Mo_parse_36 : decode (M_Mo_parse).cc 36 = .ok (.getfield 88, 3) := by decide +kernel
theorem d_Mo_parse_39 : decode (M_Mo_parse).cc 39 = .ok (.if_icmp .ge 516, 3) := by decide +kernel
theorem d_Mo_parse_42 : decode (M_Mo_parse).cc 42 = .ok (.aload_n 0, 1) := by decide +kernel
theorem d_Mo_parse_43 : decode (M_Mo_parse).cc 43 = .ok (.getfield 7, 3) := by decide +kernel
theorem d_Mo_parse_46 : decode (M_Mo_parse).cc 46 = .ok (.iload 5, 2) := by decide +kernel
theorem d_Mo_parse_48 : decode (M_Mo_parse).cc 48 = .ok (.caload, 1) := by decide +kernel
theorem d_Mo_parse_49 : decode (M_Mo_parse).cc 49 = .ok (.istore 6, 2) := by decide +kernel
theorem d_Mo_parse_51 : decode (M_Mo_parse).cc 51 = .ok (.aload_n 0, 1) := by decide +kernel
theorem d_Mo_parse_52 : decode (M_Mo_parse).cc 52 = .ok (.iload 5, 2) := by decide +kernel
theorem d_Mo_parse_54 : decode (M_Mo_parse).cc 54 = .ok (.invokevirtual 99, 3) := by decide +kernel
theorem d_Mo_parse_57 : decode (M_Mo_parse).cc 57 = .ok (.istore 7, 2) := by decide +kernel
theorem d_Mo_parse_59 : decode (M_Mo_parse).cc 59 = .ok (.iload 6, 2) := by decide +kernel
theorem d_Mo_parse_61 : decode (M_Mo_parse).cc 61 = .ok (.bipush 45, 2) := by decide +kernel
theorem d_Mo_parse_63 : decode (M_Mo_parse).cc 63 = .ok (.if_icmp .ne 7, 3) := by decide +kernel
theorem d_Mo_parse_66 : decode (M_Mo_parse).cc 66 = .ok (.iconst 1, 1) := by decide +kernel
theorem d_Mo_parse_67 : decode (M_Mo_parse).cc 67 = .ok (.goto 26, 3) := by decide +kernel
theorem d_Mo_parse_70 : decode (M_Mo_parse).cc 70 = .ok (.iload 6, 2) := by decide +kernel
theorem d_Mo_parse_72 : decode (M_Mo_parse).cc 72 = .ok (.bipush 61, 2) := by decide +kernel
theorem d_Mo_parse_74 : decode (M_Mo_parse).cc 74 = .ok (.if_icmp .ne 7, 3) := by decide +kernel
theorem d_Mo_parse_77 : decode (M_Mo_parse).cc 77 = .ok (.iconst 2, 1) := by decide +kernel
theorem d_Mo_parse_78 : decode (M_Mo_parse).cc 78 = .ok (.goto 15, 3) := by decide +kernel
theorem d_Mo_parse_81 : decode (M_Mo_parse).cc 81 = .ok (.iload 6, 2) := by decide +kernel
theorem d_Mo_parse_83 : decode (M_Mo_parse).cc 83 = .ok (.bipush 35, 2) := by decide +kernel
theorem d_Mo_parse_85 : decode (M_Mo_parse).cc 85 = .ok (.if_icmp .ne 7, 3) := by decide +kernel
theorem d_Mo_parse_88 : decode (M_Mo_parse).cc 88 = .ok (.iconst 3, 1) := by decide +kernel
theorem d_Mo_parse_89 : decode (M_Mo_parse).cc 89 = .ok (.goto 4, 3) := by decide +kernel
theorem d_Mo_parse_92 : decode (M_Mo_parse).cc 92 = .ok (.iconst 0, 1) := by decide +kernel
theorem d_Mo_parse_93 : decode (M_Mo_parse).cc 93 = .ok (.istore 8, 2) := by decide +kernel
theorem d_Mo_parse_95 : decode (M_Mo_parse).cc 95 = .ok (.iload 7, 2) := by decide +kernel
theorem d_Mo_parse_97 : decode (M_Mo_parse).cc 97 = .ok (.ifCond .lt 126, 3) := by decide +kernel
theorem d_Mo_parse_100 : decode (M_Mo_parse).cc 100 = .ok (.iload 7, 2) := by decide +kernel
theorem d_Mo_parse_102 : decode (M_Mo_parse).cc 102 = .ok (.bipush 9, 2) := by decide +kernel
theorem d_Mo_parse_104 : decode (M_Mo_parse).cc 104 = .ok (.if_icmp .eq 119, 3) := by decide +kernel
theorem d_Mo_parse_107 : decode (M_Mo_parse).cc 107 = .ok (.aload_n 0, 1) := by decide +kernel
theorem d_Mo_parse_108 : decode (M_Mo_parse).cc 108 = .ok (.getfield 167, 3) := by decide +kernel
theorem d_Mo_parse_111 : decode (M_Mo_parse).cc 111 = .ok (.bipush 6, 2) := by decide +kernel
theorem d_Mo_parse_113 : decode (M_Mo_parse).cc 113 = .ok (.if_icmp .ne 12, 3) := by decide +kernel
theorem d_Mo_parse_116 : decode (M_Mo_parse).cc 116 = .ok (.aload_n 0, 1) := by decide +kernel
theorem d_Mo_parse_117 : decode (M_Mo_parse).cc 117 = .ok (.bipush (-5), 2) := by decide +kernel
theorem d_Mo_parse_119 : decode (M_Mo_parse).cc 119 = .ok (.iload 5, 2) := by decide +kernel
theorem d_Mo_parse_121 : decode (M_Mo_parse).cc 121 = .ok (.invokevirtual 103, 3) := by decide +kernel
theorem d_Mo_parse_124 : decode (M_Mo_parse).cc 124 = .ok (.ireturn, 1) := by decide +kernel
theorem d_Mo_parse_125 : decode (M_Mo_parse).cc 125 = .ok (.aload_n 0, 1) := by decide +kernel
theorem d_Mo_parse_126 : decode (M_Mo_parse).cc 126 = .ok (.getfield 46, 3) := by decide +kernel
theorem d_Mo_parse_129 : decode (M_Mo_parse).cc 129 = .ok (.aload_n 0, 1) := by decide +kernel
theorem d_Mo_parse_130 : decode (M_Mo_parse).cc 130 = .ok (.getfield 167, 3) := by decide +kernel
theorem d_Mo_parse_133 : decode (M_Mo_parse).cc 133 = .ok (.iload 7, 2) := by decide +kernel
theorem d_Mo_parse_135 : decode (M_Mo_parse).cc 135 = .ok (.iastore, 1) := by decide +kernel
theorem d_Mo_parse_136 : decode (M_Mo_parse).cc 136 = .ok (.iload_n 3, 1) := by decide +kernel
theorem d_Mo_parse_137 : decode (M_Mo_parse).cc 137 = .ok (.ifCond .lt 53, 3) := by decide +kernel
theorem d_Mo_parse_140 : decode (M_Mo_parse).cc 140 = .ok (.aload_n 0, 1) := by decide +kernel
theorem d_Mo_parse_141 : decode (M_Mo_parse).cc 141 = .ok (.getfield 49, 3) := by decide +kernel
theorem d_Mo_parse_144 : decode (M_Mo_parse).cc 144 = .ok (.bipush 6, 2) := by decide +kernel
theorem d_Mo_parse_146 : decode (M_Mo_parse).cc 146 = .ok (.iload_n 3, 1) := by decide +kernel
theorem d_Mo_parse_147 : decode (M_Mo_parse).cc 147 = .ok (.imul, 1) := by decide +kernel
theorem d_Mo_parse_148 : decode (M_Mo_parse).cc 148 = .ok (.aload_n 0, 1) := by decide +kernel
theorem d_Mo_parse_149 : decode (M_Mo_parse).cc 149 = .ok (.getfield 167, 3) := by decide +kernel
theorem d_Mo_parse_152 : decode (M_Mo_parse).cc 152 = .ok (.iadd, 1) := by decide +kernel
theorem d_Mo_parse_153 : decode (M_Mo_parse).cc 153 = .ok (.iload 4, 2) := by decide +kernel
theorem d_Mo_parse_155 : decode (M_Mo_parse).cc 155 = .ok (.ifCond .ne 7, 3) := by decide +kernel
theorem d_Mo_parse_158 : decode (M_Mo_parse).cc 158 = .ok (.iconst 1, 1) := by decide +kernel
theorem d_Mo_parse_159 : decode (M_Mo_parse).cc 159 = .ok (.goto 5, 3) := by decide +kernel
theorem d_Mo_parse_162 : decode (M_Mo_parse).cc 162 = .ok (.iload 4, 2) := by decide +kernel
theorem d_Mo_parse_164 : decode (M_Mo_parse).cc 164 = .ok (.iastore, 1) := by decide +kernel
theorem d_Mo_parse_165 : decode (M_Mo_parse).cc 165 = .ok (.aload_n 0, 1) := by decide +kernel
theorem d_Mo_parse_166 : decode (M_Mo_parse).cc 166 = .ok (.getfield 49, 3) := by decide +kernel
theorem d_Mo_parse_169 : decode (M_Mo_parse).cc 169 = .ok (.bipush 6, 2) := by decide +kernel
theorem d_Mo_parse_171 : decode (M_Mo_parse).cc 171 = .ok (.aload_n 0, 1) := by decide +kernel
theorem d_Mo_parse_172 : decode (M_Mo_parse).cc 172 = .ok (.getfield 167, 3) := by decide +kernel
theorem d_Mo_parse_175 : decode (M_Mo_parse).cc 175 = .ok (.imul, 1) := by decide +kernel
theorem d_Mo_parse_176 : decode (M_Mo_parse).cc 176 = .ok (.iload_n 3, 1) := by decide +kernel
theorem d_Mo_parse_177 : decode (M_Mo_parse).cc 177 = .ok (.iadd, 1) := by decide +kernel
theorem d_Mo_parse_178 : decode (M_Mo_parse).cc 178 = .ok (.iload 4, 2) := by decide +kernel
theorem d_Mo_parse_180 : decode (M_Mo_parse).cc 180 = .ok (.ifCond .ne 7, 3) := by decide +kernel
theorem d_Mo_parse_183 : decode (M_Mo_parse).cc 183 = .ok (.iconst 1, 1) := by decide +kernel
theorem d_Mo_parse_184 : decode (M_Mo_parse).cc 184 = .ok (.goto 5, 3) := by decide +kernel
theorem d_Mo_parse_187 : decode (M_Mo_parse).cc 187 = .ok (.iload 4, 2) := by decide +kernel
theorem d_Mo_parse_189 : decode (M_Mo_parse).cc 189 = .ok (.iastore, 1) := by decide +kernel
theorem d_Mo_parse_190 : decode (M_Mo_parse).cc 190 = .ok (.aload_n 0, 1) := by decide +kernel
theorem d_Mo_parse_191 : decode (M_Mo_parse).cc 191 = .ok (.getfield 167, 3) := by decide +kernel
theorem d_Mo_parse_194 : decode (M_Mo_parse).cc 194 = .ok (.istore_n 3, 1) := by decide +kernel
theorem d_Mo_parse_195 : decode (M_Mo_parse).cc 195 = .ok (.aload_n 0, 1) := by decide +kernel
theorem d_Mo_parse_196 : decode (M_Mo_parse).cc 196 = .ok (.dup, 1) := by decide +kernel
theorem d_Mo_parse_197 : decode (M_Mo_parse).cc 197 = .ok (.getfield 167, 3) := by decide +kernel
theorem d_Mo_parse_200 : decode (M_Mo_parse).cc 200 = .ok (.iconst 1, 1) := by decide +kernel
theorem d_Mo_parse_201 : decode (M_Mo_parse).cc 201 = .ok (.iadd, 1) := by decide +kernel
theorem d_Mo_parse_202 : decode (M_Mo_parse).cc 202 = .ok (.putfield 167, 3) := by decide +kernel
theorem d_Mo_parse_205 : decode (M_Mo_parse).cc 205 = .ok (.iconst 0, 1) := by decide +kernel
theorem d_Mo_parse_206 : decode (M_Mo_parse).cc 206 = .ok (.istore 4, 2) := by decide +kernel
theorem d_Mo_parse_208 : decode (M_Mo_parse).cc 208 = .ok (.iconst 1, 1) := by decide +kernel
theorem d_Mo_parse_209 : decode (M_Mo_parse).cc 209 = .ok (.istore_n 2, 1) := by decide +kernel
theorem d_Mo_parse_210 : decode (M_Mo_parse).cc 210 = .ok (.iload 5, 2) := by decide +kernel
theorem d_Mo_parse_212 : decode (M_Mo_parse).cc 212 = .ok (.iload 7, 2) := by decide +kernel
theorem d_Mo_parse_214 : decode (M_Mo_parse).cc 214 = .ok (.invokestatic 107, 3) := by decide +kernel
theorem d_Mo_parse_217 : decode (M_Mo_parse).cc 217 = .ok (.iadd, 1) := by decide +kernel
theorem d_Mo_parse_218 : decode (M_Mo_parse).cc 218 = .ok (.istore 5, 2) := by decide +kernel
theorem d_Mo_parse_220 : decode (M_Mo_parse).cc 220 = .ok (.goto 332, 3) := by decide +kernel
theorem d_Mo_parse_223 : decode (M_Mo_parse).cc 223 = .ok (.iload 8, 2) := by decide +kernel
theorem d_Mo_parse_225 : decode (M_Mo_parse).cc 225 = .ok (.ifCond .le 22, 3) := by decide +kernel
theorem d_Mo_parse_228 : decode (M_Mo_parse).cc 228 = .ok (.iload 4, 2) := by decide +kernel
theorem d_Mo_parse_230 : decode (M_Mo_parse).cc 230 = .ok (.ifCond .ne 17, 3) := by decide +kernel
theorem d_Mo_parse_233 : decode (M_Mo_parse).cc 233 = .ok (.iload_n 2, 1) := by decide +kernel
theorem d_Mo_parse_234 : decode (M_Mo_parse).cc 234 = .ok (.ifCond .le 13, 3) := by decide +kernel
theorem d_Mo_parse_237 : decode (M_Mo_parse).cc 237 = .ok (.iload 8, 2) := by decide +kernel
theorem d_Mo_parse_239 : decode (M_Mo_parse).cc 239 = .ok (.istore 4, 2) := by decide +kernel
theorem d_Mo_parse_241 : decode (M_Mo_parse).cc 241 = .ok (.iinc 5 1, 3) := by decide +kernel
theorem d_Mo_parse_244 : decode (M_Mo_parse).cc 244 = .ok (.goto 308, 3) := by decide +kernel
theorem d_Mo_parse_247 : decode (M_Mo_parse).cc 247 = .ok (.iload 6, 2) := by decide +kernel
theorem d_Mo_parse_249 : decode (M_Mo_parse).cc 249 = .ok (.bipush 49, 2) := by decide +kernel
theorem d_Mo_parse_251 : decode (M_Mo_parse).cc 251 = .ok (.if_icmp .lt 208, 3) := by decide +kernel
theorem d_Mo_parse_254 : decode (M_Mo_parse).cc 254 = .ok (.iload 6, 2) := by decide +kernel
theorem d_Mo_parse_256 : decode (M_Mo_parse).cc 256 = .ok (.bipush 57, 2) := by decide +kernel
theorem d_Mo_parse_258 : decode (M_Mo_parse).cc 258 = .ok (.if_icmp .gt 201, 3) := by decide +kernel
theorem d_Mo_parse_261 : decode (M_Mo_parse).cc 261 = .ok (.iload_n 2, 1) := by decide +kernel
theorem d_Mo_parse_262 : decode (M_Mo_parse).cc 262 = .ok (.iconst 1, 1) := by decide +kernel
theorem d_Mo_parse_263 : decode (M_Mo_parse).cc 263 = .ok (.if_icmp .ne 196, 3) := by decide +kernel
theorem d_Mo_parse_266 : decode (M_Mo_parse).cc 266 = .ok (.iload 6, 2) := by decide +kernel
theorem d_Mo_parse_268 : decode (M_Mo_parse).cc 268 = .ok (.bipush 48, 2) := by decide +kernel
theorem d_Mo_parse_270 : decode (M_Mo_parse).cc 270 = .ok (.isub, 1) := by decide +kernel
theorem d_Mo_parse_271 : decode (M_Mo_parse).cc 271 = .ok (.istore 9, 2) := by decide +kernel
theorem d_Mo_parse_273 : decode (M_Mo_parse).cc 273 = .ok (.aload_n 0, 1) := by decide +kernel
theorem d_Mo_parse_274 : decode (M_Mo_parse).cc 274 = .ok (.getfield 61, 3) := by decide +kernel
theorem d_Mo_parse_277 : decode (M_Mo_parse).cc 277 = .ok (.iload 9, 2) := by decide +kernel
theorem d_Mo_parse_279 : decode (M_Mo_parse).cc 279 = .ok (.iaload, 1) := by decide +kernel
theorem d_Mo_parse_280 : decode (M_Mo_parse).cc 280 = .ok (.ifCond .ge 23, 3) := by decide +kernel
theorem d_Mo_parse_283 : decode (M_Mo_parse).cc 283 = .ok (.aload_n 0, 1) := by decide +kernel
theorem d_Mo_parse_284 : decode (M_Mo_parse).cc 284 = .ok (.getfield 61, 3) := by decide +kernel
theorem d_Mo_parse_287 : decode (M_Mo_parse).cc 287 = .ok (.iload 9, 2) := by decide +kernel
theorem d_Mo_parse_289 : decode (M_Mo_parse).cc 289 = .ok (.iload_n 3, 1) := by decide +kernel
theorem d_Mo_parse_290 : decode (M_Mo_parse).cc 290 = .ok (.iastore, 1) := by decide +kernel
theorem d_Mo_parse_291 : decode (M_Mo_parse).cc 291 = .ok (.aload_n 0, 1) := by decide +kernel
theorem d_Mo_parse_292 : decode (M_Mo_parse).cc 292 = .ok (.getfield 64, 3) := by decide +kernel
theorem d_Mo_parse_295 : decode (M_Mo_parse).cc 295 = .ok (.iload 9, 2) := by decide +kernel
theorem d_Mo_parse_297 : decode (M_Mo_parse).cc 297 = .ok (.iload 4, 2) := by decide +kernel
theorem d_Mo_parse_299 : decode (M_Mo_parse).cc 299 = .ok (.iastore, 1) := by decide +kernel
theorem d_Mo_parse_300 : decode (M_Mo_parse).cc 300 = .ok (.goto 150, 3) := by decide +kernel
theorem d_Mo_parse_303 : decode (M_Mo_parse).cc 303 = .ok (.aload_n 0, 1) := by decide +kernel
theorem d_Mo_parse_304 : decode (M_Mo_parse).cc 304 = .ok (.getfield 61, 3) := by decide +kernel
theorem d_Mo_parse_307 : decode (M_Mo_parse).cc 307 = .ok (.iload 9, 2) := by decide +kernel
theorem d_Mo_parse_309 : decode (M_Mo_parse).cc 309 = .ok (.iaload, 1) := by decide +kernel
theorem d_Mo_parse_310 : decode (M_Mo_parse).cc 310 = .ok (.istore 10, 2) := by decide +kernel
theorem d_Mo_parse_312 : decode (M_Mo_parse).cc 312 = .ok (.iload 4, 2) := by decide +kernel
theorem d_Mo_parse_314 : decode (M_Mo_parse).cc 314 = .ok (.ifCond .le 29, 3) := by decide +kernel
theorem d_Mo_parse_317 : decode (M_Mo_parse).cc 317 = .ok (.aload_n 0, 1) := by decide +kernel
theorem d_Mo_parse_318 : decode (M_Mo_parse).cc 318 = .ok (.getfield 64, 3) := by decide +kernel
theorem d_Mo_parse_321 : decode (M_Mo_parse).cc 321 = .ok (.iload 9, 2) := by decide +kernel
theorem d_Mo_parse_323 : decode (M_Mo_parse).cc 323 = .ok (.iaload, 1) := by decide +kernel
theorem d_Mo_parse_324 : decode (M_Mo_parse).cc 324 = .ok (.ifCond .le 19, 3) := by decide +kernel
theorem d_Mo_parse_327 : decode (M_Mo_parse).cc 327 = .ok (.iload 4, 2) := by decide +kernel
theorem d_Mo_parse_329 : decode (M_Mo_parse).cc 329 = .ok (.aload_n 0, 1) := by decide +kernel
theorem d_Mo_parse_330 : decode (M_Mo_parse).cc 330 = .ok (.getfield 64, 3) := by decide +kernel
theorem d_Mo_parse_333 : decode (M_Mo_parse).cc 333 = .ok (.iload 9, 2) := by decide +kernel
theorem d_Mo_parse_335 : decode (M_Mo_parse).cc 335 = .ok (.iaload, 1) := by decide +kernel
theorem d_Mo_parse_336 : decode (M_Mo_parse).cc 336 = .ok (.if_icmp .eq 7, 3) := by decide +kernel
theorem d_Mo_parse_339 : decode (M_Mo_parse).cc 339 = .ok (.iconst 1, 1) := by decide +kernel
theorem d_Mo_parse_340 : decode (M_Mo_parse).cc 340 = .ok (.goto 4, 3) := by decide +kernel
theorem d_Mo_parse_343 : decode (M_Mo_parse).cc 343 = .ok (.iconst 0, 1) := by decide +kernel
theorem d_Mo_parse_344 : decode (M_Mo_parse).cc 344 = .ok (.istore 11, 2) := by decide +kernel
theorem d_Mo_parse_346 : decode (M_Mo_parse).cc 346 = .ok (.iload 10, 2) := by decide +kernel
theorem d_Mo_parse_348 : decode (M_Mo_parse).cc 348 = .ok (.iload_n 3, 1) := by decide +kernel
theorem d_Mo_parse_349 : decode (M_Mo_parse).cc 349 = .ok (.if_icmp .eq 23, 3) := by decide +kernel
theorem d_Mo_parse_352 : decode (M_Mo_parse).cc 352 = .ok (.aload_n 0, 1) := by decide +kernel
theorem d_Mo_parse_353 : decode (M_Mo_parse).cc 353 = .ok (.getfield 49, 3) := by decide +kernel
theorem d_Mo_parse_356 : decode (M_Mo_parse).cc 356 = .ok (.bipush 6, 2) := by decide +kernel
theorem d_Mo_parse_358 : decode (M_Mo_parse).cc 358 = .ok (.iload 10, 2) := by decide +kernel
theorem d_Mo_parse_360 : decode (M_Mo_parse).cc 360 = .ok (.imul, 1) := by decide +kernel
theorem d_Mo_parse_361 : decode (M_Mo_parse).cc 361 = .ok (.iload_n 3, 1) := by decide +kernel
theorem d_Mo_parse_362 : decode (M_Mo_parse).cc 362 = .ok (.iadd, 1) := by decide +kernel
theorem d_Mo_parse_363 : decode (M_Mo_parse).cc 363 = .ok (.iaload, 1) := by decide +kernel
theorem d_Mo_parse_364 : decode (M_Mo_parse).cc 364 = .ok (.ifCond .gt 8, 3) := by decide +kernel
theorem d_Mo_parse_367 : decode (M_Mo_parse).cc 367 = .ok (.iload 11, 2) := by decide +kernel
theorem d_Mo_parse_369 : decode (M_Mo_parse).cc 369 = .ok (.ifCond .eq 12, 3) := by decide +kernel
theorem d_Mo_parse_372 : decode (M_Mo_parse).cc 372 = .ok (.aload_n 0, 1) := by decide +kernel
theorem d_Mo_parse_373 : decode (M_Mo_parse).cc 373 = .ok (.bipush (-7), 2) := by decide +kernel
theorem d_Mo_parse_375 : decode (M_Mo_parse).cc 375 = .ok (.iload 5, 2) := by decide +kernel
theorem d_Mo_parse_377 : decode (M_Mo_parse).cc 377 = .ok (.invokevirtual 103, 3) := by decide +kernel
theorem d_Mo_parse_380 : decode (M_Mo_parse).cc 380 = .ok (.ireturn, 1) := by decide +kernel
theorem d_Mo_parse_381 : decode (M_Mo_parse).cc 381 = .ok (.iload 4, 2) := by decide +kernel
theorem d_Mo_parse_383 : decode (M_Mo_parse).cc 383 = .ok (.ifCond .le 8, 3) := by decide +kernel
theorem d_Mo_parse_386 : decode (M_Mo_parse).cc 386 = .ok (.iload 4, 2) := by decide +kernel
theorem d_Mo_parse_388 : decode (M_Mo_parse).cc 388 = .ok (.goto 24, 3) := by decide +kernel
theorem d_Mo_parse_391 : decode (M_Mo_parse).cc 391 = .ok (.aload_n 0, 1) := by decide +kernel
theorem d_Mo_parse_392 : decode (M_Mo_parse).cc 392 = .ok (.getfield 64, 3) := by decide +kernel
theorem d_Mo_parse_395 : decode (M_Mo_parse).cc 395 = .ok (.iload 9, 2) := by decide +kernel
theorem d_Mo_parse_397 : decode (M_Mo_parse).cc 397 = .ok (.iaload, 1) := by decide +kernel
theorem d_Mo_parse_398 : decode (M_Mo_parse).cc 398 = .ok (.ifCond .le 13, 3) := by decide +kernel
theorem d_Mo_parse_401 : decode (M_Mo_parse).cc 401 = .ok (.aload_n 0, 1) := by decide +kernel
theorem d_Mo_parse_402 : decode (M_Mo_parse).cc 402 = .ok (.getfield 64, 3) := by decide +kernel
theorem d_Mo_parse_405 : decode (M_Mo_parse).cc 405 = .ok (.iload 9, 2) := by decide +kernel
theorem d_Mo_parse_407 : decode (M_Mo_parse).cc 407 = .ok (.iaload, 1) := by decide +kernel
theorem d_Mo_parse_408 : decode (M_Mo_parse).cc 408 = .ok (.goto 4, 3) := by decide +kernel
theorem d_Mo_parse_411 : decode (M_Mo_parse).cc 411 = .ok (.iconst 1, 1) := by decide +kernel
theorem d_Mo_parse_412 : decode (M_Mo_parse).cc 412 = .ok (.istore 12, 2) := by decide +kernel
theorem d_Mo_parse_414 : decode (M_Mo_parse).cc 414 = .ok (.aload_n 0, 1) := by decide +kernel
theorem d_Mo_parse_415 : decode (M_Mo_parse).cc 415 = .ok (.getfield 49, 3) := by decide +kernel
theorem d_Mo_parse_418 : decode (M_Mo_parse).cc 418 = .ok (.bipush 6, 2) := by decide +kernel
theorem d_Mo_parse_420 : decode (M_Mo_parse).cc 420 = .ok (.iload 10, 2) := by decide +kernel
theorem d_Mo_parse_422 : decode (M_Mo_parse).cc 422 = .ok (.imul, 1) := by decide +kernel
theorem d_Mo_parse_423 : decode (M_Mo_parse).cc 423 = .ok (.iload_n 3, 1) := by decide +kernel
theorem d_Mo_parse_424 : decode (M_Mo_parse).cc 424 = .ok (.iadd, 1) := by decide +kernel
theorem d_Mo_parse_425 : decode (M_Mo_parse).cc 425 = .ok (.iload 12, 2) := by decide +kernel
theorem d_Mo_parse_427 : decode (M_Mo_parse).cc 427 = .ok (.iastore, 1) := by decide +kernel
theorem d_Mo_parse_428 : decode (M_Mo_parse).cc 428 = .ok (.aload_n 0, 1) := by decide +kernel
theorem d_Mo_parse_429 : decode (M_Mo_parse).cc 429 = .ok (.getfield 49, 3) := by decide +kernel
theorem d_Mo_parse_432 : decode (M_Mo_parse).cc 432 = .ok (.bipush 6, 2) := by decide +kernel
theorem d_Mo_parse_434 : decode (M_Mo_parse).cc 434 = .ok (.iload_n 3, 1) := by decide +kernel
theorem d_Mo_parse_435 : decode (M_Mo_parse).cc 435 = .ok (.imul, 1) := by decide +kernel
theorem d_Mo_parse_436 : decode (M_Mo_parse).cc 436 = .ok (.iload 10, 2) := by decide +kernel
theorem d_Mo_parse_438 : decode (M_Mo_parse).cc 438 = .ok (.iadd, 1) := by decide +kernel
theorem d_Mo_parse_439 : decode (M_Mo_parse).cc 439 = .ok (.iload 12, 2) := by decide +kernel
theorem d_Mo_parse_441 : decode (M_Mo_parse).cc 441 = .ok (.iastore, 1) := by decide +kernel
theorem d_Mo_parse_442 : decode (M_Mo_parse).cc 442 = .ok (.aload_n 0, 1) := by decide +kernel
theorem d_Mo_parse_443 : decode (M_Mo_parse).cc 443 = .ok (.getfield 61, 3) := by decide +kernel
theorem d_Mo_parse_446 : decode (M_Mo_parse).cc 446 = .ok (.iload 9, 2) := by decide +kernel
theorem d_Mo_parse_448 : decode (M_Mo_parse).cc 448 = .ok (.iconst (-1), 1) := by decide +kernel
theorem d_Mo_parse_449 : decode (M_Mo_parse).cc 449 = .ok (.iastore, 1) := by decide +kernel
theorem d_Mo_parse_450 : decode (M_Mo_parse).cc 450 = .ok (.iconst 0, 1) := by decide +kernel
theorem d_Mo_parse_451 : decode (M_Mo_parse).cc 451 = .ok (.istore 4, 2) := by decide +kernel
theorem d_Mo_parse_453 : decode (M_Mo_parse).cc 453 = .ok (.iinc 5 1, 3) := by decide +kernel
theorem d_Mo_parse_456 : decode (M_Mo_parse).cc 456 = .ok (.goto 96, 3) := by decide +kernel
theorem d_Mo_parse_459 : decode (M_Mo_parse).cc 459 = .ok (.iload 6, 2) := by decide +kernel
theorem d_Mo_parse_461 : decode (M_Mo_parse).cc 461 = .ok (.bipush 40, 2) := by decide +kernel
theorem d_Mo_parse_463 : decode (M_Mo_parse).cc 463 = .ok (.if_icmp .ne 36, 3) := by decide +kernel
theorem d_Mo_parse_466 : decode (M_Mo_parse).cc 466 = .ok (.iload 4, 2) := by decide +kernel
theorem d_Mo_parse_468 : decode (M_Mo_parse).cc 468 = .ok (.ifCond .ne 31, 3) := by decide +kernel
theorem d_Mo_parse_471 : decode (M_Mo_parse).cc 471 = .ok (.iload_n 2, 1) := by decide +kernel
theorem d_Mo_parse_472 : decode (M_Mo_parse).cc 472 = .ok (.iconst 1, 1) := by decide +kernel
theorem d_Mo_parse_473 : decode (M_Mo_parse).cc 473 = .ok (.if_icmp .eq 8, 3) := by decide +kernel
theorem d_Mo_parse_476 : decode (M_Mo_parse).cc 476 = .ok (.iload_n 2, 1) := by decide +kernel
theorem d_Mo_parse_477 : decode (M_Mo_parse).cc 477 = .ok (.iconst 2, 1) := by decide +kernel
theorem d_Mo_parse_478 : decode (M_Mo_parse).cc 478 = .ok (.if_icmp .ne 21, 3) := by decide +kernel
theorem d_Mo_parse_481 : decode (M_Mo_parse).cc 481 = .ok (.aload_n 0, 1) := by decide +kernel
theorem d_Mo_parse_482 : decode (M_Mo_parse).cc 482 = .ok (.getfield 58, 3) := by decide +kernel
theorem d_Mo_parse_485 : decode (M_Mo_parse).cc 485 = .ok (.iload_n 1, 1) := by decide +kernel
theorem d_Mo_parse_486 : decode (M_Mo_parse).cc 486 = .ok (.iload_n 3, 1) := by decide +kernel
theorem d_Mo_parse_487 : decode (M_Mo_parse).cc 487 = .ok (.iastore, 1) := by decide +kernel
theorem d_Mo_parse_488 : decode (M_Mo_parse).cc 488 = .ok (.iinc 1 1, 3) := by decide +kernel
theorem d_Mo_parse_491 : decode (M_Mo_parse).cc 491 = .ok (.iconst 3, 1) := by decide +kernel
theorem d_Mo_parse_492 : decode (M_Mo_parse).cc 492 = .ok (.istore_n 2, 1) := by decide +kernel
theorem d_Mo_parse_493 : decode (M_Mo_parse).cc 493 = .ok (.iinc 5 1, 3) := by decide +kernel
theorem d_Mo_parse_496 : decode (M_Mo_parse).cc 496 = .ok (.goto 56, 3) := by decide +kernel
theorem d_Mo_parse_499 : decode (M_Mo_parse).cc 499 = .ok (.iload 6, 2) := by decide +kernel
theorem d_Mo_parse_501 : decode (M_Mo_parse).cc 501 = .ok (.bipush 41, 2) := by decide +kernel
theorem d_Mo_parse_503 : decode (M_Mo_parse).cc 503 = .ok (.if_icmp .ne 40, 3) := by decide +kernel
theorem d_Mo_parse_506 : decode (M_Mo_parse).cc 506 = .ok (.iload 4, 2) := by decide +kernel
theorem d_Mo_parse_508 : decode (M_Mo_parse).cc 508 = .ok (.ifCond .ne 35, 3) := by decide +kernel
theorem d_Mo_parse_511 : decode (M_Mo_parse).cc 511 = .ok (.iload_n 1, 1) := by decide +kernel
theorem d_Mo_parse_512 : decode (M_Mo_parse).cc 512 = .ok (.ifCond .le 31, 3) := by decide +kernel
theorem d_Mo_parse_515 : decode (M_Mo_parse).cc 515 = .ok (.iload_n 2, 1) := by decide +kernel
theorem d_Mo_parse_516 : decode (M_Mo_parse).cc 516 = .ok (.iconst 1, 1) := by decide +kernel
theorem d_Mo_parse_517 : decode (M_Mo_parse).cc 517 = .ok (.if_icmp .eq 8, 3) := by decide +kernel
theorem d_Mo_parse_520 : decode (M_Mo_parse).cc 520 = .ok (.iload_n 2, 1) := by decide +kernel
theorem d_Mo_parse_521 : decode (M_Mo_parse).cc 521 = .ok (.iconst 2, 1) := by decide +kernel
theorem d_Mo_parse_522 : decode (M_Mo_parse).cc 522 = .ok (.if_icmp .ne 21, 3) := by decide +kernel
theorem d_Mo_parse_525 : decode (M_Mo_parse).cc 525 = .ok (.iinc 1 (-1), 3) := by decide +kernel
theorem d_Mo_parse_528 : decode (M_Mo_parse).cc 528 = .ok (.aload_n 0, 1) := by decide +kernel
theorem d_Mo_parse_529 : decode (M_Mo_parse).cc 529 = .ok (.getfield 58, 3) := by decide +kernel
theorem d_Mo_parse_532 : decode (M_Mo_parse).cc 532 = .ok (.iload_n 1, 1) := by decide +kernel
theorem d_Mo_parse_533 : decode (M_Mo_parse).cc 533 = .ok (.iaload, 1) := by decide +kernel
theorem d_Mo_parse_534 : decode (M_Mo_parse).cc 534 = .ok (.istore_n 3, 1) := by decide +kernel
theorem d_Mo_parse_535 : decode (M_Mo_parse).cc 535 = .ok (.iconst 2, 1) := by decide +kernel
theorem d_Mo_parse_536 : decode (M_Mo_parse).cc 536 = .ok (.istore_n 2, 1) := by decide +kernel
theorem d_Mo_parse_537 : decode (M_Mo_parse).cc 537 = .ok (.iinc 5 1, 3) := by decide +kernel
theorem d_Mo_parse_540 : decode (M_Mo_parse).cc 540 = .ok (.goto 12, 3) := by decide +kernel
theorem d_Mo_parse_543 : decode (M_Mo_parse).cc 543 = .ok (.aload_n 0, 1) := by decide +kernel
theorem d_Mo_parse_544 : decode (M_Mo_parse).cc 544 = .ok (.bipush (-2), 2) := by decide +kernel
theorem d_Mo_parse_546 : decode (M_Mo_parse).cc 546 = .ok (.iload 5, 2) := by decide +kernel
theorem d_Mo_parse_548 : decode (M_Mo_parse).cc 548 = .ok (.invokevirtual 103, 3) := by decide +kernel
theorem d_Mo_parse_551 : decode (M_Mo_parse).cc 551 = .ok (.ireturn, 1) := by decide +kernel
theorem d_Mo_parse_552 : decode (M_Mo_parse).cc 552 = .ok (.goto (-519), 3) := by decide +kernel
theorem d_Mo_parse_555 : decode (M_Mo_parse).cc 555 = .ok (.iload 4, 2) := by decide +kernel
theorem d_Mo_parse_557 : decode (M_Mo_parse).cc 557 = .ok (.ifCond .gt 16, 3) := by decide +kernel
theorem d_Mo_parse_560 : decode (M_Mo_parse).cc 560 = .ok (.iload_n 1, 1) := by decide +kernel
theorem d_Mo_parse_561 : decode (M_Mo_parse).cc 561 = .ok (.ifCond .gt 12, 3) := by decide +kernel
theorem d_Mo_parse_564 : decode (M_Mo_parse).cc 564 = .ok (.iload_n 2, 1) := by decide +kernel
theorem d_Mo_parse_565 : decode (M_Mo_parse).cc 565 = .ok (.ifCond .eq 8, 3) := by decide +kernel
theorem d_Mo_parse_568 : decode (M_Mo_parse).cc 568 = .ok (.iload_n 2, 1) := by decide +kernel
theorem d_Mo_parse_569 : decode (M_Mo_parse).cc 569 = .ok (.iconst 3, 1) := by decide +kernel
theorem d_Mo_parse_570 : decode (M_Mo_parse).cc 570 = .ok (.if_icmp .ne 14, 3) := by decide +kernel
theorem d_Mo_parse_573 : decode (M_Mo_parse).cc 573 = .ok (.aload_n 0, 1) := by decide +kernel
theorem d_Mo_parse_574 : decode (M_Mo_parse).cc 574 = .ok (.bipush (-2), 2) := by decide +kernel
theorem d_Mo_parse_576 : decode (M_Mo_parse).cc 576 = .ok (.aload_n 0, 1) := by decide +kernel
theorem d_Mo_parse_577 : decode (M_Mo_parse).cc 577 = .ok (.getfield 88, 3) := by decide +kernel
theorem d_Mo_parse_580 : decode (M_Mo_parse).cc 580 = .ok (.invokevirtual 103, 3) := by decide +kernel
theorem d_Mo_parse_583 : decode (M_Mo_parse).cc 583 = .ok (.ireturn, 1) := by decide +kernel
theorem d_Mo_parse_584 : decode (M_Mo_parse).cc 584 = .ok (.aload_n 0, 1) := by decide +kernel
theorem d_Mo_parse_585 : decode (M_Mo_parse).cc 585 = .ok (.invokevirtual 177, 3) := by decide +kernel
theorem d_Mo_parse_588 : decode (M_Mo_parse).cc 588 = .ok (.ireturn, 1) := by decide +kernel
theorem d_Lw_type_0 : decode (M_Lw_type).cc 0 = .ok (.aload_n 2, 1) := by decide +kernel
theorem d_Lw_type_1 : decode (M_Lw_type).cc 1 = .ok (.iconst 0, 1) := by decide +kernel
theorem d_Lw_type_2 : decode (M_Lw_type).cc 2 = .ok (.aload_n 0, 1) := by decide +kernel
theorem d_Lw_type_3 : decode (M_Lw_type).cc 3 = .ok (.iload_n 1, 1) := by decide +kernel
theorem d_Lw_type_4 : decode (M_Lw_type).cc 4 = .ok (.invokevirtual 7, 3) := by decide +kernel
theorem d_Lw_type_7 : decode (M_Lw_type).cc 7 = .ok (.i2l, 1) := by decide +kernel
theorem d_Lw_type_8 : decode (M_Lw_type).cc 8 = .ok (.lastore, 1) := by decide +kernel
theorem d_Lw_type_9 : decode (M_Lw_type).cc 9 = .ok (.goto 6, 3) := by decide +kernel
theorem d_Lw_type_12 : decode (M_Lw_type).cc 12 = .ok (.astore_n 3, 1) := by decide +kernel
theorem d_Lw_type_13 : decode (M_Lw_type).cc 13 = .ok (.iconst 1, 1) := by decide +kernel
theorem d_Lw_type_14 : decode (M_Lw_type).cc 14 = .ok (.ireturn, 1) := by decide +kernel
theorem d_Lw_type_15 : decode (M_Lw_type).cc 15 = .ok (.iconst 0, 1) := by decide +kernel
theorem d_Lw_type_16 : decode (M_Lw_type).cc 16 = .ok (.ireturn, 1) := by decide +kernel
theorem d_Lw_element_0 : decode (M_Lw_element).cc 0 = .ok (.aload_n 2, 1) := by decide +kernel
theorem d_Lw_element_1 : decode (M_Lw_element).cc 1 = .ok (.iconst 0, 1) := by decide +kernel
theorem d_Lw_element_2 : decode (M_Lw_element).cc 2 = .ok (.aload_n 0, 1) := by decide +kernel
theorem d_Lw_element_3 : decode (M_Lw_element).cc 3 = .ok (.iload_n 1, 1) := by decide +kernel
theorem d_Lw_element_4 : decode (M_Lw_element).cc 4 = .ok (.invokevirtual 15, 3) := by decide +kernel
theorem d_Lw_element_7 : decode (M_Lw_element).cc 7 = .ok (.i2l, 1) := by decide +kernel
theorem d_Lw_element_8 : decode (M_Lw_element).cc 8 = .ok (.lastore, 1) := by decide +kernel
theorem d_Lw_element_9 : decode (M_Lw_element).cc 9 = .ok (.goto 6, 3) := by decide +kernel
theorem d_Lw_element_12 : decode (M_Lw_element).cc 12 = .ok (.astore_n 3, 1) := by decide +kernel
theorem d_Lw_element_13 : decode (M_Lw_element).cc 13 = .ok (.iconst 1, 1) := by decide +kernel
theorem d_Lw_element_14 : decode (M_Lw_element).cc 14 = .ok (.ireturn, 1) := by decide +kernel
theorem d_Lw_element_15 : decode (M_Lw_element).cc 15 = .ok (.iconst 0, 1) := by decide +kernel
theorem d_Lw_element_16 : decode (M_Lw_element).cc 16 = .ok (.ireturn, 1) := by decide +kernel
theorem d_Lw_bond_0 : decode (M_Lw_bond).cc 0 = .ok (.aload 4, 2) := by decide +kernel
theorem d_Lw_bond_2 : decode (M_Lw_bond).cc 2 = .ok (.iconst 0, 1) := by decide +kernel
theorem d_Lw_bond_3 : decode (M_Lw_bond).cc 3 = .ok (.aload_n 0, 1) := by decide +kernel
theorem d_Lw_bond_4 : decode (M_Lw_bond).cc 4 = .ok (.iload_n 1, 1) := by decide +kernel
theorem d_Lw_bond_5 : decode (M_Lw_bond).cc 5 = .ok (.iload_n 2, 1) := by decide +kernel
theorem d_Lw_bond_6 : decode (M_Lw_bond).cc 6 = .ok (.iload_n 3, 1) := by decide +kernel
theorem d_Lw_bond_7 : decode (M_Lw_bond).cc 7 = .ok (.invokevirtual 21, 3) := by decide +kernel
theorem d_Lw_bond_10 : decode (M_Lw_bond).cc 10 = .ok (.i2l, 1) := by decide +kernel
theorem d_Lw_bond_11 : decode (M_Lw_bond).cc 11 = .ok (.lastore, 1) := by decide +kernel
theorem d_Lw_bond_12 : decode (M_Lw_bond).cc 12 = .ok (.goto 7, 3) := by decide +kernel
theorem d_Lw_bond_15 : decode (M_Lw_bond).cc 15 = .ok (.astore 5, 2) := by decide +kernel
theorem d_Lw_bond_17 : decode (M_Lw_bond).cc 17 = .ok (.iconst 1, 1) := by decide +kernel
theorem d_Lw_bond_18 : decode (M_Lw_bond).cc 18 = .ok (.ireturn, 1) := by decide +kernel
theorem d_Lw_bond_19 : decode (M_Lw_bond).cc 19 = .ok (.iconst 0, 1) := by decide +kernel
theorem d_Lw_bond_20 : decode (M_Lw_bond).cc 20 = .ok (.ireturn, 1) := by decide +kernel
theorem d_Lw_hydrogens_0 : decode (M_Lw_hydrogens).cc 0 = .ok (.aload_n 3, 1) := by decide +kernel
theorem d_Lw_hydrogens_1 : decode (M_Lw_hydrogens).cc 1 = .ok (.iconst 0, 1) := by decide +kernel
theorem d_Lw_hydrogens_2 : decode (M_Lw_hydrogens).cc 2 = .ok (.aload_n 0, 1) := by decide +kernel
theorem d_Lw_hydrogens_3 : decode (M_Lw_hydrogens).cc 3 = .ok (.iload_n 1, 1) := by decide +kernel
theorem d_Lw_hydrogens_4 : decode (M_Lw_hydrogens).cc 4 = .ok (.iload_n 2, 1) := by decide +kernel
theorem d_Lw_hydrogens_5 : decode (M_Lw_hydrogens).cc 5 = .ok (.invokevirtual 25, 3) := by decide +kernel
theorem d_Lw_hydrogens_8 : decode (M_Lw_hydrogens).cc 8 = .ok (.i2l, 1) := by decide +kernel
theorem d_Lw_hydrogens_9 : decode (M_Lw_hydrogens).cc 9 = .ok (.lastore, 1) := by decide +kernel
theorem d_Lw_hydrogens_10 : decode (M_Lw_hydrogens).cc 10 = .ok (.goto 7, 3) := by decide +kernel
theorem d_Lw_hydrogens_13 : decode (M_Lw_hydrogens).cc 13 = .ok (.astore 4, 2) := by decide +kernel
theorem d_Lw_hydrogens_15 : decode (M_Lw_hydrogens).cc 15 = .ok (.iconst 1, 1) := by decide +kernel
theorem d_Lw_hydrogens_16 : decode (M_Lw_hydrogens).cc 16 = .ok (.ireturn, 1) := by decide +kernel
theorem d_Lw_hydrogens_17 : decode (M_Lw_hydrogens).cc 17 = .ok (.iconst 0, 1) := by decide +kernel
theorem d_Lw_hydrogens_18 : decode (M_Lw_hydrogens).cc 18 = .ok (.ireturn, 1) := by decide +kernel
theorem d_Lw_ways_0 : decode (M_Lw_ways).cc 0 = .ok (.aload_n 2, 1) := by decide +kernel
theorem d_Lw_ways_1 : decode (M_Lw_ways).cc 1 = .ok (.iconst 0, 1) := by decide +kernel
theorem d_Lw_ways_2 : decode (M_Lw_ways).cc 2 = .ok (.aload_n 0, 1) := by decide +kernel
theorem d_Lw_ways_3 : decode (M_Lw_ways).cc 3 = .ok (.iload_n 1, 1) := by decide +kernel
theorem d_Lw_ways_4 : decode (M_Lw_ways).cc 4 = .ok (.invokevirtual 29, 3) := by decide +kernel
theorem d_Lw_ways_7 : decode (M_Lw_ways).cc 7 = .ok (.i2l, 1) := by decide +kernel
theorem d_Lw_ways_8 : decode (M_Lw_ways).cc 8 = .ok (.lastore, 1) := by decide +kernel
theorem d_Lw_ways_9 : decode (M_Lw_ways).cc 9 = .ok (.goto 6, 3) := by decide +kernel
theorem d_Lw_ways_12 : decode (M_Lw_ways).cc 12 = .ok (.astore_n 3, 1) := by decide +kernel
theorem d_Lw_ways_13 : decode (M_Lw_ways).cc 13 = .ok (.iconst 1, 1) := by decide +kernel
theorem d_Lw_ways_14 : decode (M_Lw_ways).cc 14 = .ok (.ireturn, 1) := by decide +kernel
theorem d_Lw_ways_15 : decode (M_Lw_ways).cc 15 = .ok (.iconst 0, 1) := by decide +kernel
theorem d_Lw_ways_16 : decode (M_Lw_ways).cc 16 = .ok (.ireturn, 1) := by decide +kernel
theorem d_Lw_write_0 : decode (M_Lw_write).cc 0 = .ok (.aload_n 2, 1) := by decide +kernel
theorem d_Lw_write_1 : decode (M_Lw_write).cc 1 = .ok (.iconst 0, 1) := by decide +kernel
theorem d_Lw_write_2 : decode (M_Lw_write).cc 2 = .ok (.aload_n 0, 1) := by decide +kernel
theorem d_Lw_write_3 : decode (M_Lw_write).cc 3 = .ok (.iload_n 1, 1) := by decide +kernel
theorem d_Lw_write_4 : decode (M_Lw_write).cc 4 = .ok (.invokevirtual 32, 3) := by decide +kernel
theorem d_Lw_write_7 : decode (M_Lw_write).cc 7 = .ok (.i2l, 1) := by decide +kernel
theorem d_Lw_write_8 : decode (M_Lw_write).cc 8 = .ok (.lastore, 1) := by decide +kernel
theorem d_Lw_write_9 : decode (M_Lw_write).cc 9 = .ok (.goto 6, 3) := by decide +kernel
theorem d_Lw_write_12 : decode (M_Lw_write).cc 12 = .ok (.astore_n 3, 1) := by decide +kernel
theorem d_Lw_write_13 : decode (M_Lw_write).cc 13 = .ok (.iconst 1, 1) := by decide +kernel
theorem d_Lw_write_14 : decode (M_Lw_write).cc 14 = .ok (.ireturn, 1) := by decide +kernel
theorem d_Lw_write_15 : decode (M_Lw_write).cc 15 = .ok (.iconst 0, 1) := by decide +kernel
theorem d_Lw_write_16 : decode (M_Lw_write).cc 16 = .ok (.ireturn, 1) := by decide +kernel
theorem d_Lw_law_0 : decode (M_Lw_law).cc 0 = .ok (.new 8, 3) := by decide +kernel
theorem d_Lw_law_3 : decode (M_Lw_law).cc 3 = .ok (.dup, 1) := by decide +kernel
theorem d_Lw_law_4 : decode (M_Lw_law).cc 4 = .ok (.invokespecial 35, 3) := by decide +kernel
theorem d_Lw_law_7 : decode (M_Lw_law).cc 7 = .ok (.astore_n 1, 1) := by decide +kernel
theorem d_Lw_law_8 : decode (M_Lw_law).cc 8 = .ok (.new 36, 3) := by decide +kernel
theorem d_Lw_law_11 : decode (M_Lw_law).cc 11 = .ok (.dup, 1) := by decide +kernel
theorem d_Lw_law_12 : decode (M_Lw_law).cc 12 = .ok (.invokespecial 38, 3) := by decide +kernel
theorem d_Lw_law_15 : decode (M_Lw_law).cc 15 = .ok (.astore_n 2, 1) := by decide +kernel
theorem d_Lw_law_16 : decode (M_Lw_law).cc 16 = .ok (.iconst 1, 1) := by decide +kernel
theorem d_Lw_law_17 : decode (M_Lw_law).cc 17 = .ok (.newarray .long, 2) := by decide +kernel
theorem d_Lw_law_19 : decode (M_Lw_law).cc 19 = .ok (.astore_n 3, 1) := by decide +kernel
theorem d_Lw_law_20 : decode (M_Lw_law).cc 20 = .ok (.iconst 0, 1) := by decide +kernel
theorem d_Lw_law_21 : decode (M_Lw_law).cc 21 = .ok (.istore 4, 2) := by decide +kernel
theorem d_Lw_law_23 : decode (M_Lw_law).cc 23 = .ok (.iload 4, 2) := by decide +kernel
theorem d_Lw_law_25 : decode (M_Lw_law).cc 25 = .ok (.aload_n 0, 1) := by decide +kernel
theorem d_Lw_law_26 : decode (M_Lw_law).cc 26 = .ok (.arraylength, 1) := by decide +kernel
theorem d_Lw_law_27 : decode (M_Lw_law).cc 27 = .ok (.iconst 4, 1) := by decide +kernel
theorem d_Lw_law_28 : decode (M_Lw_law).cc 28 = .ok (.isub, 1) := by decide +kernel
theorem d_Lw_law_29 : decode (M_Lw_law).cc 29 = .ok (.if_icmp .gt 553, 3) := by decide +kernel
theorem d_Lw_law_32 : decode (M_Lw_law).cc 32 = .ok (.aload_n 0, 1) := by decide +kernel
theorem d_Lw_law_33 : decode (M_Lw_law).cc 33 = .ok (.iload 4, 2) := by decide +kernel
theorem d_Lw_law_35 : decode (M_Lw_law).cc 35 = .ok (.iaload, 1) := by decide +kernel
theorem d_Lw_law_36 : decode (M_Lw_law).cc 36 = .ok (.bipush 15, 2) := by decide +kernel
theorem d_Lw_law_38 : decode (M_Lw_law).cc 38 = .ok (.iand, 1) := by decide +kernel
theorem d_Lw_law_39 : decode (M_Lw_law).cc 39 = .ok (.tableswitch 537 0 11 #[61, 119, 132, 145, 158, 171, 196, 252, 332, 400, 456, 512], 61) := by decide +kernel
theorem d_Lw_law_100 : decode (M_Lw_law).cc 100 = .ok (.aload_n 1, 1) := by decide +kernel
theorem d_Lw_law_101 : decode (M_Lw_law).cc 101 = .ok (.aload_n 0, 1) := by decide +kernel
theorem d_Lw_law_102 : decode (M_Lw_law).cc 102 = .ok (.iload 4, 2) := by decide +kernel
theorem d_Lw_law_104 : decode (M_Lw_law).cc 104 = .ok (.iconst 1, 1) := by decide +kernel
theorem d_Lw_law_105 : decode (M_Lw_law).cc 105 = .ok (.iadd, 1) := by decide +kernel
theorem d_Lw_law_106 : decode (M_Lw_law).cc 106 = .ok (.iaload, 1) := by decide +kernel
theorem d_Lw_law_107 : decode (M_Lw_law).cc 107 = .ok (.i2c, 1) := by decide +kernel
theorem d_Lw_law_108 : decode (M_Lw_law).cc 108 = .ok (.aload_n 3, 1) := by decide +kernel
theorem d_Lw_law_109 : decode (M_Lw_law).cc 109 = .ok (.invokestatic 39, 3) := by decide +kernel
theorem d_Lw_law_112 : decode (M_Lw_law).cc 112 = .ok (.istore 5, 2) := by decide +kernel
theorem d_Lw_law_114 : decode (M_Lw_law).cc 114 = .ok (.aload_n 2, 1) := by decide +kernel
theorem d_Lw_law_115 : decode (M_Lw_law).cc 115 = .ok (.aload_n 0, 1) := by decide +kernel
theorem d_Lw_law_116 : decode (M_Lw_law).cc 116 = .ok (.iload 4, 2) := by decide +kernel
theorem d_Lw_law_118 : decode (M_Lw_law).cc 118 = .ok (.iconst 1, 1) := by decide +kernel
theorem d_Lw_law_119 : decode (M_Lw_law).cc 119 = .ok (.iadd, 1) := by decide +kernel
theorem d_Lw_law_120 : decode (M_Lw_law).cc 120 = .ok (.iaload, 1) := by decide +kernel
theorem d_Lw_law_121 : decode (M_Lw_law).cc 121 = .ok (.i2c, 1) := by decide +kernel
theorem d_Lw_law_122 : decode (M_Lw_law).cc 122 = .ok (.invokevirtual 44, 3) := by decide +kernel
theorem d_Lw_law_125 : decode (M_Lw_law).cc 125 = .ok (.istore 6, 2) := by decide +kernel
theorem d_Lw_law_127 : decode (M_Lw_law).cc 127 = .ok (.aload_n 2, 1) := by decide +kernel
theorem d_Lw_law_128 : decode (M_Lw_law).cc 128 = .ok (.invokevirtual 45, 3) := by decide +kernel
theorem d_Lw_law_131 : decode (M_Lw_law).cc 131 = .ok (.iload 5, 2) := by decide +kernel
theorem d_Lw_law_133 : decode (M_Lw_law).cc 133 = .ok (.if_icmp .eq 5, 3) := by decide +kernel
theorem d_Lw_law_136 : decode (M_Lw_law).cc 136 = .ok (.iconst 0, 1) := by decide +kernel
theorem d_Lw_law_137 : decode (M_Lw_law).cc 137 = .ok (.ireturn, 1) := by decide +kernel
theorem d_Lw_law_138 : decode (M_Lw_law).cc 138 = .ok (.iload 5, 2) := by decide +kernel
theorem d_Lw_law_140 : decode (M_Lw_law).cc 140 = .ok (.ifCond .ne 15, 3) := by decide +kernel
theorem d_Lw_law_143 : decode (M_Lw_law).cc 143 = .ok (.aload_n 3, 1) := by decide +kernel
theorem d_Lw_law_144 : decode (M_Lw_law).cc 144 = .ok (.iconst 0, 1) := by decide +kernel
theorem d_Lw_law_145 : decode (M_Lw_law).cc 145 = .ok (.laload, 1) := by decide +kernel
theorem d_Lw_law_146 : decode (M_Lw_law).cc 146 = .ok (.iload 6, 2) := by decide +kernel
theorem d_Lw_law_148 : decode (M_Lw_law).cc 148 = .ok (.i2l, 1) := by decide +kernel
theorem d_Lw_law_149 : decode (M_Lw_law).cc 149 = .ok (.lcmp, 1) := by decide +kernel
theorem d_Lw_law_150 : decode (M_Lw_law).cc 150 = .ok (.ifCond .eq 5, 3) := by decide +kernel
theorem d_Lw_law_153 : decode (M_Lw_law).cc 153 = .ok (.iconst 0, 1) := by decide +kernel
theorem d_Lw_law_154 : decode (M_Lw_law).cc 154 = .ok (.ireturn, 1) := by decide +kernel
theorem d_Lw_law_155 : decode (M_Lw_law).cc 155 = .ok (.goto 421, 3) := by decide +kernel
theorem d_Lw_law_158 : decode (M_Lw_law).cc 158 = .ok (.aload_n 1, 1) := by decide +kernel
theorem d_Lw_law_159 : decode (M_Lw_law).cc 159 = .ok (.invokevirtual 49, 3) := by decide +kernel
theorem d_Lw_law_162 : decode (M_Lw_law).cc 162 = .ok (.aload_n 2, 1) := by decide +kernel
theorem d_Lw_law_163 : decode (M_Lw_law).cc 163 = .ok (.invokevirtual 52, 3) := by decide +kernel
theorem d_Lw_law_166 : decode (M_Lw_law).cc 166 = .ok (.if_icmp .eq 410, 3) := by decide +kernel
theorem d_Lw_law_169 : decode (M_Lw_law).cc 169 = .ok (.iconst 0, 1) := by decide +kernel
theorem d_Lw_law_170 : decode (M_Lw_law).cc 170 = .ok (.ireturn, 1) := by decide +kernel
theorem d_Lw_law_171 : decode (M_Lw_law).cc 171 = .ok (.aload_n 1, 1) := by decide +kernel
theorem d_Lw_law_172 : decode (M_Lw_law).cc 172 = .ok (.invokevirtual 53, 3) := by decide +kernel
theorem d_Lw_law_175 : decode (M_Lw_law).cc 175 = .ok (.aload_n 2, 1) := by decide +kernel
theorem d_Lw_law_176 : decode (M_Lw_law).cc 176 = .ok (.invokevirtual 56, 3) := by decide +kernel
theorem d_Lw_law_179 : decode (M_Lw_law).cc 179 = .ok (.if_icmp .eq 397, 3) := by decide +kernel
theorem d_Lw_law_182 : decode (M_Lw_law).cc 182 = .ok (.iconst 0, 1) := by decide +kernel
theorem d_Lw_law_183 : decode (M_Lw_law).cc 183 = .ok (.ireturn, 1) := by decide +kernel
theorem d_Lw_law_184 : decode (M_Lw_law).cc 184 = .ok (.aload_n 1, 1) := by decide +kernel
theorem d_Lw_law_185 : decode (M_Lw_law).cc 185 = .ok (.invokevirtual 57, 3) := by decide +kernel
theorem d_Lw_law_188 : decode (M_Lw_law).cc 188 = .ok (.aload_n 2, 1) := by decide +kernel
theorem d_Lw_law_189 : decode (M_Lw_law).cc 189 = .ok (.invokevirtual 60, 3) := by decide +kernel
theorem d_Lw_law_192 : decode (M_Lw_law).cc 192 = .ok (.if_icmp .eq 384, 3) := by decide +kernel
theorem d_Lw_law_195 : decode (M_Lw_law).cc 195 = .ok (.iconst 0, 1) := by decide +kernel
theorem d_Lw_law_196 : decode (M_Lw_law).cc 196 = .ok (.ireturn, 1) := by decide +kernel
theorem d_Lw_law_197 : decode (M_Lw_law).cc 197 = .ok (.aload_n 1, 1) := by decide +kernel
theorem d_Lw_law_198 : decode (M_Lw_law).cc 198 = .ok (.invokevirtual 61, 3) := by decide +kernel
theorem d_Lw_law_201 : decode (M_Lw_law).cc 201 = .ok (.aload_n 2, 1) := by decide +kernel
theorem d_Lw_law_202 : decode (M_Lw_law).cc 202 = .ok (.invokevirtual 64, 3) := by decide +kernel
theorem d_Lw_law_205 : decode (M_Lw_law).cc 205 = .ok (.if_icmp .eq 371, 3) := by decide +kernel
theorem d_Lw_law_208 : decode (M_Lw_law).cc 208 = .ok (.iconst 0, 1) := by decide +kernel
theorem d_Lw_law_209 : decode (M_Lw_law).cc 209 = .ok (.ireturn, 1) := by decide +kernel
theorem d_Lw_law_210 : decode (M_Lw_law).cc 210 = .ok (.aload_n 1, 1) := by decide +kernel
theorem d_Lw_law_211 : decode (M_Lw_law).cc 211 = .ok (.aload_n 0, 1) := by decide +kernel
theorem d_Lw_law_212 : decode (M_Lw_law).cc 212 = .ok (.iload 4, 2) := by decide +kernel
theorem d_Lw_law_214 : decode (M_Lw_law).cc 214 = .ok (.iconst 1, 1) := by decide +kernel
theorem d_Lw_law_215 : decode (M_Lw_law).cc 215 = .ok (.iadd, 1) := by decide +kernel
theorem d_Lw_law_216 : decode (M_Lw_law).cc 216 = .ok (.iaload, 1) := by decide +kernel
theorem d_Lw_law_217 : decode (M_Lw_law).cc 217 = .ok (.invokevirtual 65, 3) := by decide +kernel
theorem d_Lw_law_220 : decode (M_Lw_law).cc 220 = .ok (.aload_n 2, 1) := by decide +kernel
theorem d_Lw_law_221 : decode (M_Lw_law).cc 221 = .ok (.aload_n 0, 1) := by decide +kernel
theorem d_Lw_law_222 : decode (M_Lw_law).cc 222 = .ok (.iload 4, 2) := by decide +kernel
theorem d_Lw_law_224 : decode (M_Lw_law).cc 224 = .ok (.iconst 1, 1) := by decide +kernel
theorem d_Lw_law_225 : decode (M_Lw_law).cc 225 = .ok (.iadd, 1) := by decide +kernel
theorem d_Lw_law_226 : decode (M_Lw_law).cc 226 = .ok (.iaload, 1) := by decide +kernel
theorem d_Lw_law_227 : decode (M_Lw_law).cc 227 = .ok (.invokevirtual 68, 3) := by decide +kernel
theorem d_Lw_law_230 : decode (M_Lw_law).cc 230 = .ok (.if_icmp .eq 346, 3) := by decide +kernel
theorem d_Lw_law_233 : decode (M_Lw_law).cc 233 = .ok (.iconst 0, 1) := by decide +kernel
theorem d_Lw_law_234 : decode (M_Lw_law).cc 234 = .ok (.ireturn, 1) := by decide +kernel
theorem d_Lw_law_235 : decode (M_Lw_law).cc 235 = .ok (.aload_n 1, 1) := by decide +kernel
theorem d_Lw_law_236 : decode (M_Lw_law).cc 236 = .ok (.aload_n 0, 1) := by decide +kernel
theorem d_Lw_law_237 : decode (M_Lw_law).cc 237 = .ok (.iload 4, 2) := by decide +kernel
theorem d_Lw_law_239 : decode (M_Lw_law).cc 239 = .ok (.iconst 1, 1) := by decide +kernel
theorem d_Lw_law_240 : decode (M_Lw_law).cc 240 = .ok (.iadd, 1) := by decide +kernel
theorem d_Lw_law_241 : decode (M_Lw_law).cc 241 = .ok (.iaload, 1) := by decide +kernel
theorem d_Lw_law_242 : decode (M_Lw_law).cc 242 = .ok (.aload_n 3, 1) := by decide +kernel
theorem d_Lw_law_243 : decode (M_Lw_law).cc 243 = .ok (.invokestatic 69, 3) := by decide +kernel
theorem d_Lw_law_246 : decode (M_Lw_law).cc 246 = .ok (.istore 5, 2) := by decide +kernel
theorem d_Lw_law_248 : decode (M_Lw_law).cc 248 = .ok (.aload_n 2, 1) := by decide +kernel
theorem d_Lw_law_249 : decode (M_Lw_law).cc 249 = .ok (.aload_n 0, 1) := by decide +kernel
theorem d_Lw_law_250 : decode (M_Lw_law).cc 250 = .ok (.iload 4, 2) := by decide +kernel
theorem d_Lw_law_252 : decode (M_Lw_law).cc 252 = .ok (.iconst 1, 1) := by decide +kernel
theorem d_Lw_law_253 : decode (M_Lw_law).cc 253 = .ok (.iadd, 1) := by decide +kernel
theorem d_Lw_law_254 : decode (M_Lw_law).cc 254 = .ok (.iaload, 1) := by decide +kernel
theorem d_Lw_law_255 : decode (M_Lw_law).cc 255 = .ok (.invokevirtual 72, 3) := by decide +kernel
theorem d_Lw_law_258 : decode (M_Lw_law).cc 258 = .ok (.istore 6, 2) := by decide +kernel
theorem d_Lw_law_260 : decode (M_Lw_law).cc 260 = .ok (.aload_n 2, 1) := by decide +kernel
theorem d_Lw_law_261 : decode (M_Lw_law).cc 261 = .ok (.invokevirtual 45, 3) := by decide +kernel
theorem d_Lw_law_264 : decode (M_Lw_law).cc 264 = .ok (.iload 5, 2) := by decide +kernel
theorem d_Lw_law_266 : decode (M_Lw_law).cc 266 = .ok (.if_icmp .eq 5, 3) := by decide +kernel
theorem d_Lw_law_269 : decode (M_Lw_law).cc 269 = .ok (.iconst 0, 1) := by decide +kernel
theorem d_Lw_law_270 : decode (M_Lw_law).cc 270 = .ok (.ireturn, 1) := by decide +kernel
theorem d_Lw_law_271 : decode (M_Lw_law).cc 271 = .ok (.iload 5, 2) := by decide +kernel
theorem d_Lw_law_273 : decode (M_Lw_law).cc 273 = .ok (.ifCond .ne 15, 3) := by decide +kernel
theorem d_Lw_law_276 : decode (M_Lw_law).cc 276 = .ok (.aload_n 3, 1) := by decide +kernel
theorem d_Lw_law_277 : decode (M_Lw_law).cc 277 = .ok (.iconst 0, 1) := by decide +kernel
theorem d_Lw_law_278 : decode (M_Lw_law).cc 278 = .ok (.laload, 1) := by decide +kernel
theorem d_Lw_law_279 : decode (M_Lw_law).cc 279 = .ok (.iload 6, 2) := by decide +kernel
theorem d_Lw_law_281 : decode (M_Lw_law).cc 281 = .ok (.i2l, 1) := by decide +kernel
theorem d_Lw_law_282 : decode (M_Lw_law).cc 282 = .ok (.lcmp, 1) := by decide +kernel
theorem d_Lw_law_283 : decode (M_Lw_law).cc 283 = .ok (.ifCond .eq 5, 3) := by decide +kernel
theorem d_Lw_law_286 : decode (M_Lw_law).cc 286 = .ok (.iconst 0, 1) := by decide +kernel
theorem d_Lw_law_287 : decode (M_Lw_law).cc 287 = .ok (.ireturn, 1) := by decide +kernel
theorem d_Lw_law_288 : decode (M_Lw_law).cc 288 = .ok (.goto 288, 3) := by decide +kernel
theorem d_Lw_law_291 : decode (M_Lw_law).cc 291 = .ok (.aload_n 1, 1) := by decide +kernel
theorem d_Lw_law_292 : decode (M_Lw_law).cc 292 = .ok (.aload_n 0, 1) := by decide +kernel
theorem d_Lw_law_293 : decode (M_Lw_law).cc 293 = .ok (.iload 4, 2) := by decide +kernel
theorem d_Lw_law_295 : decode (M_Lw_law).cc 295 = .ok (.iconst 1, 1) := by decide +kernel
theorem d_Lw_law_296 : decode (M_Lw_law).cc 296 = .ok (.iadd, 1) := by decide +kernel
theorem d_Lw_law_297 : decode (M_Lw_law).cc 297 = .ok (.iaload, 1) := by decide +kernel
theorem d_Lw_law_298 : decode (M_Lw_law).cc 298 = .ok (.aload_n 0, 1) := by decide +kernel
theorem d_Lw_law_299 : decode (M_Lw_law).cc 299 = .ok (.iload 4, 2) := by decide +kernel
theorem d_Lw_law_301 : decode (M_Lw_law).cc 301 = .ok (.iconst 2, 1) := by decide +kernel
theorem d_Lw_law_302 : decode (M_Lw_law).cc 302 = .ok (.iadd, 1) := by decide +kernel
theorem d_Lw_law_303 : decode (M_Lw_law).cc 303 = .ok (.iaload, 1) := by decide +kernel
theorem d_Lw_law_304 : decode (M_Lw_law).cc 304 = .ok (.aload_n 0, 1) := by decide +kernel
theorem d_Lw_law_305 : decode (M_Lw_law).cc 305 = .ok (.iload 4, 2) := by decide +kernel
theorem d_Lw_law_307 : decode (M_Lw_law).cc 307 = .ok (.iconst 3, 1) := by decide +kernel
theorem d_Lw_law_308 : decode (M_Lw_law).cc 308 = .ok (.iadd, 1) := by decide +kernel
theorem d_Lw_law_309 : decode (M_Lw_law).cc 309 = .ok (.iaload, 1) := by decide +kernel
theorem d_Lw_law_310 : decode (M_Lw_law).cc 310 = .ok (.aload_n 3, 1) := by decide +kernel
theorem d_Lw_law_311 : decode (M_Lw_law).cc 311 = .ok (.invokestatic 73, 3) := by decide +kernel
theorem d_Lw_law_314 : decode (M_Lw_law).cc 314 = .ok (.istore 5, 2) := by decide +kernel
theorem d_Lw_law_316 : decode (M_Lw_law).cc 316 = .ok (.aload_n 2, 1) := by decide +kernel
theorem d_Lw_law_317 : decode (M_Lw_law).cc 317 = .ok (.aload_n 0, 1) := by decide +kernel
theorem d_Lw_law_318 : decode (M_Lw_law).cc 318 = .ok (.iload 4, 2) := by decide +kernel
theorem d_Lw_law_320 : decode (M_Lw_law).cc 320 = .ok (.iconst 1, 1) := by decide +kernel
theorem d_Lw_law_321 : decode (M_Lw_law).cc 321 = .ok (.iadd, 1) := by decide +kernel
theorem d_Lw_law_322 : decode (M_Lw_law).cc 322 = .ok (.iaload, 1) := by decide +kernel
theorem d_Lw_law_323 : decode (M_Lw_law).cc 323 = .ok (.aload_n 0, 1) := by decide +kernel
theorem d_Lw_law_324 : decode (M_Lw_law).cc 324 = .ok (.iload 4, 2) := by decide +kernel
theorem d_Lw_law_326 : decode (M_Lw_law).cc 326 = .ok (.iconst 2, 1) := by decide +kernel
theorem d_Lw_law_327 : decode (M_Lw_law).cc 327 = .ok (.iadd, 1) := by decide +kernel
theorem d_Lw_law_328 : decode (M_Lw_law).cc 328 = .ok (.iaload, 1) := by decide +kernel
theorem d_Lw_law_329 : decode (M_Lw_law).cc 329 = .ok (.aload_n 0, 1) := by decide +kernel
theorem d_Lw_law_330 : decode (M_Lw_law).cc 330 = .ok (.iload 4, 2) := by decide +kernel
theorem d_Lw_law_332 : decode (M_Lw_law).cc 332 = .ok (.iconst 3, 1) := by decide +kernel
theorem d_Lw_law_333 : decode (M_Lw_law).cc 333 = .ok (.iadd, 1) := by decide +kernel
theorem d_Lw_law_334 : decode (M_Lw_law).cc 334 = .ok (.iaload, 1) := by decide +kernel
theorem d_Lw_law_335 : decode (M_Lw_law).cc 335 = .ok (.invokevirtual 76, 3) := by decide +kernel
theorem d_Lw_law_338 : decode (M_Lw_law).cc 338 = .ok (.istore 6, 2) := by decide +kernel
theorem d_Lw_law_340 : decode (M_Lw_law).cc 340 = .ok (.aload_n 2, 1) := by decide +kernel
theorem d_Lw_law_341 : decode (M_Lw_law).cc 341 = .ok (.invokevirtual 45, 3) := by decide +kernel
theorem d_Lw_law_344 : decode (M_Lw_law).cc 344 = .ok (.iload 5, 2) := by decide +kernel
theorem d_Lw_law_346 : decode (M_Lw_law).cc 346 = .ok (.if_icmp .eq 5, 3) := by decide +kernel
theorem d_Lw_law_349 : decode (M_Lw_law).cc 349 = .ok (.iconst 0, 1) := by decide +kernel
theorem d_Lw_law_350 : decode (M_Lw_law).cc 350 = .ok (.ireturn, 1) := by decide +kernel
theorem d_Lw_law_351 : decode (M_Lw_law).cc 351 = .ok (.iload 5, 2) := by decide +kernel
theorem d_Lw_law_353 : decode (M_Lw_law).cc 353 = .ok (.ifCond .ne 15, 3) := by decide +kernel
theorem d_Lw_law_356 : decode (M_Lw_law).cc 356 = .ok (.aload_n 3, 1) := by decide +kernel
theorem d_Lw_law_357 : decode (M_Lw_law).cc 357 = .ok (.iconst 0, 1) := by decide +kernel
theorem d_Lw_law_358 : decode (M_Lw_law).cc 358 = .ok (.laload, 1) := by decide +kernel
theorem d_Lw_law_359 : decode (M_Lw_law).cc 359 = .ok (.iload 6, 2) := by decide +kernel
theorem d_Lw_law_361 : decode (M_Lw_law).cc 361 = .ok (.i2l, 1) := by decide +kernel
theorem d_Lw_law_362 : decode (M_Lw_law).cc 362 = .ok (.lcmp, 1) := by decide +kernel
theorem d_Lw_law_363 : decode (M_Lw_law).cc 363 = .ok (.ifCond .eq 5, 3) := by decide +kernel
theorem d_Lw_law_366 : decode (M_Lw_law).cc 366 = .ok (.iconst 0, 1) := by decide +kernel
theorem d_Lw_law_367 : decode (M_Lw_law).cc 367 = .ok (.ireturn, 1) := by decide +kernel
theorem d_Lw_law_368 : decode (M_Lw_law).cc 368 = .ok (.goto 208, 3) := by decide +kernel
theorem d_Lw_law_371 : decode (M_Lw_law).cc 371 = .ok (.aload_n 1, 1) := by decide +kernel
theorem d_Lw_law_372 : decode (M_Lw_law).cc 372 = .ok (.aload_n 0, 1) := by decide +kernel
theorem d_Lw_law_373 : decode (M_Lw_law).cc 373 = .ok (.iload 4, 2) := by decide +kernel
theorem d_Lw_law_375 : decode (M_Lw_law).cc 375 = .ok (.iconst 1, 1) := by decide +kernel
theorem d_Lw_law_376 : decode (M_Lw_law).cc 376 = .ok (.iadd, 1) := by decide +kernel
theorem d_Lw_law_377 : decode (M_Lw_law).cc 377 = .ok (.iaload, 1) := by decide +kernel
theorem d_Lw_law_378 : decode (M_Lw_law).cc 378 = .ok (.aload_n 0, 1) := by decide +kernel
theorem d_Lw_law_379 : decode (M_Lw_law).cc 379 = .ok (.iload 4, 2) := by decide +kernel
theorem d_Lw_law_381 : decode (M_Lw_law).cc 381 = .ok (.iconst 2, 1) := by decide +kernel
theorem d_Lw_law_382 : decode (M_Lw_law).cc 382 = .ok (.iadd, 1) := by decide +kernel
theorem d_Lw_law_383 : decode (M_Lw_law).cc 383 = .ok (.iaload, 1) := by decide +kernel
theorem d_Lw_law_384 : decode (M_Lw_law).cc 384 = .ok (.aload_n 3, 1) := by decide +kernel
theorem d_Lw_law_385 : decode (M_Lw_law).cc 385 = .ok (.invokestatic 77, 3) := by decide +kernel
theorem d_Lw_law_388 : decode (M_Lw_law).cc 388 = .ok (.istore 5, 2) := by decide +kernel
theorem d_Lw_law_390 : decode (M_Lw_law).cc 390 = .ok (.aload_n 2, 1) := by decide +kernel
theorem d_Lw_law_391 : decode (M_Lw_law).cc 391 = .ok (.aload_n 0, 1) := by decide +kernel
theorem d_Lw_law_392 : decode (M_Lw_law).cc 392 = .ok (.iload 4, 2) := by decide +kernel
theorem d_Lw_law_394 : decode (M_Lw_law).cc 394 = .ok (.iconst 1, 1) := by decide +kernel
theorem d_Lw_law_395 : decode (M_Lw_law).cc 395 = .ok (.iadd, 1) := by decide +kernel
theorem d_Lw_law_396 : decode (M_Lw_law).cc 396 = .ok (.iaload, 1) := by decide +kernel
theorem d_Lw_law_397 : decode (M_Lw_law).cc 397 = .ok (.aload_n 0, 1) := by decide +kernel
theorem d_Lw_law_398 : decode (M_Lw_law).cc 398 = .ok (.iload 4, 2) := by decide +kernel
theorem d_Lw_law_400 : decode (M_Lw_law).cc 400 = .ok (.iconst 2, 1) := by decide +kernel
theorem d_Lw_law_401 : decode (M_Lw_law).cc 401 = .ok (.iadd, 1) := by decide +kernel
theorem d_Lw_law_402 : decode (M_Lw_law).cc 402 = .ok (.iaload, 1) := by decide +kernel
theorem d_Lw_law_403 : decode (M_Lw_law).cc 403 = .ok (.invokevirtual 80, 3) := by decide +kernel
theorem d_Lw_law_406 : decode (M_Lw_law).cc 406 = .ok (.istore 6, 2) := by decide +kernel
theorem d_Lw_law_408 : decode (M_Lw_law).cc 408 = .ok (.aload_n 2, 1) := by decide +kernel
theorem d_Lw_law_409 : decode (M_Lw_law).cc 409 = .ok (.invokevirtual 45, 3) := by decide +kernel
theorem d_Lw_law_412 : decode (M_Lw_law).cc 412 = .ok (.iload 5, 2) := by decide +kernel
theorem d_Lw_law_414 : decode (M_Lw_law).cc 414 = .ok (.if_icmp .eq 5, 3) := by decide +kernel
theorem d_Lw_law_417 : decode (M_Lw_law).cc 417 = .ok (.iconst 0, 1) := by decide +kernel
theorem d_Lw_law_418 : decode (M_Lw_law).cc 418 = .ok (.ireturn, 1) := by decide +kernel
theorem d_Lw_law_419 : decode (M_Lw_law).cc 419 = .ok (.iload 5, 2) := by decide +kernel
theorem d_Lw_law_421 : decode (M_Lw_law).cc 421 = .ok (.ifCond .ne 15, 3) := by decide +kernel
theorem d_Lw_law_424 : decode (M_Lw_law).cc 424 = .ok (.aload_n 3, 1) := by decide +kernel
theorem d_Lw_law_425 : decode (M_Lw_law).cc 425 = .ok (.iconst 0, 1) := by decide +kernel
theorem d_Lw_law_426 : decode (M_Lw_law).cc 426 = .ok (.laload, 1) := by decide +kernel
theorem d_Lw_law_427 : decode (M_Lw_law).cc 427 = .ok (.iload 6, 2) := by decide +kernel
theorem d_Lw_law_429 : decode (M_Lw_law).cc 429 = .ok (.i2l, 1) := by decide +kernel
theorem d_Lw_law_430 : decode (M_Lw_law).cc 430 = .ok (.lcmp, 1) := by decide +kernel
theorem d_Lw_law_431 : decode (M_Lw_law).cc 431 = .ok (.ifCond .eq 5, 3) := by decide +kernel
theorem d_Lw_law_434 : decode (M_Lw_law).cc 434 = .ok (.iconst 0, 1) := by decide +kernel
theorem d_Lw_law_435 : decode (M_Lw_law).cc 435 = .ok (.ireturn, 1) := by decide +kernel
theorem d_Lw_law_436 : decode (M_Lw_law).cc 436 = .ok (.goto 140, 3) := by decide +kernel
theorem d_Lw_law_439 : decode (M_Lw_law).cc 439 = .ok (.aload_n 1, 1) := by decide +kernel
theorem d_Lw_law_440 : decode (M_Lw_law).cc 440 = .ok (.aload_n 0, 1) := by decide +kernel
theorem d_Lw_law_441 : decode (M_Lw_law).cc 441 = .ok (.iload 4, 2) := by decide +kernel
theorem d_Lw_law_443 : decode (M_Lw_law).cc 443 = .ok (.iconst 1, 1) := by decide +kernel
theorem d_Lw_law_444 : decode (M_Lw_law).cc 444 = .ok (.iadd, 1) := by decide +kernel
theorem d_Lw_law_445 : decode (M_Lw_law).cc 445 = .ok (.iaload, 1) := by decide +kernel
theorem d_Lw_law_446 : decode (M_Lw_law).cc 446 = .ok (.aload_n 3, 1) := by decide +kernel
theorem d_Lw_law_447 : decode (M_Lw_law).cc 447 = .ok (.invokestatic 81, 3) := by decide +kernel
theorem d_Lw_law_450 : decode (M_Lw_law).cc 450 = .ok (.istore 5, 2) := by decide +kernel
theorem d_Lw_law_452 : decode (M_Lw_law).cc 452 = .ok (.aload_n 2, 1) := by decide +kernel
theorem d_Lw_law_453 : decode (M_Lw_law).cc 453 = .ok (.aload_n 0, 1) := by decide +kernel
theorem d_Lw_law_454 : decode (M_Lw_law).cc 454 = .ok (.iload 4, 2) := by decide +kernel
theorem d_Lw_law_456 : decode (M_Lw_law).cc 456 = .ok (.iconst 1, 1) := by decide +kernel
theorem d_Lw_law_457 : decode (M_Lw_law).cc 457 = .ok (.iadd, 1) := by decide +kernel
theorem d_Lw_law_458 : decode (M_Lw_law).cc 458 = .ok (.iaload, 1) := by decide +kernel
theorem d_Lw_law_459 : decode (M_Lw_law).cc 459 = .ok (.invokevirtual 83, 3) := by decide +kernel
theorem d_Lw_law_462 : decode (M_Lw_law).cc 462 = .ok (.istore 6, 2) := by decide +kernel
theorem d_Lw_law_464 : decode (M_Lw_law).cc 464 = .ok (.aload_n 2, 1) := by decide +kernel
theorem d_Lw_law_465 : decode (M_Lw_law).cc 465 = .ok (.invokevirtual 45, 3) := by decide +kernel
theorem d_Lw_law_468 : decode (M_Lw_law).cc 468 = .ok (.iload 5, 2) := by decide +kernel
theorem d_Lw_law_470 : decode (M_Lw_law).cc 470 = .ok (.if_icmp .eq 5, 3) := by decide +kernel
theorem d_Lw_law_473 : decode (M_Lw_law).cc 473 = .ok (.iconst 0, 1) := by decide +kernel
theorem d_Lw_law_474 : decode (M_Lw_law).cc 474 = .ok (.ireturn, 1) := by decide +kernel
theorem d_Lw_law_475 : decode (M_Lw_law).cc 475 = .ok (.iload 5, 2) := by decide +kernel
theorem d_Lw_law_477 : decode (M_Lw_law).cc 477 = .ok (.ifCond .ne 15, 3) := by decide +kernel
theorem d_Lw_law_480 : decode (M_Lw_law).cc 480 = .ok (.aload_n 3, 1) := by decide +kernel
theorem d_Lw_law_481 : decode (M_Lw_law).cc 481 = .ok (.iconst 0, 1) := by decide +kernel
theorem d_Lw_law_482 : decode (M_Lw_law).cc 482 = .ok (.laload, 1) := by decide +kernel
theorem d_Lw_law_483 : decode (M_Lw_law).cc 483 = .ok (.iload 6, 2) := by decide +kernel
theorem d_Lw_law_485 : decode (M_Lw_law).cc 485 = .ok (.i2l, 1) := by decide +kernel
theorem d_Lw_law_486 : decode (M_Lw_law).cc 486 = .ok (.lcmp, 1) := by decide +kernel
theorem d_Lw_law_487 : decode (M_Lw_law).cc 487 = .ok (.ifCond .eq 5, 3) := by decide +kernel
theorem d_Lw_law_490 : decode (M_Lw_law).cc 490 = .ok (.iconst 0, 1) := by decide +kernel
theorem d_Lw_law_491 : decode (M_Lw_law).cc 491 = .ok (.ireturn, 1) := by decide +kernel
theorem d_Lw_law_492 : decode (M_Lw_law).cc 492 = .ok (.goto 84, 3) := by decide +kernel
theorem d_Lw_law_495 : decode (M_Lw_law).cc 495 = .ok (.aload_n 1, 1) := by decide +kernel
theorem d_Lw_law_496 : decode (M_Lw_law).cc 496 = .ok (.aload_n 0, 1) := by decide +kernel
theorem d_Lw_law_497 : decode (M_Lw_law).cc 497 = .ok (.iload 4, 2) := by decide +kernel
theorem d_Lw_law_499 : decode (M_Lw_law).cc 499 = .ok (.iconst 1, 1) := by decide +kernel
theorem d_Lw_law_500 : decode (M_Lw_law).cc 500 = .ok (.iadd, 1) := by decide +kernel
theorem d_Lw_law_501 : decode (M_Lw_law).cc 501 = .ok (.iaload, 1) := by decide +kernel
theorem d_Lw_law_502 : decode (M_Lw_law).cc 502 = .ok (.aload_n 3, 1) := by decide +kernel
theorem d_Lw_law_503 : decode (M_Lw_law).cc 503 = .ok (.invokestatic 84, 3) := by decide +kernel
theorem d_Lw_law_506 : decode (M_Lw_law).cc 506 = .ok (.istore 5, 2) := by decide +kernel
theorem d_Lw_law_508 : decode (M_Lw_law).cc 508 = .ok (.aload_n 2, 1) := by decide +kernel
theorem d_Lw_law_509 : decode (M_Lw_law).cc 509 = .ok (.aload_n 0, 1) := by decide +kernel
theorem d_Lw_law_510 : decode (M_Lw_law).cc 510 = .ok (.iload 4, 2) := by decide +kernel
theorem d_Lw_law_512 : decode (M_Lw_law).cc 512 = .ok (.iconst 1, 1) := by decide +kernel
theorem d_Lw_law_513 : decode (M_Lw_law).cc 513 = .ok (.iadd, 1) := by decide +kernel
theorem d_Lw_law_514 : decode (M_Lw_law).cc 514 = .ok (.iaload, 1) := by decide +kernel
theorem d_Lw_law_515 : decode (M_Lw_law).cc 515 = .ok (.invokevirtual 86, 3) := by decide +kernel
theorem d_Lw_law_518 : decode (M_Lw_law).cc 518 = .ok (.istore 6, 2) := by decide +kernel
theorem d_Lw_law_520 : decode (M_Lw_law).cc 520 = .ok (.aload_n 2, 1) := by decide +kernel
theorem d_Lw_law_521 : decode (M_Lw_law).cc 521 = .ok (.invokevirtual 45, 3) := by decide +kernel
theorem d_Lw_law_524 : decode (M_Lw_law).cc 524 = .ok (.iload 5, 2) := by decide +kernel
theorem d_Lw_law_526 : decode (M_Lw_law).cc 526 = .ok (.if_icmp .eq 5, 3) := by decide +kernel
theorem d_Lw_law_529 : decode (M_Lw_law).cc 529 = .ok (.iconst 0, 1) := by decide +kernel
theorem d_Lw_law_530 : decode (M_Lw_law).cc 530 = .ok (.ireturn, 1) := by decide +kernel
theorem d_Lw_law_531 : decode (M_Lw_law).cc 531 = .ok (.iload 5, 2) := by decide +kernel
theorem d_Lw_law_533 : decode (M_Lw_law).cc 533 = .ok (.ifCond .ne 15, 3) := by decide +kernel
theorem d_Lw_law_536 : decode (M_Lw_law).cc 536 = .ok (.aload_n 3, 1) := by decide +kernel
theorem d_Lw_law_537 : decode (M_Lw_law).cc 537 = .ok (.iconst 0, 1) := by decide +kernel
theorem d_Lw_law_538 : decode (M_Lw_law).cc 538 = .ok (.laload, 1) := by decide +kernel
theorem d_Lw_law_539 : decode (M_Lw_law).cc 539 = .ok (.iload 6, 2) := by decide +kernel
theorem d_Lw_law_541 : decode (M_Lw_law).cc 541 = .ok (.i2l, 1) := by decide +kernel
theorem d_Lw_law_542 : decode (M_Lw_law).cc 542 = .ok (.lcmp, 1) := by decide +kernel
theorem d_Lw_law_543 : decode (M_Lw_law).cc 543 = .ok (.ifCond .eq 5, 3) := by decide +kernel
theorem d_Lw_law_546 : decode (M_Lw_law).cc 546 = .ok (.iconst 0, 1) := by decide +kernel
theorem d_Lw_law_547 : decode (M_Lw_law).cc 547 = .ok (.ireturn, 1) := by decide +kernel
theorem d_Lw_law_548 : decode (M_Lw_law).cc 548 = .ok (.goto 28, 3) := by decide +kernel
theorem d_Lw_law_551 : decode (M_Lw_law).cc 551 = .ok (.aload_n 1, 1) := by decide +kernel
theorem d_Lw_law_552 : decode (M_Lw_law).cc 552 = .ok (.aload_n 0, 1) := by decide +kernel
theorem d_Lw_law_553 : decode (M_Lw_law).cc 553 = .ok (.iload 4, 2) := by decide +kernel
theorem d_Lw_law_555 : decode (M_Lw_law).cc 555 = .ok (.iconst 1, 1) := by decide +kernel
theorem d_Lw_law_556 : decode (M_Lw_law).cc 556 = .ok (.iadd, 1) := by decide +kernel
theorem d_Lw_law_557 : decode (M_Lw_law).cc 557 = .ok (.iaload, 1) := by decide +kernel
theorem d_Lw_law_558 : decode (M_Lw_law).cc 558 = .ok (.invokevirtual 87, 3) := by decide +kernel
theorem d_Lw_law_561 : decode (M_Lw_law).cc 561 = .ok (.aload_n 2, 1) := by decide +kernel
theorem d_Lw_law_562 : decode (M_Lw_law).cc 562 = .ok (.aload_n 0, 1) := by decide +kernel
theorem d_Lw_law_563 : decode (M_Lw_law).cc 563 = .ok (.iload 4, 2) := by decide +kernel
theorem d_Lw_law_565 : decode (M_Lw_law).cc 565 = .ok (.iconst 1, 1) := by decide +kernel
theorem d_Lw_law_566 : decode (M_Lw_law).cc 566 = .ok (.iadd, 1) := by decide +kernel
theorem d_Lw_law_567 : decode (M_Lw_law).cc 567 = .ok (.iaload, 1) := by decide +kernel
theorem d_Lw_law_568 : decode (M_Lw_law).cc 568 = .ok (.invokevirtual 91, 3) := by decide +kernel
theorem d_Lw_law_571 : decode (M_Lw_law).cc 571 = .ok (.if_icmp .eq 5, 3) := by decide +kernel
theorem d_Lw_law_574 : decode (M_Lw_law).cc 574 = .ok (.iconst 0, 1) := by decide +kernel
theorem d_Lw_law_575 : decode (M_Lw_law).cc 575 = .ok (.ireturn, 1) := by decide +kernel
theorem d_Lw_law_576 : decode (M_Lw_law).cc 576 = .ok (.iinc 4 4, 3) := by decide +kernel
theorem d_Lw_law_579 : decode (M_Lw_law).cc 579 = .ok (.goto (-556), 3) := by decide +kernel
theorem d_Lw_law_582 : decode (M_Lw_law).cc 582 = .ok (.iconst 1, 1) := by decide +kernel
theorem d_Lw_law_583 : decode (M_Lw_law).cc 583 = .ok (.ireturn, 1) := by decide +kernel
