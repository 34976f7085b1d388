theorem dX10_init_0 : decode cX10_init 0 = .ok (.aload_n 0, 1) := by decide +kernel
theorem dX10_init_1 : decode cX10_init 1 = .ok (.invokespecial 1, 3) := by decide +kernel
theorem dX10_init_4 : decode cX10_init 4 = .ok (.aload_n 0, 1) := by decide +kernel
theorem dX10_init_5 : decode cX10_init 5 = .ok (.bipush 24, 2) := by decide +kernel
theorem dX10_init_7 : decode cX10_init 7 = .ok (.newarray .int, 2) := by decide +kernel
theorem dX10_init_9 : decode cX10_init 9 = .ok (.putfield 7, 3) := by decide +kernel
theorem dX10_init_12 : decode cX10_init 12 = .ok (.aload_n 0, 1) := by decide +kernel
theorem dX10_init_13 : decode cX10_init 13 = .ok (.bipush 24, 2) := by decide +kernel
theorem dX10_init_15 : decode cX10_init 15 = .ok (.newarray .int, 2) := by decide +kernel
theorem dX10_init_17 : decode cX10_init 17 = .ok (.putfield 13, 3) := by decide +kernel
theorem dX10_init_20 : decode cX10_init 20 = .ok (.aload_n 0, 1) := by decide +kernel
theorem dX10_init_21 : decode cX10_init 21 = .ok (.iconst 3, 1) := by decide +kernel
theorem dX10_init_22 : decode cX10_init 22 = .ok (.newarray .int, 2) := by decide +kernel
theorem dX10_init_24 : decode cX10_init 24 = .ok (.putfield 16, 3) := by decide +kernel
theorem dX10_init_27 : decode cX10_init 27 = .ok (.aload_n 0, 1) := by decide +kernel
theorem dX10_init_28 : decode cX10_init 28 = .ok (.iconst 3, 1) := by decide +kernel
theorem dX10_init_29 : decode cX10_init 29 = .ok (.newarray .int, 2) := by decide +kernel
theorem dX10_init_31 : decode cX10_init 31 = .ok (.putfield 19, 3) := by decide +kernel
theorem dX10_init_34 : decode cX10_init 34 = .ok (.aload_n 0, 1) := by decide +kernel
theorem dX10_init_35 : decode cX10_init 35 = .ok (.iconst 3, 1) := by decide +kernel
theorem dX10_init_36 : decode cX10_init 36 = .ok (.newarray .int, 2) := by decide +kernel
theorem dX10_init_38 : decode cX10_init 38 = .ok (.putfield 22, 3) := by decide +kernel
theorem dX10_init_41 : decode cX10_init 41 = .ok (.aload_n 0, 1) := by decide +kernel
theorem dX10_init_42 : decode cX10_init 42 = .ok (.bipush 27, 2) := by decide +kernel
theorem dX10_init_44 : decode cX10_init 44 = .ok (.newarray .int, 2) := by decide +kernel
theorem dX10_init_46 : decode cX10_init 46 = .ok (.putfield 25, 3) := by decide +kernel
theorem dX10_init_49 : decode cX10_init 49 = .ok (.aload_n 0, 1) := by decide +kernel
theorem dX10_init_50 : decode cX10_init 50 = .ok (.bipush 6, 2) := by decide +kernel
theorem dX10_init_52 : decode cX10_init 52 = .ok (.newarray .int, 2) := by decide +kernel
theorem dX10_init_54 : decode cX10_init 54 = .ok (.putfield 28, 3) := by decide +kernel
theorem dX10_init_57 : decode cX10_init 57 = .ok (.aload_n 0, 1) := by decide +kernel
theorem dX10_init_58 : decode cX10_init 58 = .ok (.bipush 6, 2) := by decide +kernel
theorem dX10_init_60 : decode cX10_init 60 = .ok (.newarray .int, 2) := by decide +kernel
theorem dX10_init_62 : decode cX10_init 62 = .ok (.putfield 31, 3) := by decide +kernel
theorem dX10_init_65 : decode cX10_init 65 = .ok (.aload_n 0, 1) := by decide +kernel
theorem dX10_init_66 : decode cX10_init 66 = .ok (.bipush 6, 2) := by decide +kernel
theorem dX10_init_68 : decode cX10_init 68 = .ok (.newarray .int, 2) := by decide +kernel
theorem dX10_init_70 : decode cX10_init 70 = .ok (.putfield 34, 3) := by decide +kernel
theorem dX10_init_73 : decode cX10_init 73 = .ok (.aload_n 0, 1) := by decide +kernel
theorem dX10_init_74 : decode cX10_init 74 = .ok (.bipush 6, 2) := by decide +kernel
theorem dX10_init_76 : decode cX10_init 76 = .ok (.newarray .int, 2) := by decide +kernel
theorem dX10_init_78 : decode cX10_init 78 = .ok (.putfield 37, 3) := by decide +kernel
theorem dX10_init_81 : decode cX10_init 81 = .ok (.aload_n 0, 1) := by decide +kernel
theorem dX10_init_82 : decode cX10_init 82 = .ok (.bipush 6, 2) := by decide +kernel
theorem dX10_init_84 : decode cX10_init 84 = .ok (.newarray .int, 2) := by decide +kernel
theorem dX10_init_86 : decode cX10_init 86 = .ok (.putfield 40, 3) := by decide +kernel
theorem dX10_init_89 : decode cX10_init 89 = .ok (.aload_n 0, 1) := by decide +kernel
theorem dX10_init_90 : decode cX10_init 90 = .ok (.iconst 5, 1) := by decide +kernel
theorem dX10_init_91 : decode cX10_init 91 = .ok (.newarray .int, 2) := by decide +kernel
theorem dX10_init_93 : decode cX10_init 93 = .ok (.putfield 43, 3) := by decide +kernel
theorem dX10_init_96 : decode cX10_init 96 = .ok (.aload_n 0, 1) := by decide +kernel
theorem dX10_init_97 : decode cX10_init 97 = .ok (.iconst 5, 1) := by decide +kernel
theorem dX10_init_98 : decode cX10_init 98 = .ok (.newarray .int, 2) := by decide +kernel
theorem dX10_init_100 : decode cX10_init 100 = .ok (.putfield 46, 3) := by decide +kernel
theorem dX10_init_103 : decode cX10_init 103 = .ok (.aload_n 0, 1) := by decide +kernel
theorem dX10_init_104 : decode cX10_init 104 = .ok (.iconst 4, 1) := by decide +kernel
theorem dX10_init_105 : decode cX10_init 105 = .ok (.newarray .int, 2) := by decide +kernel
theorem dX10_init_107 : decode cX10_init 107 = .ok (.putfield 49, 3) := by decide +kernel
theorem dX10_init_110 : decode cX10_init 110 = .ok (.aload_n 0, 1) := by decide +kernel
theorem dX10_init_111 : decode cX10_init 111 = .ok (.iconst 4, 1) := by decide +kernel
theorem dX10_init_112 : decode cX10_init 112 = .ok (.newarray .int, 2) := by decide +kernel
theorem dX10_init_114 : decode cX10_init 114 = .ok (.putfield 52, 3) := by decide +kernel
theorem dX10_init_117 : decode cX10_init 117 = .ok (.aload_n 0, 1) := by decide +kernel
theorem dX10_init_118 : decode cX10_init 118 = .ok (.iconst 1, 1) := by decide +kernel
theorem dX10_init_119 : decode cX10_init 119 = .ok (.putfield 55, 3) := by decide +kernel
theorem dX10_init_122 : decode cX10_init 122 = .ok (.aload_n 0, 1) := by decide +kernel
theorem dX10_init_123 : decode cX10_init 123 = .ok (.iconst 3, 1) := by decide +kernel
theorem dX10_init_124 : decode cX10_init 124 = .ok (.newarray .int, 2) := by decide +kernel
theorem dX10_init_126 : decode cX10_init 126 = .ok (.putfield 59, 3) := by decide +kernel
theorem dX10_init_129 : decode cX10_init 129 = .ok (.aload_n 0, 1) := by decide +kernel
theorem dX10_init_130 : decode cX10_init 130 = .ok (.bipush 24, 2) := by decide +kernel
theorem dX10_init_132 : decode cX10_init 132 = .ok (.newarray .int, 2) := by decide +kernel
theorem dX10_init_134 : decode cX10_init 134 = .ok (.putfield 62, 3) := by decide +kernel
theorem dX10_init_137 : decode cX10_init 137 = .ok (.aload_n 0, 1) := by decide +kernel
theorem dX10_init_138 : decode cX10_init 138 = .ok (.bipush 6, 2) := by decide +kernel
theorem dX10_init_140 : decode cX10_init 140 = .ok (.newarray .int, 2) := by decide +kernel
theorem dX10_init_142 : decode cX10_init 142 = .ok (.putfield 65, 3) := by decide +kernel
theorem dX10_init_145 : decode cX10_init 145 = .ok (.aload_n 0, 1) := by decide +kernel
theorem dX10_init_146 : decode cX10_init 146 = .ok (.bipush 20, 2) := by decide +kernel
theorem dX10_init_148 : decode cX10_init 148 = .ok (.putfield 68, 3) := by decide +kernel
theorem dX10_init_151 : decode cX10_init 151 = .ok (.aload_n 0, 1) := by decide +kernel
theorem dX10_init_152 : decode cX10_init 152 = .ok (.sipush 250, 3) := by decide +kernel
theorem dX10_init_155 : decode cX10_init 155 = .ok (.newarray .int, 2) := by decide +kernel
theorem dX10_init_157 : decode cX10_init 157 = .ok (.putfield 71, 3) := by decide +kernel
theorem dX10_init_160 : decode cX10_init 160 = .ok (.aload_n 0, 1) := by decide +kernel
theorem dX10_init_161 : decode cX10_init 161 = .ok (.iconst (-1), 1) := by decide +kernel
theorem dX10_init_162 : decode cX10_init 162 = .ok (.putfield 74, 3) := by decide +kernel
theorem dX10_init_165 : decode cX10_init 165 = .ok (.aload_n 0, 1) := by decide +kernel
theorem dX10_init_166 : decode cX10_init 166 = .ok (.bipush 24, 2) := by decide +kernel
theorem dX10_init_168 : decode cX10_init 168 = .ok (.newarray .int, 2) := by decide +kernel
theorem dX10_init_170 : decode cX10_init 170 = .ok (.putfield 77, 3) := by decide +kernel
theorem dX10_init_173 : decode cX10_init 173 = .ok (.aload_n 0, 1) := by decide +kernel
theorem dX10_init_174 : decode cX10_init 174 = .ok (.bipush 24, 2) := by decide +kernel
theorem dX10_init_176 : decode cX10_init 176 = .ok (.newarray .int, 2) := by decide +kernel
theorem dX10_init_178 : decode cX10_init 178 = .ok (.putfield 80, 3) := by decide +kernel
theorem dX10_init_181 : decode cX10_init 181 = .ok (.aload_n 0, 1) := by decide +kernel
theorem dX10_init_182 : decode cX10_init 182 = .ok (.bipush 12, 2) := by decide +kernel
theorem dX10_init_184 : decode cX10_init 184 = .ok (.newarray .int, 2) := by decide +kernel
theorem dX10_init_186 : decode cX10_init 186 = .ok (.putfield 83, 3) := by decide +kernel
theorem dX10_init_189 : decode cX10_init 189 = .ok (.aload_n 0, 1) := by decide +kernel
theorem dX10_init_190 : decode cX10_init 190 = .ok (.iconst 3, 1) := by decide +kernel
theorem dX10_init_191 : decode cX10_init 191 = .ok (.newarray .int, 2) := by decide +kernel
theorem dX10_init_193 : decode cX10_init 193 = .ok (.putfield 86, 3) := by decide +kernel
theorem dX10_init_196 : decode cX10_init 196 = .ok (.aload_n 0, 1) := by decide +kernel
theorem dX10_init_197 : decode cX10_init 197 = .ok (.iconst 3, 1) := by decide +kernel
theorem dX10_init_198 : decode cX10_init 198 = .ok (.newarray .int, 2) := by decide +kernel
theorem dX10_init_200 : decode cX10_init 200 = .ok (.putfield 89, 3) := by decide +kernel
theorem dX10_init_203 : decode cX10_init 203 = .ok (.aload_n 0, 1) := by decide +kernel
theorem dX10_init_204 : decode cX10_init 204 = .ok (.iconst 3, 1) := by decide +kernel
theorem dX10_init_205 : decode cX10_init 205 = .ok (.newarray .int, 2) := by decide +kernel
theorem dX10_init_207 : decode cX10_init 207 = .ok (.putfield 92, 3) := by decide +kernel
theorem dX10_init_210 : decode cX10_init 210 = .ok (.aload_n 0, 1) := by decide +kernel
theorem dX10_init_211 : decode cX10_init 211 = .ok (.bipush 27, 2) := by decide +kernel
theorem dX10_init_213 : decode cX10_init 213 = .ok (.newarray .int, 2) := by decide +kernel
theorem dX10_init_215 : decode cX10_init 215 = .ok (.putfield 95, 3) := by decide +kernel
theorem dX10_init_218 : decode cX10_init 218 = .ok (.aload_n 0, 1) := by decide +kernel
theorem dX10_init_219 : decode cX10_init 219 = .ok (.bipush 6, 2) := by decide +kernel
theorem dX10_init_221 : decode cX10_init 221 = .ok (.newarray .int, 2) := by decide +kernel
theorem dX10_init_223 : decode cX10_init 223 = .ok (.putfield 98, 3) := by decide +kernel
theorem dX10_init_226 : decode cX10_init 226 = .ok (.aload_n 0, 1) := by decide +kernel
theorem dX10_init_227 : decode cX10_init 227 = .ok (.bipush 6, 2) := by decide +kernel
theorem dX10_init_229 : decode cX10_init 229 = .ok (.newarray .int, 2) := by decide +kernel
theorem dX10_init_231 : decode cX10_init 231 = .ok (.putfield 101, 3) := by decide +kernel
theorem dX10_init_234 : decode cX10_init 234 = .ok (.aload_n 0, 1) := by decide +kernel
theorem dX10_init_235 : decode cX10_init 235 = .ok (.bipush 6, 2) := by decide +kernel
theorem dX10_init_237 : decode cX10_init 237 = .ok (.newarray .int, 2) := by decide +kernel
theorem dX10_init_239 : decode cX10_init 239 = .ok (.putfield 104, 3) := by decide +kernel
theorem dX10_init_242 : decode cX10_init 242 = .ok (.aload_n 0, 1) := by decide +kernel
theorem dX10_init_243 : decode cX10_init 243 = .ok (.bipush 6, 2) := by decide +kernel
theorem dX10_init_245 : decode cX10_init 245 = .ok (.newarray .int, 2) := by decide +kernel
theorem dX10_init_247 : decode cX10_init 247 = .ok (.putfield 107, 3) := by decide +kernel
theorem dX10_init_250 : decode cX10_init 250 = .ok (.aload_n 0, 1) := by decide +kernel
theorem dX10_init_251 : decode cX10_init 251 = .ok (.bipush 6, 2) := by decide +kernel
theorem dX10_init_253 : decode cX10_init 253 = .ok (.newarray .int, 2) := by decide +kernel
theorem dX10_init_255 : decode cX10_init 255 = .ok (.putfield 110, 3) := by decide +kernel
theorem dX10_init_258 : decode cX10_init 258 = .ok (.aload_n 0, 1) := by decide +kernel
theorem dX10_init_259 : decode cX10_init 259 = .ok (.iconst 5, 1) := by decide +kernel
theorem dX10_init_260 : decode cX10_init 260 = .ok (.newarray .int, 2) := by decide +kernel
theorem dX10_init_262 : decode cX10_init 262 = .ok (.putfield 113, 3) := by decide +kernel
theorem dX10_init_265 : decode cX10_init 265 = .ok (.aload_n 0, 1) := by decide +kernel
theorem dX10_init_266 : decode cX10_init 266 = .ok (.iconst 5, 1) := by decide +kernel
theorem dX10_init_267 : decode cX10_init 267 = .ok (.newarray .int, 2) := by decide +kernel
theorem dX10_init_269 : decode cX10_init 269 = .ok (.putfield 116, 3) := by decide +kernel
theorem dX10_init_272 : decode cX10_init 272 = .ok (.aload_n 0, 1) := by decide +kernel
theorem dX10_init_273 : decode cX10_init 273 = .ok (.iconst 4, 1) := by decide +kernel
theorem dX10_init_274 : decode cX10_init 274 = .ok (.newarray .int, 2) := by decide +kernel
theorem dX10_init_276 : decode cX10_init 276 = .ok (.putfield 119, 3) := by decide +kernel
theorem dX10_init_279 : decode cX10_init 279 = .ok (.aload_n 0, 1) := by decide +kernel
theorem dX10_init_280 : decode cX10_init 280 = .ok (.iconst 4, 1) := by decide +kernel
theorem dX10_init_281 : decode cX10_init 281 = .ok (.newarray .int, 2) := by decide +kernel
theorem dX10_init_283 : decode cX10_init 283 = .ok (.putfield 122, 3) := by decide +kernel
theorem dX10_init_286 : decode cX10_init 286 = .ok (.aload_n 0, 1) := by decide +kernel
theorem dX10_init_287 : decode cX10_init 287 = .ok (.iconst (-1), 1) := by decide +kernel
theorem dX10_init_288 : decode cX10_init 288 = .ok (.putfield 125, 3) := by decide +kernel
theorem dX10_init_291 : decode cX10_init 291 = .ok (.aload_n 0, 1) := by decide +kernel
theorem dX10_init_292 : decode cX10_init 292 = .ok (.sipush 984, 3) := by decide +kernel
theorem dX10_init_295 : decode cX10_init 295 = .ok (.newarray .int, 2) := by decide +kernel
theorem dX10_init_297 : decode cX10_init 297 = .ok (.putfield 128, 3) := by decide +kernel
theorem dX10_init_300 : decode cX10_init 300 = .ok (.aload_n 0, 1) := by decide +kernel
theorem dX10_init_301 : decode cX10_init 301 = .ok (.bipush 12, 2) := by decide +kernel
theorem dX10_init_303 : decode cX10_init 303 = .ok (.newarray .int, 2) := by decide +kernel
theorem dX10_init_305 : decode cX10_init 305 = .ok (.putfield 131, 3) := by decide +kernel
theorem dX10_init_308 : decode cX10_init 308 = .ok (.aload_n 0, 1) := by decide +kernel
theorem dX10_init_309 : decode cX10_init 309 = .ok (.bipush 12, 2) := by decide +kernel
theorem dX10_init_311 : decode cX10_init 311 = .ok (.newarray .int, 2) := by decide +kernel
theorem dX10_init_313 : decode cX10_init 313 = .ok (.putfield 134, 3) := by decide +kernel
theorem dX10_init_316 : decode cX10_init 316 = .ok (.aload_n 0, 1) := by decide +kernel
theorem dX10_init_317 : decode cX10_init 317 = .ok (.bipush 12, 2) := by decide +kernel
theorem dX10_init_319 : decode cX10_init 319 = .ok (.newarray .int, 2) := by decide +kernel
theorem dX10_init_321 : decode cX10_init 321 = .ok (.putfield 137, 3) := by decide +kernel
theorem dX10_init_324 : decode cX10_init 324 = .ok (.aload_n 0, 1) := by decide +kernel
theorem dX10_init_325 : decode cX10_init 325 = .ok (.iconst 3, 1) := by decide +kernel
theorem dX10_init_326 : decode cX10_init 326 = .ok (.newarray .int, 2) := by decide +kernel
theorem dX10_init_328 : decode cX10_init 328 = .ok (.putfield 140, 3) := by decide +kernel
theorem dX10_init_331 : decode cX10_init 331 = .ok (.aload_n 0, 1) := by decide +kernel
theorem dX10_init_332 : decode cX10_init 332 = .ok (.sipush 729, 3) := by decide +kernel
theorem dX10_init_335 : decode cX10_init 335 = .ok (.newarray .int, 2) := by decide +kernel
theorem dX10_init_337 : decode cX10_init 337 = .ok (.putfield 143, 3) := by decide +kernel
theorem dX10_init_340 : decode cX10_init 340 = .ok (.aload_n 0, 1) := by decide +kernel
theorem dX10_init_341 : decode cX10_init 341 = .ok (.bipush 64, 2) := by decide +kernel
theorem dX10_init_343 : decode cX10_init 343 = .ok (.newarray .int, 2) := by decide +kernel
theorem dX10_init_345 : decode cX10_init 345 = .ok (.putfield 146, 3) := by decide +kernel
theorem dX10_init_348 : decode cX10_init 348 = .ok (.aload_n 0, 1) := by decide +kernel
theorem dX10_init_349 : decode cX10_init 349 = .ok (.bipush 30, 2) := by decide +kernel
theorem dX10_init_351 : decode cX10_init 351 = .ok (.newarray .int, 2) := by decide +kernel
theorem dX10_init_353 : decode cX10_init 353 = .ok (.putfield 149, 3) := by decide +kernel
theorem dX10_init_356 : decode cX10_init 356 = .ok (.aload_n 0, 1) := by decide +kernel
theorem dX10_init_357 : decode cX10_init 357 = .ok (.bipush 80, 2) := by decide +kernel
theorem dX10_init_359 : decode cX10_init 359 = .ok (.newarray .int, 2) := by decide +kernel
theorem dX10_init_361 : decode cX10_init 361 = .ok (.putfield 152, 3) := by decide +kernel
theorem dX10_init_364 : decode cX10_init 364 = .ok (.aload_n 0, 1) := by decide +kernel
theorem dX10_init_365 : decode cX10_init 365 = .ok (.iconst 2, 1) := by decide +kernel
theorem dX10_init_366 : decode cX10_init 366 = .ok (.newarray .boolean, 2) := by decide +kernel
theorem dX10_init_368 : decode cX10_init 368 = .ok (.putfield 155, 3) := by decide +kernel
theorem dX10_init_371 : decode cX10_init 371 = .ok (.aload_n 0, 1) := by decide +kernel
theorem dX10_init_372 : decode cX10_init 372 = .ok (.iconst 0, 1) := by decide +kernel
theorem dX10_init_373 : decode cX10_init 373 = .ok (.putfield 159, 3) := by decide +kernel
theorem dX10_init_376 : decode cX10_init 376 = .ok (.return_, 1) := by decide +kernel
theorem dX10_in_0 : decode cX10_in 0 = .ok (.lload_n 0, 1) := by decide +kernel
theorem dX10_in_1 : decode cX10_in 1 = .ok (.lload_n 2, 1) := by decide +kernel
theorem dX10_in_2 : decode cX10_in 2 = .ok (.lcmp, 1) := by decide +kernel
theorem dX10_in_3 : decode cX10_in 3 = .ok (.ifCond .lt 14, 3) := by decide +kernel
theorem dX10_in_6 : decode cX10_in 6 = .ok (.lload_n 0, 1) := by decide +kernel
theorem dX10_in_7 : decode cX10_in 7 = .ok (.lload 4, 2) := by decide +kernel
theorem dX10_in_9 : decode cX10_in 9 = .ok (.lcmp, 1) := by decide +kernel
theorem dX10_in_10 : decode cX10_in 10 = .ok (.ifCond .gt 7, 3) := by decide +kernel
theorem dX10_in_13 : decode cX10_in 13 = .ok (.iconst 1, 1) := by decide +kernel
theorem dX10_in_14 : decode cX10_in 14 = .ok (.goto 4, 3) := by decide +kernel
theorem dX10_in_17 : decode cX10_in 17 = .ok (.iconst 0, 1) := by decide +kernel
theorem dX10_in_18 : decode cX10_in 18 = .ok (.ireturn, 1) := by decide +kernel
theorem dX10_has_0 : decode cX10_has 0 = .ok (.iload_n 0, 1) := by decide +kernel
theorem dX10_has_1 : decode cX10_has 1 = .ok (.iload_n 1, 1) := by decide +kernel
theorem dX10_has_2 : decode cX10_has 2 = .ok (.ishr, 1) := by decide +kernel
theorem dX10_has_3 : decode cX10_has 3 = .ok (.iconst 1, 1) := by decide +kernel
theorem dX10_has_4 : decode cX10_has 4 = .ok (.iand, 1) := by decide +kernel
theorem dX10_has_5 : decode cX10_has 5 = .ok (.iconst 1, 1) := by decide +kernel
theorem dX10_has_6 : decode cX10_has 6 = .ok (.if_icmp .ne 7, 3) := by decide +kernel
theorem dX10_has_9 : decode cX10_has 9 = .ok (.iconst 1, 1) := by decide +kernel
theorem dX10_has_10 : decode cX10_has 10 = .ok (.goto 4, 3) := by decide +kernel
theorem dX10_has_13 : decode cX10_has 13 = .ok (.iconst 0, 1) := by decide +kernel
theorem dX10_has_14 : decode cX10_has 14 = .ok (.ireturn, 1) := by decide +kernel
theorem dX10_cells_0 : decode cX10_cells 0 = .ok (.aload_n 0, 1) := by decide +kernel
theorem dX10_cells_1 : decode cX10_cells 1 = .ok (.getfield 159, 3) := by decide +kernel
theorem dX10_cells_4 : decode cX10_cells 4 = .ok (.aload_n 0, 1) := by decide +kernel
theorem dX10_cells_5 : decode cX10_cells 5 = .ok (.getfield 162, 3) := by decide +kernel
theorem dX10_cells_8 : decode cX10_cells 8 = .ok (.imul, 1) := by decide +kernel
theorem dX10_cells_9 : decode cX10_cells 9 = .ok (.ireturn, 1) := by decide +kernel
theorem dX10_isCell_0 : decode cX10_isCell 0 = .ok (.iload_n 1, 1) := by decide +kernel
theorem dX10_isCell_1 : decode cX10_isCell 1 = .ok (.i2l, 1) := by decide +kernel
theorem dX10_isCell_2 : decode cX10_isCell 2 = .ok (.lconst 0, 1) := by decide +kernel
theorem dX10_isCell_3 : decode cX10_isCell 3 = .ok (.aload_n 0, 1) := by decide +kernel
theorem dX10_isCell_4 : decode cX10_isCell 4 = .ok (.getfield 159, 3) := by decide +kernel
theorem dX10_isCell_7 : decode cX10_isCell 7 = .ok (.iconst 1, 1) := by decide +kernel
theorem dX10_isCell_8 : decode cX10_isCell 8 = .ok (.isub, 1) := by decide +kernel
theorem dX10_isCell_9 : decode cX10_isCell 9 = .ok (.i2l, 1) := by decide +kernel
theorem dX10_isCell_10 : decode cX10_isCell 10 = .ok (.invokestatic 165, 3) := by decide +kernel
theorem dX10_isCell_13 : decode cX10_isCell 13 = .ok (.ifCond .eq 23, 3) := by decide +kernel
theorem dX10_isCell_16 : decode cX10_isCell 16 = .ok (.iload_n 2, 1) := by decide +kernel
theorem dX10_isCell_17 : decode cX10_isCell 17 = .ok (.i2l, 1) := by decide +kernel
theorem dX10_isCell_18 : decode cX10_isCell 18 = .ok (.lconst 0, 1) := by decide +kernel
theorem dX10_isCell_19 : decode cX10_isCell 19 = .ok (.aload_n 0, 1) := by decide +kernel
theorem dX10_isCell_20 : decode cX10_isCell 20 = .ok (.getfield 162, 3) := by decide +kernel
theorem dX10_isCell_23 : decode cX10_isCell 23 = .ok (.iconst 1, 1) := by decide +kernel
theorem dX10_isCell_24 : decode cX10_isCell 24 = .ok (.isub, 1) := by decide +kernel
theorem dX10_isCell_25 : decode cX10_isCell 25 = .ok (.i2l, 1) := by decide +kernel
theorem dX10_isCell_26 : decode cX10_isCell 26 = .ok (.invokestatic 165, 3) := by decide +kernel
theorem dX10_isCell_29 : decode cX10_isCell 29 = .ok (.ifCond .eq 7, 3) := by decide +kernel
theorem dX10_isCell_32 : decode cX10_isCell 32 = .ok (.iconst 1, 1) := by decide +kernel
theorem dX10_isCell_33 : decode cX10_isCell 33 = .ok (.goto 4, 3) := by decide +kernel
theorem dX10_isCell_36 : decode cX10_isCell 36 = .ok (.iconst 0, 1) := by decide +kernel
theorem dX10_isCell_37 : decode cX10_isCell 37 = .ok (.ireturn, 1) := by decide +kernel
theorem dX10_ofPair_0 : decode cX10_ofPair 0 = .ok (.iload_n 1, 1) := by decide +kernel
theorem dX10_ofPair_1 : decode cX10_ofPair 1 = .ok (.ifCond .lt 35, 3) := by decide +kernel
theorem dX10_ofPair_4 : decode cX10_ofPair 4 = .ok (.aload_n 0, 1) := by decide +kernel
theorem dX10_ofPair_5 : decode cX10_ofPair 5 = .ok (.iload_n 1, 1) := by decide +kernel
theorem dX10_ofPair_6 : decode cX10_ofPair 6 = .ok (.bipush 10, 2) := by decide +kernel
theorem dX10_ofPair_8 : decode cX10_ofPair 8 = .ok (.idiv, 1) := by decide +kernel
theorem dX10_ofPair_9 : decode cX10_ofPair 9 = .ok (.iload_n 1, 1) := by decide +kernel
theorem dX10_ofPair_10 : decode cX10_ofPair 10 = .ok (.bipush 10, 2) := by decide +kernel
theorem dX10_ofPair_12 : decode cX10_ofPair 12 = .ok (.irem, 1) := by decide +kernel
theorem dX10_ofPair_13 : decode cX10_ofPair 13 = .ok (.invokevirtual 169, 3) := by decide +kernel
theorem dX10_ofPair_16 : decode cX10_ofPair 16 = .ok (.ifCond .eq 20, 3) := by decide +kernel
theorem dX10_ofPair_19 : decode cX10_ofPair 19 = .ok (.aload_n 0, 1) := by decide +kernel
theorem dX10_ofPair_20 : decode cX10_ofPair 20 = .ok (.getfield 159, 3) := by decide +kernel
theorem dX10_ofPair_23 : decode cX10_ofPair 23 = .ok (.iload_n 1, 1) := by decide +kernel
theorem dX10_ofPair_24 : decode cX10_ofPair 24 = .ok (.bipush 10, 2) := by decide +kernel
theorem dX10_ofPair_26 : decode cX10_ofPair 26 = .ok (.irem, 1) := by decide +kernel
theorem dX10_ofPair_27 : decode cX10_ofPair 27 = .ok (.imul, 1) := by decide +kernel
theorem dX10_ofPair_28 : decode cX10_ofPair 28 = .ok (.iload_n 1, 1) := by decide +kernel
theorem dX10_ofPair_29 : decode cX10_ofPair 29 = .ok (.bipush 10, 2) := by decide +kernel
theorem dX10_ofPair_31 : decode cX10_ofPair 31 = .ok (.idiv, 1) := by decide +kernel
theorem dX10_ofPair_32 : decode cX10_ofPair 32 = .ok (.iadd, 1) := by decide +kernel
theorem dX10_ofPair_33 : decode cX10_ofPair 33 = .ok (.goto 4, 3) := by decide +kernel
theorem dX10_ofPair_36 : decode cX10_ofPair 36 = .ok (.iconst (-1), 1) := by decide +kernel
theorem dX10_ofPair_37 : decode cX10_ofPair 37 = .ok (.ireturn, 1) := by decide +kernel
theorem dX10_pairOf_0 : decode cX10_pairOf 0 = .ok (.bipush 10, 2) := by decide +kernel
theorem dX10_pairOf_2 : decode cX10_pairOf 2 = .ok (.iload_n 1, 1) := by decide +kernel
theorem dX10_pairOf_3 : decode cX10_pairOf 3 = .ok (.aload_n 0, 1) := by decide +kernel
theorem dX10_pairOf_4 : decode cX10_pairOf 4 = .ok (.getfield 159, 3) := by decide +kernel
theorem dX10_pairOf_7 : decode cX10_pairOf 7 = .ok (.irem, 1) := by decide +kernel
theorem dX10_pairOf_8 : decode cX10_pairOf 8 = .ok (.imul, 1) := by decide +kernel
theorem dX10_pairOf_9 : decode cX10_pairOf 9 = .ok (.iload_n 1, 1) := by decide +kernel
theorem dX10_pairOf_10 : decode cX10_pairOf 10 = .ok (.aload_n 0, 1) := by decide +kernel
theorem dX10_pairOf_11 : decode cX10_pairOf 11 = .ok (.getfield 159, 3) := by decide +kernel
theorem dX10_pairOf_14 : decode cX10_pairOf 14 = .ok (.idiv, 1) := by decide +kernel
theorem dX10_pairOf_15 : decode cX10_pairOf 15 = .ok (.iadd, 1) := by decide +kernel
theorem dX10_pairOf_16 : decode cX10_pairOf 16 = .ok (.ireturn, 1) := by decide +kernel
theorem dX10_feed_0 : decode cX10_feed 0 = .ok (.iload_n 1, 1) := by decide +kernel
theorem dX10_feed_1 : decode cX10_feed 1 = .ok (.i2l, 1) := by decide +kernel
theorem dX10_feed_2 : decode cX10_feed 2 = .ok (.lconst 0, 1) := by decide +kernel
theorem dX10_feed_3 : decode cX10_feed 3 = .ok (.ldc2_w 173, 3) := by decide +kernel
theorem dX10_feed_6 : decode cX10_feed 6 = .ok (.invokestatic 165, 3) := by decide +kernel
theorem dX10_feed_9 : decode cX10_feed 9 = .ok (.ifCond .ne 6, 3) := by decide +kernel
theorem dX10_feed_12 : decode cX10_feed 12 = .ok (.ldc 175, 2) := by decide +kernel
theorem dX10_feed_14 : decode cX10_feed 14 = .ok (.ireturn, 1) := by decide +kernel
theorem dX10_feed_15 : decode cX10_feed 15 = .ok (.aload_n 0, 1) := by decide +kernel
theorem dX10_feed_16 : decode cX10_feed 16 = .ok (.getfield 176, 3) := by decide +kernel
theorem dX10_feed_19 : decode cX10_feed 19 = .ok (.sipush 250, 3) := by decide +kernel
theorem dX10_feed_22 : decode cX10_feed 22 = .ok (.if_icmp .ne 6, 3) := by decide +kernel
theorem dX10_feed_25 : decode cX10_feed 25 = .ok (.ldc 179, 2) := by decide +kernel
theorem dX10_feed_27 : decode cX10_feed 27 = .ok (.ireturn, 1) := by decide +kernel
theorem dX10_feed_28 : decode cX10_feed 28 = .ok (.aload_n 0, 1) := by decide +kernel
theorem dX10_feed_29 : decode cX10_feed 29 = .ok (.getfield 71, 3) := by decide +kernel
theorem dX10_feed_32 : decode cX10_feed 32 = .ok (.aload_n 0, 1) := by decide +kernel
theorem dX10_feed_33 : decode cX10_feed 33 = .ok (.getfield 176, 3) := by decide +kernel
theorem dX10_feed_36 : decode cX10_feed 36 = .ok (.iload_n 1, 1) := by decide +kernel
theorem dX10_feed_37 : decode cX10_feed 37 = .ok (.iastore, 1) := by decide +kernel
theorem dX10_feed_38 : decode cX10_feed 38 = .ok (.aload_n 0, 1) := by decide +kernel
theorem dX10_feed_39 : decode cX10_feed 39 = .ok (.dup, 1) := by decide +kernel
theorem dX10_feed_40 : decode cX10_feed 40 = .ok (.getfield 176, 3) := by decide +kernel
theorem dX10_feed_43 : decode cX10_feed 43 = .ok (.iconst 1, 1) := by decide +kernel
theorem dX10_feed_44 : decode cX10_feed 44 = .ok (.iadd, 1) := by decide +kernel
theorem dX10_feed_45 : decode cX10_feed 45 = .ok (.putfield 176, 3) := by decide +kernel
theorem dX10_feed_48 : decode cX10_feed 48 = .ok (.aload_n 0, 1) := by decide +kernel
theorem dX10_feed_49 : decode cX10_feed 49 = .ok (.getfield 176, 3) := by decide +kernel
theorem dX10_feed_52 : decode cX10_feed 52 = .ok (.ireturn, 1) := by decide +kernel
theorem dX10_here_0 : decode cX10_here 0 = .ok (.aload_n 0, 1) := by decide +kernel
theorem dX10_here_1 : decode cX10_here 1 = .ok (.getfield 180, 3) := by decide +kernel
theorem dX10_here_4 : decode cX10_here 4 = .ok (.aload_n 0, 1) := by decide +kernel
theorem dX10_here_5 : decode cX10_here 5 = .ok (.getfield 176, 3) := by decide +kernel
theorem dX10_here_8 : decode cX10_here 8 = .ok (.if_icmp .ge 30, 3) := by decide +kernel
theorem dX10_here_11 : decode cX10_here 11 = .ok (.aload_n 0, 1) := by decide +kernel
theorem dX10_here_12 : decode cX10_here 12 = .ok (.getfield 71, 3) := by decide +kernel
theorem dX10_here_15 : decode cX10_here 15 = .ok (.aload_n 0, 1) := by decide +kernel
theorem dX10_here_16 : decode cX10_here 16 = .ok (.getfield 180, 3) := by decide +kernel
theorem dX10_here_19 : decode cX10_here 19 = .ok (.iaload, 1) := by decide +kernel
theorem dX10_here_20 : decode cX10_here 20 = .ok (.bipush 32, 2) := by decide +kernel
theorem dX10_here_22 : decode cX10_here 22 = .ok (.if_icmp .ne 16, 3) := by decide +kernel
theorem dX10_here_25 : decode cX10_here 25 = .ok (.aload_n 0, 1) := by decide +kernel
theorem dX10_here_26 : decode cX10_here 26 = .ok (.dup, 1) := by decide +kernel
theorem dX10_here_27 : decode cX10_here 27 = .ok (.getfield 180, 3) := by decide +kernel
theorem dX10_here_30 : decode cX10_here 30 = .ok (.iconst 1, 1) := by decide +kernel
theorem dX10_here_31 : decode cX10_here 31 = .ok (.iadd, 1) := by decide +kernel
theorem dX10_here_32 : decode cX10_here 32 = .ok (.putfield 180, 3) := by decide +kernel
theorem dX10_here_35 : decode cX10_here 35 = .ok (.goto (-35), 3) := by decide +kernel
theorem dX10_here_38 : decode cX10_here 38 = .ok (.aload_n 0, 1) := by decide +kernel
theorem dX10_here_39 : decode cX10_here 39 = .ok (.getfield 180, 3) := by decide +kernel
theorem dX10_here_42 : decode cX10_here 42 = .ok (.aload_n 0, 1) := by decide +kernel
theorem dX10_here_43 : decode cX10_here 43 = .ok (.getfield 176, 3) := by decide +kernel
theorem dX10_here_46 : decode cX10_here 46 = .ok (.if_icmp .ge 15, 3) := by decide +kernel
theorem dX10_here_49 : decode cX10_here 49 = .ok (.aload_n 0, 1) := by decide +kernel
theorem dX10_here_50 : decode cX10_here 50 = .ok (.getfield 71, 3) := by decide +kernel
theorem dX10_here_53 : decode cX10_here 53 = .ok (.aload_n 0, 1) := by decide +kernel
theorem dX10_here_54 : decode cX10_here 54 = .ok (.getfield 180, 3) := by decide +kernel
theorem dX10_here_57 : decode cX10_here 57 = .ok (.iaload, 1) := by decide +kernel
theorem dX10_here_58 : decode cX10_here 58 = .ok (.goto 4, 3) := by decide +kernel
theorem dX10_here_61 : decode cX10_here 61 = .ok (.iconst (-1), 1) := by decide +kernel
theorem dX10_here_62 : decode cX10_here 62 = .ok (.ireturn, 1) := by decide +kernel
theorem dX10_fails_0 : decode cX10_fails 0 = .ok (.aload_n 0, 1) := by decide +kernel
theorem dX10_fails_1 : decode cX10_fails 1 = .ok (.iload_n 2, 1) := by decide +kernel
theorem dX10_fails_2 : decode cX10_fails 2 = .ok (.putfield 74, 3) := by decide +kernel
theorem dX10_fails_5 : decode cX10_fails 5 = .ok (.iload_n 1, 1) := by decide +kernel
theorem dX10_fails_6 : decode cX10_fails 6 = .ok (.ireturn, 1) := by decide +kernel
theorem dX10_takeNumber_0 : decode cX10_takeNumber 0 = .ok (.aload_n 0, 1) := by decide +kernel
theorem dX10_takeNumber_1 : decode cX10_takeNumber 1 = .ok (.invokevirtual 183, 3) := by decide +kernel
theorem dX10_takeNumber_4 : decode cX10_takeNumber 4 = .ok (.istore_n 3, 1) := by decide +kernel
theorem dX10_takeNumber_5 : decode cX10_takeNumber 5 = .ok (.iload_n 3, 1) := by decide +kernel
theorem dX10_takeNumber_6 : decode cX10_takeNumber 6 = .ok (.i2l, 1) := by decide +kernel
theorem dX10_takeNumber_7 : decode cX10_takeNumber 7 = .ok (.ldc2_w 187, 3) := by decide +kernel
theorem dX10_takeNumber_10 : decode cX10_takeNumber 10 = .ok (.ldc2_w 189, 3) := by decide +kernel
theorem dX10_takeNumber_13 : decode cX10_takeNumber 13 = .ok (.invokestatic 165, 3) := by decide +kernel
theorem dX10_takeNumber_16 : decode cX10_takeNumber 16 = .ok (.ifCond .ne 13, 3) := by decide +kernel
theorem dX10_takeNumber_19 : decode cX10_takeNumber 19 = .ok (.aload_n 0, 1) := by decide +kernel
theorem dX10_takeNumber_20 : decode cX10_takeNumber 20 = .ok (.iconst 1, 1) := by decide +kernel
theorem dX10_takeNumber_21 : decode cX10_takeNumber 21 = .ok (.aload_n 0, 1) := by decide +kernel
theorem dX10_takeNumber_22 : decode cX10_takeNumber 22 = .ok (.getfield 180, 3) := by decide +kernel
theorem dX10_takeNumber_25 : decode cX10_takeNumber 25 = .ok (.invokevirtual 191, 3) := by decide +kernel
theorem dX10_takeNumber_28 : decode cX10_takeNumber 28 = .ok (.ireturn, 1) := by decide +kernel
theorem dX10_takeNumber_29 : decode cX10_takeNumber 29 = .ok (.aload_n 0, 1) := by decide +kernel
theorem dX10_takeNumber_30 : decode cX10_takeNumber 30 = .ok (.aload_n 0, 1) := by decide +kernel
theorem dX10_takeNumber_31 : decode cX10_takeNumber 31 = .ok (.getfield 180, 3) := by decide +kernel
theorem dX10_takeNumber_34 : decode cX10_takeNumber 34 = .ok (.putfield 195, 3) := by decide +kernel
theorem dX10_takeNumber_37 : decode cX10_takeNumber 37 = .ok (.aload_n 0, 1) := by decide +kernel
theorem dX10_takeNumber_38 : decode cX10_takeNumber 38 = .ok (.iconst 0, 1) := by decide +kernel
theorem dX10_takeNumber_39 : decode cX10_takeNumber 39 = .ok (.putfield 198, 3) := by decide +kernel
theorem dX10_takeNumber_42 : decode cX10_takeNumber 42 = .ok (.aload_n 0, 1) := by decide +kernel
theorem dX10_takeNumber_43 : decode cX10_takeNumber 43 = .ok (.getfield 180, 3) := by decide +kernel
theorem dX10_takeNumber_46 : decode cX10_takeNumber 46 = .ok (.aload_n 0, 1) := by decide +kernel
theorem dX10_takeNumber_47 : decode cX10_takeNumber 47 = .ok (.getfield 176, 3) := by decide +kernel
theorem dX10_takeNumber_50 : decode cX10_takeNumber 50 = .ok (.if_icmp .ge 79, 3) := by decide +kernel
theorem dX10_takeNumber_53 : decode cX10_takeNumber 53 = .ok (.aload_n 0, 1) := by decide +kernel
theorem dX10_takeNumber_54 : decode cX10_takeNumber 54 = .ok (.getfield 71, 3) := by decide +kernel
theorem dX10_takeNumber_57 : decode cX10_takeNumber 57 = .ok (.aload_n 0, 1) := by decide +kernel
theorem dX10_takeNumber_58 : decode cX10_takeNumber 58 = .ok (.getfield 180, 3) := by decide +kernel
theorem dX10_takeNumber_61 : decode cX10_takeNumber 61 = .ok (.iaload, 1) := by decide +kernel
theorem dX10_takeNumber_62 : decode cX10_takeNumber 62 = .ok (.i2l, 1) := by decide +kernel
theorem dX10_takeNumber_63 : decode cX10_takeNumber 63 = .ok (.ldc2_w 187, 3) := by decide +kernel
theorem dX10_takeNumber_66 : decode cX10_takeNumber 66 = .ok (.ldc2_w 189, 3) := by decide +kernel
theorem dX10_takeNumber_69 : decode cX10_takeNumber 69 = .ok (.invokestatic 165, 3) := by decide +kernel
theorem dX10_takeNumber_72 : decode cX10_takeNumber 72 = .ok (.ifCond .eq 57, 3) := by decide +kernel
theorem dX10_takeNumber_75 : decode cX10_takeNumber 75 = .ok (.aload_n 0, 1) := by decide +kernel
theorem dX10_takeNumber_76 : decode cX10_takeNumber 76 = .ok (.aload_n 0, 1) := by decide +kernel
theorem dX10_takeNumber_77 : decode cX10_takeNumber 77 = .ok (.getfield 198, 3) := by decide +kernel
theorem dX10_takeNumber_80 : decode cX10_takeNumber 80 = .ok (.sipush 10000, 3) := by decide +kernel
theorem dX10_takeNumber_83 : decode cX10_takeNumber 83 = .ok (.if_icmp .le 10, 3) := by decide +kernel
theorem dX10_takeNumber_86 : decode cX10_takeNumber 86 = .ok (.aload_n 0, 1) := by decide +kernel
theorem dX10_takeNumber_87 : decode cX10_takeNumber 87 = .ok (.getfield 198, 3) := by decide +kernel
theorem dX10_takeNumber_90 : decode cX10_takeNumber 90 = .ok (.goto 23, 3) := by decide +kernel
theorem dX10_takeNumber_93 : decode cX10_takeNumber 93 = .ok (.bipush 10, 2) := by decide +kernel
theorem dX10_takeNumber_95 : decode cX10_takeNumber 95 = .ok (.aload_n 0, 1) := by decide +kernel
theorem dX10_takeNumber_96 : decode cX10_takeNumber 96 = .ok (.getfield 198, 3) := by decide +kernel
theorem dX10_takeNumber_99 : decode cX10_takeNumber 99 = .ok (.imul, 1) := by decide +kernel
theorem dX10_takeNumber_100 : decode cX10_takeNumber 100 = .ok (.aload_n 0, 1) := by decide +kernel
theorem dX10_takeNumber_101 : decode cX10_takeNumber 101 = .ok (.getfield 71, 3) := by decide +kernel
theorem dX10_takeNumber_104 : decode cX10_takeNumber 104 = .ok (.aload_n 0, 1) := by decide +kernel
theorem dX10_takeNumber_105 : decode cX10_takeNumber 105 = .ok (.getfield 180, 3) := by decide +kernel
theorem dX10_takeNumber_108 : decode cX10_takeNumber 108 = .ok (.iaload, 1) := by decide +kernel
theorem dX10_takeNumber_109 : decode cX10_takeNumber 109 = .ok (.iadd, 1) := by decide +kernel
theorem dX10_takeNumber_110 : decode cX10_takeNumber 110 = .ok (.bipush 48, 2) := by decide +kernel
theorem dX10_takeNumber_112 : decode cX10_takeNumber 112 = .ok (.isub, 1) := by decide +kernel
theorem dX10_takeNumber_113 : decode cX10_takeNumber 113 = .ok (.putfield 198, 3) := by decide +kernel
theorem dX10_takeNumber_116 : decode cX10_takeNumber 116 = .ok (.aload_n 0, 1) := by decide +kernel
theorem dX10_takeNumber_117 : decode cX10_takeNumber 117 = .ok (.dup, 1) := by decide +kernel
theorem dX10_takeNumber_118 : decode cX10_takeNumber 118 = .ok (.getfield 180, 3) := by decide +kernel
theorem dX10_takeNumber_121 : decode cX10_takeNumber 121 = .ok (.iconst 1, 1) := by decide +kernel
theorem dX10_takeNumber_122 : decode cX10_takeNumber 122 = .ok (.iadd, 1) := by decide +kernel
theorem dX10_takeNumber_123 : decode cX10_takeNumber 123 = .ok (.putfield 180, 3) := by decide +kernel
theorem dX10_takeNumber_126 : decode cX10_takeNumber 126 = .ok (.goto (-84), 3) := by decide +kernel
theorem dX10_takeNumber_129 : decode cX10_takeNumber 129 = .ok (.aload_n 0, 1) := by decide +kernel
theorem dX10_takeNumber_130 : decode cX10_takeNumber 130 = .ok (.getfield 180, 3) := by decide +kernel
theorem dX10_takeNumber_133 : decode cX10_takeNumber 133 = .ok (.aload_n 0, 1) := by decide +kernel
theorem dX10_takeNumber_134 : decode cX10_takeNumber 134 = .ok (.getfield 195, 3) := by decide +kernel
theorem dX10_takeNumber_137 : decode cX10_takeNumber 137 = .ok (.isub, 1) := by decide +kernel
theorem dX10_takeNumber_138 : decode cX10_takeNumber 138 = .ok (.iconst 3, 1) := by decide +kernel
theorem dX10_takeNumber_139 : decode cX10_takeNumber 139 = .ok (.if_icmp .gt 18, 3) := by decide +kernel
theorem dX10_takeNumber_142 : decode cX10_takeNumber 142 = .ok (.aload_n 0, 1) := by decide +kernel
theorem dX10_takeNumber_143 : decode cX10_takeNumber 143 = .ok (.getfield 198, 3) := by decide +kernel
theorem dX10_takeNumber_146 : decode cX10_takeNumber 146 = .ok (.i2l, 1) := by decide +kernel
theorem dX10_takeNumber_147 : decode cX10_takeNumber 147 = .ok (.iload_n 1, 1) := by decide +kernel
theorem dX10_takeNumber_148 : decode cX10_takeNumber 148 = .ok (.i2l, 1) := by decide +kernel
theorem dX10_takeNumber_149 : decode cX10_takeNumber 149 = .ok (.iload_n 2, 1) := by decide +kernel
theorem dX10_takeNumber_150 : decode cX10_takeNumber 150 = .ok (.i2l, 1) := by decide +kernel
theorem dX10_takeNumber_151 : decode cX10_takeNumber 151 = .ok (.invokestatic 165, 3) := by decide +kernel
theorem dX10_takeNumber_154 : decode cX10_takeNumber 154 = .ok (.ifCond .ne 15, 3) := by decide +kernel
theorem dX10_takeNumber_157 : decode cX10_takeNumber 157 = .ok (.aload_n 0, 1) := by decide +kernel
theorem dX10_takeNumber_158 : decode cX10_takeNumber 158 = .ok (.iconst 2, 1) := by decide +kernel
theorem dX10_takeNumber_159 : decode cX10_takeNumber 159 = .ok (.aload_n 0, 1) := by decide +kernel
theorem dX10_takeNumber_160 : decode cX10_takeNumber 160 = .ok (.getfield 195, 3) := by decide +kernel
theorem dX10_takeNumber_163 : decode cX10_takeNumber 163 = .ok (.invokevirtual 191, 3) := by decide +kernel
theorem dX10_takeNumber_166 : decode cX10_takeNumber 166 = .ok (.goto 4, 3) := by decide +kernel
theorem dX10_takeNumber_169 : decode cX10_takeNumber 169 = .ok (.iconst 0, 1) := by decide +kernel
theorem dX10_takeNumber_170 : decode cX10_takeNumber 170 = .ok (.ireturn, 1) := by decide +kernel
theorem dX10_into_0 : decode cX10_into 0 = .ok (.aload_n 0, 1) := by decide +kernel
theorem dX10_into_1 : decode cX10_into 1 = .ok (.iload_n 3, 1) := by decide +kernel
theorem dX10_into_2 : decode cX10_into 2 = .ok (.iload 4, 2) := by decide +kernel
theorem dX10_into_4 : decode cX10_into 4 = .ok (.invokevirtual 201, 3) := by decide +kernel
theorem dX10_into_7 : decode cX10_into 7 = .ok (.istore 5, 2) := by decide +kernel
theorem dX10_into_9 : decode cX10_into 9 = .ok (.aload_n 1, 1) := by decide +kernel
theorem dX10_into_10 : decode cX10_into 10 = .ok (.iload_n 2, 1) := by decide +kernel
theorem dX10_into_11 : decode cX10_into 11 = .ok (.aload_n 0, 1) := by decide +kernel
theorem dX10_into_12 : decode cX10_into 12 = .ok (.getfield 198, 3) := by decide +kernel
theorem dX10_into_15 : decode cX10_into 15 = .ok (.iastore, 1) := by decide +kernel
theorem dX10_into_16 : decode cX10_into 16 = .ok (.iload 5, 2) := by decide +kernel
theorem dX10_into_18 : decode cX10_into 18 = .ok (.ireturn, 1) := by decide +kernel
theorem dX10_takeGround_0 : decode cX10_takeGround 0 = .ok (.aload_n 0, 1) := by decide +kernel
theorem dX10_takeGround_1 : decode cX10_takeGround 1 = .ok (.iconst 1, 1) := by decide +kernel
theorem dX10_takeGround_2 : decode cX10_takeGround 2 = .ok (.bipush 6, 2) := by decide +kernel
theorem dX10_takeGround_4 : decode cX10_takeGround 4 = .ok (.invokevirtual 201, 3) := by decide +kernel
theorem dX10_takeGround_7 : decode cX10_takeGround 7 = .ok (.istore_n 1, 1) := by decide +kernel
theorem dX10_takeGround_8 : decode cX10_takeGround 8 = .ok (.aload_n 0, 1) := by decide +kernel
theorem dX10_takeGround_9 : decode cX10_takeGround 9 = .ok (.getfield 198, 3) := by decide +kernel
theorem dX10_takeGround_12 : decode cX10_takeGround 12 = .ok (.istore_n 2, 1) := by decide +kernel
theorem dX10_takeGround_13 : decode cX10_takeGround 13 = .ok (.iload_n 1, 1) := by decide +kernel
theorem dX10_takeGround_14 : decode cX10_takeGround 14 = .ok (.ifCond .le 7, 3) := by decide +kernel
theorem dX10_takeGround_17 : decode cX10_takeGround 17 = .ok (.iload_n 1, 1) := by decide +kernel
theorem dX10_takeGround_18 : decode cX10_takeGround 18 = .ok (.goto 10, 3) := by decide +kernel
theorem dX10_takeGround_21 : decode cX10_takeGround 21 = .ok (.aload_n 0, 1) := by decide +kernel
theorem dX10_takeGround_22 : decode cX10_takeGround 22 = .ok (.iconst 1, 1) := by decide +kernel
theorem dX10_takeGround_23 : decode cX10_takeGround 23 = .ok (.bipush 6, 2) := by decide +kernel
theorem dX10_takeGround_25 : decode cX10_takeGround 25 = .ok (.invokevirtual 201, 3) := by decide +kernel
theorem dX10_takeGround_28 : decode cX10_takeGround 28 = .ok (.istore_n 1, 1) := by decide +kernel
theorem dX10_takeGround_29 : decode cX10_takeGround 29 = .ok (.iload_n 1, 1) := by decide +kernel
theorem dX10_takeGround_30 : decode cX10_takeGround 30 = .ok (.ifCond .le 5, 3) := by decide +kernel
theorem dX10_takeGround_33 : decode cX10_takeGround 33 = .ok (.iload_n 1, 1) := by decide +kernel
theorem dX10_takeGround_34 : decode cX10_takeGround 34 = .ok (.ireturn, 1) := by decide +kernel
theorem dX10_takeGround_35 : decode cX10_takeGround 35 = .ok (.iload_n 2, 1) := by decide +kernel
theorem dX10_takeGround_36 : decode cX10_takeGround 36 = .ok (.aload_n 0, 1) := by decide +kernel
theorem dX10_takeGround_37 : decode cX10_takeGround 37 = .ok (.getfield 198, 3) := by decide +kernel
theorem dX10_takeGround_40 : decode cX10_takeGround 40 = .ok (.imul, 1) := by decide +kernel
theorem dX10_takeGround_41 : decode cX10_takeGround 41 = .ok (.bipush 24, 2) := by decide +kernel
theorem dX10_takeGround_43 : decode cX10_takeGround 43 = .ok (.if_icmp .le 13, 3) := by decide +kernel
theorem dX10_takeGround_46 : decode cX10_takeGround 46 = .ok (.aload_n 0, 1) := by decide +kernel
theorem dX10_takeGround_47 : decode cX10_takeGround 47 = .ok (.iconst 2, 1) := by decide +kernel
theorem dX10_takeGround_48 : decode cX10_takeGround 48 = .ok (.aload_n 0, 1) := by decide +kernel
theorem dX10_takeGround_49 : decode cX10_takeGround 49 = .ok (.getfield 195, 3) := by decide +kernel
theorem dX10_takeGround_52 : decode cX10_takeGround 52 = .ok (.invokevirtual 191, 3) := by decide +kernel
theorem dX10_takeGround_55 : decode cX10_takeGround 55 = .ok (.ireturn, 1) := by decide +kernel
theorem dX10_takeGround_56 : decode cX10_takeGround 56 = .ok (.aload_n 0, 1) := by decide +kernel
theorem dX10_takeGround_57 : decode cX10_takeGround 57 = .ok (.iload_n 2, 1) := by decide +kernel
theorem dX10_takeGround_58 : decode cX10_takeGround 58 = .ok (.putfield 204, 3) := by decide +kernel
theorem dX10_takeGround_61 : decode cX10_takeGround 61 = .ok (.aload_n 0, 1) := by decide +kernel
theorem dX10_takeGround_62 : decode cX10_takeGround 62 = .ok (.aload_n 0, 1) := by decide +kernel
theorem dX10_takeGround_63 : decode cX10_takeGround 63 = .ok (.getfield 198, 3) := by decide +kernel
theorem dX10_takeGround_66 : decode cX10_takeGround 66 = .ok (.putfield 207, 3) := by decide +kernel
theorem dX10_takeGround_69 : decode cX10_takeGround 69 = .ok (.aload_n 0, 1) := by decide +kernel
theorem dX10_takeGround_70 : decode cX10_takeGround 70 = .ok (.iconst 0, 1) := by decide +kernel
theorem dX10_takeGround_71 : decode cX10_takeGround 71 = .ok (.bipush 99, 2) := by decide +kernel
theorem dX10_takeGround_73 : decode cX10_takeGround 73 = .ok (.invokevirtual 201, 3) := by decide +kernel
theorem dX10_takeGround_76 : decode cX10_takeGround 76 = .ok (.istore_n 1, 1) := by decide +kernel
theorem dX10_takeGround_77 : decode cX10_takeGround 77 = .ok (.aload_n 0, 1) := by decide +kernel
theorem dX10_takeGround_78 : decode cX10_takeGround 78 = .ok (.getfield 198, 3) := by decide +kernel
theorem dX10_takeGround_81 : decode cX10_takeGround 81 = .ok (.istore_n 3, 1) := by decide +kernel
theorem dX10_takeGround_82 : decode cX10_takeGround 82 = .ok (.iload_n 1, 1) := by decide +kernel
theorem dX10_takeGround_83 : decode cX10_takeGround 83 = .ok (.ifCond .le 7, 3) := by decide +kernel
theorem dX10_takeGround_86 : decode cX10_takeGround 86 = .ok (.iload_n 1, 1) := by decide +kernel
theorem dX10_takeGround_87 : decode cX10_takeGround 87 = .ok (.goto 10, 3) := by decide +kernel
theorem dX10_takeGround_90 : decode cX10_takeGround 90 = .ok (.aload_n 0, 1) := by decide +kernel
theorem dX10_takeGround_91 : decode cX10_takeGround 91 = .ok (.iconst 0, 1) := by decide +kernel
theorem dX10_takeGround_92 : decode cX10_takeGround 92 = .ok (.bipush 9, 2) := by decide +kernel
theorem dX10_takeGround_94 : decode cX10_takeGround 94 = .ok (.invokevirtual 201, 3) := by decide +kernel
theorem dX10_takeGround_97 : decode cX10_takeGround 97 = .ok (.istore_n 1, 1) := by decide +kernel
theorem dX10_takeGround_98 : decode cX10_takeGround 98 = .ok (.iconst 0, 1) := by decide +kernel
theorem dX10_takeGround_99 : decode cX10_takeGround 99 = .ok (.istore 4, 2) := by decide +kernel
theorem dX10_takeGround_101 : decode cX10_takeGround 101 = .ok (.iload 4, 2) := by decide +kernel
theorem dX10_takeGround_103 : decode cX10_takeGround 103 = .ok (.bipush 24, 2) := by decide +kernel
theorem dX10_takeGround_105 : decode cX10_takeGround 105 = .ok (.if_icmp .ge 28, 3) := by decide +kernel
theorem dX10_takeGround_108 : decode cX10_takeGround 108 = .ok (.aload_n 0, 1) := by decide +kernel
theorem dX10_takeGround_109 : decode cX10_takeGround 109 = .ok (.getfield 77, 3) := by decide +kernel
theorem dX10_takeGround_112 : decode cX10_takeGround 112 = .ok (.iload 4, 2) := by decide +kernel
theorem dX10_takeGround_114 : decode cX10_takeGround 114 = .ok (.iload_n 3, 1) := by decide +kernel
theorem dX10_takeGround_115 : decode cX10_takeGround 115 = .ok (.iastore, 1) := by decide +kernel
theorem dX10_takeGround_116 : decode cX10_takeGround 116 = .ok (.aload_n 0, 1) := by decide +kernel
theorem dX10_takeGround_117 : decode cX10_takeGround 117 = .ok (.getfield 80, 3) := by decide +kernel
theorem dX10_takeGround_120 : decode cX10_takeGround 120 = .ok (.iload 4, 2) := by decide +kernel
theorem dX10_takeGround_122 : decode cX10_takeGround 122 = .ok (.aload_n 0, 1) := by decide +kernel
theorem dX10_takeGround_123 : decode cX10_takeGround 123 = .ok (.getfield 198, 3) := by decide +kernel
theorem dX10_takeGround_126 : decode cX10_takeGround 126 = .ok (.iastore, 1) := by decide +kernel
theorem dX10_takeGround_127 : decode cX10_takeGround 127 = .ok (.iinc 4 1, 3) := by decide +kernel
theorem dX10_takeGround_130 : decode cX10_takeGround 130 = .ok (.goto (-29), 3) := by decide +kernel
theorem dX10_takeGround_133 : decode cX10_takeGround 133 = .ok (.iload_n 1, 1) := by decide +kernel
theorem dX10_takeGround_134 : decode cX10_takeGround 134 = .ok (.ireturn, 1) := by decide +kernel
theorem dX10_takeCell_0 : decode cX10_takeCell 0 = .ok (.aload_n 0, 1) := by decide +kernel
theorem dX10_takeCell_1 : decode cX10_takeCell 1 = .ok (.iconst 0, 1) := by decide +kernel
theorem dX10_takeCell_2 : decode cX10_takeCell 2 = .ok (.aload_n 0, 1) := by decide +kernel
theorem dX10_takeCell_3 : decode cX10_takeCell 3 = .ok (.getfield 204, 3) := by decide +kernel
theorem dX10_takeCell_6 : decode cX10_takeCell 6 = .ok (.iconst 1, 1) := by decide +kernel
theorem dX10_takeCell_7 : decode cX10_takeCell 7 = .ok (.isub, 1) := by decide +kernel
theorem dX10_takeCell_8 : decode cX10_takeCell 8 = .ok (.invokevirtual 201, 3) := by decide +kernel
theorem dX10_takeCell_11 : decode cX10_takeCell 11 = .ok (.istore_n 1, 1) := by decide +kernel
theorem dX10_takeCell_12 : decode cX10_takeCell 12 = .ok (.aload_n 0, 1) := by decide +kernel
theorem dX10_takeCell_13 : decode cX10_takeCell 13 = .ok (.getfield 198, 3) := by decide +kernel
theorem dX10_takeCell_16 : decode cX10_takeCell 16 = .ok (.istore_n 2, 1) := by decide +kernel
theorem dX10_takeCell_17 : decode cX10_takeCell 17 = .ok (.iload_n 1, 1) := by decide +kernel
theorem dX10_takeCell_18 : decode cX10_takeCell 18 = .ok (.ifCond .le 7, 3) := by decide +kernel
theorem dX10_takeCell_21 : decode cX10_takeCell 21 = .ok (.iload_n 1, 1) := by decide +kernel
theorem dX10_takeCell_22 : decode cX10_takeCell 22 = .ok (.goto 14, 3) := by decide +kernel
theorem dX10_takeCell_25 : decode cX10_takeCell 25 = .ok (.aload_n 0, 1) := by decide +kernel
theorem dX10_takeCell_26 : decode cX10_takeCell 26 = .ok (.iconst 0, 1) := by decide +kernel
theorem dX10_takeCell_27 : decode cX10_takeCell 27 = .ok (.aload_n 0, 1) := by decide +kernel
theorem dX10_takeCell_28 : decode cX10_takeCell 28 = .ok (.getfield 207, 3) := by decide +kernel
theorem dX10_takeCell_31 : decode cX10_takeCell 31 = .ok (.iconst 1, 1) := by decide +kernel
theorem dX10_takeCell_32 : decode cX10_takeCell 32 = .ok (.isub, 1) := by decide +kernel
theorem dX10_takeCell_33 : decode cX10_takeCell 33 = .ok (.invokevirtual 201, 3) := by decide +kernel
theorem dX10_takeCell_36 : decode cX10_takeCell 36 = .ok (.istore_n 1, 1) := by decide +kernel
theorem dX10_takeCell_37 : decode cX10_takeCell 37 = .ok (.aload_n 0, 1) := by decide +kernel
theorem dX10_takeCell_38 : decode cX10_takeCell 38 = .ok (.aload_n 0, 1) := by decide +kernel
theorem dX10_takeCell_39 : decode cX10_takeCell 39 = .ok (.getfield 204, 3) := by decide +kernel
theorem dX10_takeCell_42 : decode cX10_takeCell 42 = .ok (.aload_n 0, 1) := by decide +kernel
theorem dX10_takeCell_43 : decode cX10_takeCell 43 = .ok (.getfield 198, 3) := by decide +kernel
theorem dX10_takeCell_46 : decode cX10_takeCell 46 = .ok (.imul, 1) := by decide +kernel
theorem dX10_takeCell_47 : decode cX10_takeCell 47 = .ok (.iload_n 2, 1) := by decide +kernel
theorem dX10_takeCell_48 : decode cX10_takeCell 48 = .ok (.iadd, 1) := by decide +kernel
theorem dX10_takeCell_49 : decode cX10_takeCell 49 = .ok (.putfield 210, 3) := by decide +kernel
theorem dX10_takeCell_52 : decode cX10_takeCell 52 = .ok (.iload_n 1, 1) := by decide +kernel
theorem dX10_takeCell_53 : decode cX10_takeCell 53 = .ok (.ireturn, 1) := by decide +kernel
theorem dX10_isAmong_0 : decode cX10_isAmong 0 = .ok (.iconst 0, 1) := by decide +kernel
theorem dX10_isAmong_1 : decode cX10_isAmong 1 = .ok (.istore_n 3, 1) := by decide +kernel
theorem dX10_isAmong_2 : decode cX10_isAmong 2 = .ok (.iconst 0, 1) := by decide +kernel
theorem dX10_isAmong_3 : decode cX10_isAmong 3 = .ok (.istore 4, 2) := by decide +kernel
theorem dX10_isAmong_5 : decode cX10_isAmong 5 = .ok (.iload 4, 2) := by decide +kernel
theorem dX10_isAmong_7 : decode cX10_isAmong 7 = .ok (.iload_n 1, 1) := by decide +kernel
theorem dX10_isAmong_8 : decode cX10_isAmong 8 = .ok (.if_icmp .ge 27, 3) := by decide +kernel
theorem dX10_isAmong_11 : decode cX10_isAmong 11 = .ok (.iload_n 3, 1) := by decide +kernel
theorem dX10_isAmong_12 : decode cX10_isAmong 12 = .ok (.ifCond .ne 11, 3) := by decide +kernel
theorem dX10_isAmong_15 : decode cX10_isAmong 15 = .ok (.aload_n 0, 1) := by decide +kernel
theorem dX10_isAmong_16 : decode cX10_isAmong 16 = .ok (.iload 4, 2) := by decide +kernel
theorem dX10_isAmong_18 : decode cX10_isAmong 18 = .ok (.iaload, 1) := by decide +kernel
theorem dX10_isAmong_19 : decode cX10_isAmong 19 = .ok (.iload_n 2, 1) := by decide +kernel
theorem dX10_isAmong_20 : decode cX10_isAmong 20 = .ok (.if_icmp .ne 7, 3) := by decide +kernel
theorem dX10_isAmong_23 : decode cX10_isAmong 23 = .ok (.iconst 1, 1) := by decide +kernel
theorem dX10_isAmong_24 : decode cX10_isAmong 24 = .ok (.goto 4, 3) := by decide +kernel
theorem dX10_isAmong_27 : decode cX10_isAmong 27 = .ok (.iconst 0, 1) := by decide +kernel
theorem dX10_isAmong_28 : decode cX10_isAmong 28 = .ok (.istore_n 3, 1) := by decide +kernel
theorem dX10_isAmong_29 : decode cX10_isAmong 29 = .ok (.iinc 4 1, 3) := by decide +kernel
theorem dX10_isAmong_32 : decode cX10_isAmong 32 = .ok (.goto (-27), 3) := by decide +kernel
theorem dX10_isAmong_35 : decode cX10_isAmong 35 = .ok (.iload_n 3, 1) := by decide +kernel
theorem dX10_isAmong_36 : decode cX10_isAmong 36 = .ok (.ireturn, 1) := by decide +kernel
theorem dX10_takeNewCell_0 : decode cX10_takeNewCell 0 = .ok (.aload_n 0, 1) := by decide +kernel
theorem dX10_takeNewCell_1 : decode cX10_takeNewCell 1 = .ok (.invokevirtual 213, 3) := by decide +kernel
theorem dX10_takeNewCell_4 : decode cX10_takeNewCell 4 = .ok (.istore_n 3, 1) := by decide +kernel
theorem dX10_takeNewCell_5 : decode cX10_takeNewCell 5 = .ok (.iload_n 3, 1) := by decide +kernel
theorem dX10_takeNewCell_6 : decode cX10_takeNewCell 6 = .ok (.ifCond .le 5, 3) := by decide +kernel
theorem dX10_takeNewCell_9 : decode cX10_takeNewCell 9 = .ok (.iload_n 3, 1) := by decide +kernel
theorem dX10_takeNewCell_10 : decode cX10_takeNewCell 10 = .ok (.ireturn, 1) := by decide +kernel
theorem dX10_takeNewCell_11 : decode cX10_takeNewCell 11 = .ok (.aload_n 1, 1) := by decide +kernel
theorem dX10_takeNewCell_12 : decode cX10_takeNewCell 12 = .ok (.iload_n 2, 1) := by decide +kernel
theorem dX10_takeNewCell_13 : decode cX10_takeNewCell 13 = .ok (.aload_n 0, 1) := by decide +kernel
theorem dX10_takeNewCell_14 : decode cX10_takeNewCell 14 = .ok (.getfield 210, 3) := by decide +kernel
theorem dX10_takeNewCell_17 : decode cX10_takeNewCell 17 = .ok (.iastore, 1) := by decide +kernel
theorem dX10_takeNewCell_18 : decode cX10_takeNewCell 18 = .ok (.aload_n 1, 1) := by decide +kernel
theorem dX10_takeNewCell_19 : decode cX10_takeNewCell 19 = .ok (.iload_n 2, 1) := by decide +kernel
theorem dX10_takeNewCell_20 : decode cX10_takeNewCell 20 = .ok (.aload_n 0, 1) := by decide +kernel
theorem dX10_takeNewCell_21 : decode cX10_takeNewCell 21 = .ok (.getfield 210, 3) := by decide +kernel
theorem dX10_takeNewCell_24 : decode cX10_takeNewCell 24 = .ok (.invokestatic 216, 3) := by decide +kernel
theorem dX10_takeNewCell_27 : decode cX10_takeNewCell 27 = .ok (.ifCond .eq 15, 3) := by decide +kernel
theorem dX10_takeNewCell_30 : decode cX10_takeNewCell 30 = .ok (.aload_n 0, 1) := by decide +kernel
theorem dX10_takeNewCell_31 : decode cX10_takeNewCell 31 = .ok (.iconst 4, 1) := by decide +kernel
theorem dX10_takeNewCell_32 : decode cX10_takeNewCell 32 = .ok (.aload_n 0, 1) := by decide +kernel
theorem dX10_takeNewCell_33 : decode cX10_takeNewCell 33 = .ok (.getfield 195, 3) := by decide +kernel
theorem dX10_takeNewCell_36 : decode cX10_takeNewCell 36 = .ok (.invokevirtual 191, 3) := by decide +kernel
theorem dX10_takeNewCell_39 : decode cX10_takeNewCell 39 = .ok (.goto 4, 3) := by decide +kernel
theorem dX10_takeNewCell_42 : decode cX10_takeNewCell 42 = .ok (.iconst 0, 1) := by decide +kernel
theorem dX10_takeNewCell_43 : decode cX10_takeNewCell 43 = .ok (.ireturn, 1) := by decide +kernel
theorem dX10_takeOne_0 : decode cX10_takeOne 0 = .ok (.aload_n 0, 1) := by decide +kernel
theorem dX10_takeOne_1 : decode cX10_takeOne 1 = .ok (.dup, 1) := by decide +kernel
theorem dX10_takeOne_2 : decode cX10_takeOne 2 = .ok (.getfield 220, 3) := by decide +kernel
theorem dX10_takeOne_5 : decode cX10_takeOne 5 = .ok (.iconst 1, 1) := by decide +kernel
theorem dX10_takeOne_6 : decode cX10_takeOne 6 = .ok (.iadd, 1) := by decide +kernel
theorem dX10_takeOne_7 : decode cX10_takeOne 7 = .ok (.putfield 220, 3) := by decide +kernel
theorem dX10_takeOne_10 : decode cX10_takeOne 10 = .ok (.aload_n 0, 1) := by decide +kernel
theorem dX10_takeOne_11 : decode cX10_takeOne 11 = .ok (.aload_n 0, 1) := by decide +kernel
theorem dX10_takeOne_12 : decode cX10_takeOne 12 = .ok (.getfield 83, 3) := by decide +kernel
theorem dX10_takeOne_15 : decode cX10_takeOne 15 = .ok (.aload_n 0, 1) := by decide +kernel
theorem dX10_takeOne_16 : decode cX10_takeOne 16 = .ok (.getfield 220, 3) := by decide +kernel
theorem dX10_takeOne_19 : decode cX10_takeOne 19 = .ok (.iconst 1, 1) := by decide +kernel
theorem dX10_takeOne_20 : decode cX10_takeOne 20 = .ok (.isub, 1) := by decide +kernel
theorem dX10_takeOne_21 : decode cX10_takeOne 21 = .ok (.invokevirtual 223, 3) := by decide +kernel
theorem dX10_takeOne_24 : decode cX10_takeOne 24 = .ok (.istore_n 1, 1) := by decide +kernel
theorem dX10_takeOne_25 : decode cX10_takeOne 25 = .ok (.aload_n 0, 1) := by decide +kernel
theorem dX10_takeOne_26 : decode cX10_takeOne 26 = .ok (.getfield 210, 3) := by decide +kernel
theorem dX10_takeOne_29 : decode cX10_takeOne 29 = .ok (.istore_n 2, 1) := by decide +kernel
theorem dX10_takeOne_30 : decode cX10_takeOne 30 = .ok (.iload_n 1, 1) := by decide +kernel
theorem dX10_takeOne_31 : decode cX10_takeOne 31 = .ok (.ifCond .le 7, 3) := by decide +kernel
theorem dX10_takeOne_34 : decode cX10_takeOne 34 = .ok (.iload_n 1, 1) := by decide +kernel
theorem dX10_takeOne_35 : decode cX10_takeOne 35 = .ok (.goto 15, 3) := by decide +kernel
theorem dX10_takeOne_38 : decode cX10_takeOne 38 = .ok (.aload_n 0, 1) := by decide +kernel
theorem dX10_takeOne_39 : decode cX10_takeOne 39 = .ok (.aload_n 0, 1) := by decide +kernel
theorem dX10_takeOne_40 : decode cX10_takeOne 40 = .ok (.getfield 77, 3) := by decide +kernel
theorem dX10_takeOne_43 : decode cX10_takeOne 43 = .ok (.iload_n 2, 1) := by decide +kernel
theorem dX10_takeOne_44 : decode cX10_takeOne 44 = .ok (.iconst 0, 1) := by decide +kernel
theorem dX10_takeOne_45 : decode cX10_takeOne 45 = .ok (.bipush 99, 2) := by decide +kernel
theorem dX10_takeOne_47 : decode cX10_takeOne 47 = .ok (.invokevirtual 227, 3) := by decide +kernel
theorem dX10_takeOne_50 : decode cX10_takeOne 50 = .ok (.istore_n 1, 1) := by decide +kernel
theorem dX10_takeOne_51 : decode cX10_takeOne 51 = .ok (.iload_n 1, 1) := by decide +kernel
theorem dX10_takeOne_52 : decode cX10_takeOne 52 = .ok (.ifCond .le 7, 3) := by decide +kernel
theorem dX10_takeOne_55 : decode cX10_takeOne 55 = .ok (.iload_n 1, 1) := by decide +kernel
theorem dX10_takeOne_56 : decode cX10_takeOne 56 = .ok (.goto 15, 3) := by decide +kernel
theorem dX10_takeOne_59 : decode cX10_takeOne 59 = .ok (.aload_n 0, 1) := by decide +kernel
theorem dX10_takeOne_60 : decode cX10_takeOne 60 = .ok (.aload_n 0, 1) := by decide +kernel
theorem dX10_takeOne_61 : decode cX10_takeOne 61 = .ok (.getfield 80, 3) := by decide +kernel
theorem dX10_takeOne_64 : decode cX10_takeOne 64 = .ok (.iload_n 2, 1) := by decide +kernel
theorem dX10_takeOne_65 : decode cX10_takeOne 65 = .ok (.iconst 0, 1) := by decide +kernel
theorem dX10_takeOne_66 : decode cX10_takeOne 66 = .ok (.bipush 9, 2) := by decide +kernel
theorem dX10_takeOne_68 : decode cX10_takeOne 68 = .ok (.invokevirtual 227, 3) := by decide +kernel
theorem dX10_takeOne_71 : decode cX10_takeOne 71 = .ok (.ireturn, 1) := by decide +kernel
theorem dX10_takeMoon_0 : decode cX10_takeMoon 0 = .ok (.aload_n 0, 1) := by decide +kernel
theorem dX10_takeMoon_1 : decode cX10_takeMoon 1 = .ok (.getfield 231, 3) := by decide +kernel
theorem dX10_takeMoon_4 : decode cX10_takeMoon 4 = .ok (.istore_n 1, 1) := by decide +kernel
theorem dX10_takeMoon_5 : decode cX10_takeMoon 5 = .ok (.aload_n 0, 1) := by decide +kernel
theorem dX10_takeMoon_6 : decode cX10_takeMoon 6 = .ok (.dup, 1) := by decide +kernel
theorem dX10_takeMoon_7 : decode cX10_takeMoon 7 = .ok (.getfield 231, 3) := by decide +kernel
theorem dX10_takeMoon_10 : decode cX10_takeMoon 10 = .ok (.iconst 1, 1) := by decide +kernel
theorem dX10_takeMoon_11 : decode cX10_takeMoon 11 = .ok (.iadd, 1) := by decide +kernel
theorem dX10_takeMoon_12 : decode cX10_takeMoon 12 = .ok (.putfield 231, 3) := by decide +kernel
theorem dX10_takeMoon_15 : decode cX10_takeMoon 15 = .ok (.aload_n 0, 1) := by decide +kernel
theorem dX10_takeMoon_16 : decode cX10_takeMoon 16 = .ok (.aload_n 0, 1) := by decide +kernel
theorem dX10_takeMoon_17 : decode cX10_takeMoon 17 = .ok (.getfield 89, 3) := by decide +kernel
theorem dX10_takeMoon_20 : decode cX10_takeMoon 20 = .ok (.iload_n 1, 1) := by decide +kernel
theorem dX10_takeMoon_21 : decode cX10_takeMoon 21 = .ok (.iconst 0, 1) := by decide +kernel
theorem dX10_takeMoon_22 : decode cX10_takeMoon 22 = .ok (.bipush 8, 2) := by decide +kernel
theorem dX10_takeMoon_24 : decode cX10_takeMoon 24 = .ok (.invokevirtual 227, 3) := by decide +kernel
theorem dX10_takeMoon_27 : decode cX10_takeMoon 27 = .ok (.istore_n 2, 1) := by decide +kernel
theorem dX10_takeMoon_28 : decode cX10_takeMoon 28 = .ok (.iload_n 2, 1) := by decide +kernel
theorem dX10_takeMoon_29 : decode cX10_takeMoon 29 = .ok (.ifCond .le 7, 3) := by decide +kernel
theorem dX10_takeMoon_32 : decode cX10_takeMoon 32 = .ok (.iload_n 2, 1) := by decide +kernel
theorem dX10_takeMoon_33 : decode cX10_takeMoon 33 = .ok (.goto 15, 3) := by decide +kernel
theorem dX10_takeMoon_36 : decode cX10_takeMoon 36 = .ok (.aload_n 0, 1) := by decide +kernel
theorem dX10_takeMoon_37 : decode cX10_takeMoon 37 = .ok (.aload_n 0, 1) := by decide +kernel
theorem dX10_takeMoon_38 : decode cX10_takeMoon 38 = .ok (.getfield 92, 3) := by decide +kernel
theorem dX10_takeMoon_41 : decode cX10_takeMoon 41 = .ok (.iload_n 1, 1) := by decide +kernel
theorem dX10_takeMoon_42 : decode cX10_takeMoon 42 = .ok (.iconst 0, 1) := by decide +kernel
theorem dX10_takeMoon_43 : decode cX10_takeMoon 43 = .ok (.bipush 8, 2) := by decide +kernel
theorem dX10_takeMoon_45 : decode cX10_takeMoon 45 = .ok (.invokevirtual 227, 3) := by decide +kernel
theorem dX10_takeMoon_48 : decode cX10_takeMoon 48 = .ok (.istore_n 2, 1) := by decide +kernel
theorem dX10_takeMoon_49 : decode cX10_takeMoon 49 = .ok (.iload_n 2, 1) := by decide +kernel
theorem dX10_takeMoon_50 : decode cX10_takeMoon 50 = .ok (.ifCond .le 5, 3) := by decide +kernel
theorem dX10_takeMoon_53 : decode cX10_takeMoon 53 = .ok (.iload_n 2, 1) := by decide +kernel
theorem dX10_takeMoon_54 : decode cX10_takeMoon 54 = .ok (.ireturn, 1) := by decide +kernel
theorem dX10_takeMoon_55 : decode cX10_takeMoon 55 = .ok (.aload_n 0, 1) := by decide +kernel
theorem dX10_takeMoon_56 : decode cX10_takeMoon 56 = .ok (.getfield 86, 3) := by decide +kernel
theorem dX10_takeMoon_59 : decode cX10_takeMoon 59 = .ok (.iload_n 1, 1) := by decide +kernel
theorem dX10_takeMoon_60 : decode cX10_takeMoon 60 = .ok (.iconst 0, 1) := by decide +kernel
theorem dX10_takeMoon_61 : decode cX10_takeMoon 61 = .ok (.iastore, 1) := by decide +kernel
theorem dX10_takeMoon_62 : decode cX10_takeMoon 62 = .ok (.iconst 1, 1) := by decide +kernel
theorem dX10_takeMoon_63 : decode cX10_takeMoon 63 = .ok (.istore_n 3, 1) := by decide +kernel
theorem dX10_takeMoon_64 : decode cX10_takeMoon 64 = .ok (.iload_n 3, 1) := by decide +kernel
theorem dX10_takeMoon_65 : decode cX10_takeMoon 65 = .ok (.ifCond .eq 124, 3) := by decide +kernel
theorem dX10_takeMoon_68 : decode cX10_takeMoon 68 = .ok (.aload_n 0, 1) := by decide +kernel
theorem dX10_takeMoon_69 : decode cX10_takeMoon 69 = .ok (.iconst 0, 1) := by decide +kernel
theorem dX10_takeMoon_70 : decode cX10_takeMoon 70 = .ok (.bipush 18, 2) := by decide +kernel
theorem dX10_takeMoon_72 : decode cX10_takeMoon 72 = .ok (.invokevirtual 201, 3) := by decide +kernel
theorem dX10_takeMoon_75 : decode cX10_takeMoon 75 = .ok (.istore_n 2, 1) := by decide +kernel
theorem dX10_takeMoon_76 : decode cX10_takeMoon 76 = .ok (.iload_n 2, 1) := by decide +kernel
theorem dX10_takeMoon_77 : decode cX10_takeMoon 77 = .ok (.ifCond .le 5, 3) := by decide +kernel
theorem dX10_takeMoon_80 : decode cX10_takeMoon 80 = .ok (.iload_n 2, 1) := by decide +kernel
theorem dX10_takeMoon_81 : decode cX10_takeMoon 81 = .ok (.ireturn, 1) := by decide +kernel
theorem dX10_takeMoon_82 : decode cX10_takeMoon 82 = .ok (.aload_n 0, 1) := by decide +kernel
theorem dX10_takeMoon_83 : decode cX10_takeMoon 83 = .ok (.getfield 95, 3) := by decide +kernel
theorem dX10_takeMoon_86 : decode cX10_takeMoon 86 = .ok (.bipush 9, 2) := by decide +kernel
theorem dX10_takeMoon_88 : decode cX10_takeMoon 88 = .ok (.iload_n 1, 1) := by decide +kernel
theorem dX10_takeMoon_89 : decode cX10_takeMoon 89 = .ok (.imul, 1) := by decide +kernel
theorem dX10_takeMoon_90 : decode cX10_takeMoon 90 = .ok (.aload_n 0, 1) := by decide +kernel
theorem dX10_takeMoon_91 : decode cX10_takeMoon 91 = .ok (.getfield 86, 3) := by decide +kernel
theorem dX10_takeMoon_94 : decode cX10_takeMoon 94 = .ok (.iload_n 1, 1) := by decide +kernel
theorem dX10_takeMoon_95 : decode cX10_takeMoon 95 = .ok (.iaload, 1) := by decide +kernel
theorem dX10_takeMoon_96 : decode cX10_takeMoon 96 = .ok (.iadd, 1) := by decide +kernel
theorem dX10_takeMoon_97 : decode cX10_takeMoon 97 = .ok (.aload_n 0, 1) := by decide +kernel
theorem dX10_takeMoon_98 : decode cX10_takeMoon 98 = .ok (.getfield 198, 3) := by decide +kernel
theorem dX10_takeMoon_101 : decode cX10_takeMoon 101 = .ok (.bipush 9, 2) := by decide +kernel
theorem dX10_takeMoon_103 : decode cX10_takeMoon 103 = .ok (.isub, 1) := by decide +kernel
theorem dX10_takeMoon_104 : decode cX10_takeMoon 104 = .ok (.iastore, 1) := by decide +kernel
theorem dX10_takeMoon_105 : decode cX10_takeMoon 105 = .ok (.aload_n 0, 1) := by decide +kernel
theorem dX10_takeMoon_106 : decode cX10_takeMoon 106 = .ok (.getfield 86, 3) := by decide +kernel
theorem dX10_takeMoon_109 : decode cX10_takeMoon 109 = .ok (.iload_n 1, 1) := by decide +kernel
theorem dX10_takeMoon_110 : decode cX10_takeMoon 110 = .ok (.dup2, 1) := by decide +kernel
theorem dX10_takeMoon_111 : decode cX10_takeMoon 111 = .ok (.iaload, 1) := by decide +kernel
theorem dX10_takeMoon_112 : decode cX10_takeMoon 112 = .ok (.iconst 1, 1) := by decide +kernel
theorem dX10_takeMoon_113 : decode cX10_takeMoon 113 = .ok (.iadd, 1) := by decide +kernel
theorem dX10_takeMoon_114 : decode cX10_takeMoon 114 = .ok (.iastore, 1) := by decide +kernel
theorem dX10_takeMoon_115 : decode cX10_takeMoon 115 = .ok (.aload_n 0, 1) := by decide +kernel
theorem dX10_takeMoon_116 : decode cX10_takeMoon 116 = .ok (.invokevirtual 183, 3) := by decide +kernel
theorem dX10_takeMoon_119 : decode cX10_takeMoon 119 = .ok (.bipush 44, 2) := by decide +kernel
theorem dX10_takeMoon_121 : decode cX10_takeMoon 121 = .ok (.if_icmp .ne 7, 3) := by decide +kernel
theorem dX10_takeMoon_124 : decode cX10_takeMoon 124 = .ok (.iconst 1, 1) := by decide +kernel
theorem dX10_takeMoon_125 : decode cX10_takeMoon 125 = .ok (.goto 4, 3) := by decide +kernel
theorem dX10_takeMoon_128 : decode cX10_takeMoon 128 = .ok (.iconst 0, 1) := by decide +kernel
theorem dX10_takeMoon_129 : decode cX10_takeMoon 129 = .ok (.istore_n 3, 1) := by decide +kernel
theorem dX10_takeMoon_130 : decode cX10_takeMoon 130 = .ok (.iload_n 3, 1) := by decide +kernel
theorem dX10_takeMoon_131 : decode cX10_takeMoon 131 = .ok (.ifCond .eq 17, 3) := by decide +kernel
theorem dX10_takeMoon_134 : decode cX10_takeMoon 134 = .ok (.aload_n 0, 1) := by decide +kernel
theorem dX10_takeMoon_135 : decode cX10_takeMoon 135 = .ok (.getfield 86, 3) := by decide +kernel
theorem dX10_takeMoon_138 : decode cX10_takeMoon 138 = .ok (.iload_n 1, 1) := by decide +kernel
theorem dX10_takeMoon_139 : decode cX10_takeMoon 139 = .ok (.iaload, 1) := by decide +kernel
theorem dX10_takeMoon_140 : decode cX10_takeMoon 140 = .ok (.bipush 9, 2) := by decide +kernel
theorem dX10_takeMoon_142 : decode cX10_takeMoon 142 = .ok (.if_icmp .ne 26, 3) := by decide +kernel
theorem dX10_takeMoon_145 : decode cX10_takeMoon 145 = .ok (.goto 13, 3) := by decide +kernel
theorem dX10_takeMoon_148 : decode cX10_takeMoon 148 = .ok (.aload_n 0, 1) := by decide +kernel
theorem dX10_takeMoon_149 : decode cX10_takeMoon 149 = .ok (.getfield 86, 3) := by decide +kernel
theorem dX10_takeMoon_152 : decode cX10_takeMoon 152 = .ok (.iload_n 1, 1) := by decide +kernel
theorem dX10_takeMoon_153 : decode cX10_takeMoon 153 = .ok (.iaload, 1) := by decide +kernel
theorem dX10_takeMoon_154 : decode cX10_takeMoon 154 = .ok (.iconst 2, 1) := by decide +kernel
theorem dX10_takeMoon_155 : decode cX10_takeMoon 155 = .ok (.if_icmp .ge 13, 3) := by decide +kernel
theorem dX10_takeMoon_158 : decode cX10_takeMoon 158 = .ok (.aload_n 0, 1) := by decide +kernel
theorem dX10_takeMoon_159 : decode cX10_takeMoon 159 = .ok (.iconst 1, 1) := by decide +kernel
theorem dX10_takeMoon_160 : decode cX10_takeMoon 160 = .ok (.aload_n 0, 1) := by decide +kernel
theorem dX10_takeMoon_161 : decode cX10_takeMoon 161 = .ok (.getfield 180, 3) := by decide +kernel
theorem dX10_takeMoon_164 : decode cX10_takeMoon 164 = .ok (.invokevirtual 191, 3) := by decide +kernel
theorem dX10_takeMoon_167 : decode cX10_takeMoon 167 = .ok (.ireturn, 1) := by decide +kernel
theorem dX10_takeMoon_168 : decode cX10_takeMoon 168 = .ok (.aload_n 0, 1) := by decide +kernel
theorem dX10_takeMoon_169 : decode cX10_takeMoon 169 = .ok (.dup, 1) := by decide +kernel
theorem dX10_takeMoon_170 : decode cX10_takeMoon 170 = .ok (.getfield 180, 3) := by decide +kernel
theorem dX10_takeMoon_173 : decode cX10_takeMoon 173 = .ok (.iload_n 3, 1) := by decide +kernel
theorem dX10_takeMoon_174 : decode cX10_takeMoon 174 = .ok (.ifCond .eq 7, 3) := by decide +kernel
theorem dX10_takeMoon_177 : decode cX10_takeMoon 177 = .ok (.iconst 1, 1) := by decide +kernel
theorem dX10_takeMoon_178 : decode cX10_takeMoon 178 = .ok (.goto 4, 3) := by decide +kernel
theorem dX10_takeMoon_181 : decode cX10_takeMoon 181 = .ok (.iconst 0, 1) := by decide +kernel
theorem dX10_takeMoon_182 : decode cX10_takeMoon 182 = .ok (.iadd, 1) := by decide +kernel
theorem dX10_takeMoon_183 : decode cX10_takeMoon 183 = .ok (.putfield 180, 3) := by decide +kernel
theorem dX10_takeMoon_186 : decode cX10_takeMoon 186 = .ok (.goto (-122), 3) := by decide +kernel
theorem dX10_takeMoon_189 : decode cX10_takeMoon 189 = .ok (.iconst 0, 1) := by decide +kernel
theorem dX10_takeMoon_190 : decode cX10_takeMoon 190 = .ok (.ireturn, 1) := by decide +kernel
theorem dX10_takeHouse_0 : decode cX10_takeHouse 0 = .ok (.aload_n 0, 1) := by decide +kernel
theorem dX10_takeHouse_1 : decode cX10_takeHouse 1 = .ok (.dup, 1) := by decide +kernel
theorem dX10_takeHouse_2 : decode cX10_takeHouse 2 = .ok (.getfield 234, 3) := by decide +kernel
theorem dX10_takeHouse_5 : decode cX10_takeHouse 5 = .ok (.iconst 1, 1) := by decide +kernel
theorem dX10_takeHouse_6 : decode cX10_takeHouse 6 = .ok (.iadd, 1) := by decide +kernel
theorem dX10_takeHouse_7 : decode cX10_takeHouse 7 = .ok (.putfield 234, 3) := by decide +kernel
theorem dX10_takeHouse_10 : decode cX10_takeHouse 10 = .ok (.aload_n 0, 1) := by decide +kernel
theorem dX10_takeHouse_11 : decode cX10_takeHouse 11 = .ok (.aload_n 0, 1) := by decide +kernel
theorem dX10_takeHouse_12 : decode cX10_takeHouse 12 = .ok (.getfield 98, 3) := by decide +kernel
theorem dX10_takeHouse_15 : decode cX10_takeHouse 15 = .ok (.aload_n 0, 1) := by decide +kernel
theorem dX10_takeHouse_16 : decode cX10_takeHouse 16 = .ok (.getfield 234, 3) := by decide +kernel
theorem dX10_takeHouse_19 : decode cX10_takeHouse 19 = .ok (.iconst 1, 1) := by decide +kernel
theorem dX10_takeHouse_20 : decode cX10_takeHouse 20 = .ok (.isub, 1) := by decide +kernel
theorem dX10_takeHouse_21 : decode cX10_takeHouse 21 = .ok (.invokevirtual 223, 3) := by decide +kernel
theorem dX10_takeHouse_24 : decode cX10_takeHouse 24 = .ok (.istore_n 1, 1) := by decide +kernel
theorem dX10_takeHouse_25 : decode cX10_takeHouse 25 = .ok (.iload_n 1, 1) := by decide +kernel
theorem dX10_takeHouse_26 : decode cX10_takeHouse 26 = .ok (.ifCond .le 7, 3) := by decide +kernel
theorem dX10_takeHouse_29 : decode cX10_takeHouse 29 = .ok (.iload_n 1, 1) := by decide +kernel
theorem dX10_takeHouse_30 : decode cX10_takeHouse 30 = .ok (.goto 20, 3) := by decide +kernel
theorem dX10_takeHouse_33 : decode cX10_takeHouse 33 = .ok (.aload_n 0, 1) := by decide +kernel
theorem dX10_takeHouse_34 : decode cX10_takeHouse 34 = .ok (.aload_n 0, 1) := by decide +kernel
theorem dX10_takeHouse_35 : decode cX10_takeHouse 35 = .ok (.getfield 101, 3) := by decide +kernel
theorem dX10_takeHouse_38 : decode cX10_takeHouse 38 = .ok (.aload_n 0, 1) := by decide +kernel
theorem dX10_takeHouse_39 : decode cX10_takeHouse 39 = .ok (.getfield 234, 3) := by decide +kernel
theorem dX10_takeHouse_42 : decode cX10_takeHouse 42 = .ok (.iconst 1, 1) := by decide +kernel
theorem dX10_takeHouse_43 : decode cX10_takeHouse 43 = .ok (.isub, 1) := by decide +kernel
theorem dX10_takeHouse_44 : decode cX10_takeHouse 44 = .ok (.iconst 0, 1) := by decide +kernel
theorem dX10_takeHouse_45 : decode cX10_takeHouse 45 = .ok (.bipush 99, 2) := by decide +kernel
theorem dX10_takeHouse_47 : decode cX10_takeHouse 47 = .ok (.invokevirtual 227, 3) := by decide +kernel
theorem dX10_takeHouse_50 : decode cX10_takeHouse 50 = .ok (.ireturn, 1) := by decide +kernel
theorem dX10_takeCrack_0 : decode cX10_takeCrack 0 = .ok (.aload_n 0, 1) := by decide +kernel
theorem dX10_takeCrack_1 : decode cX10_takeCrack 1 = .ok (.getfield 237, 3) := by decide +kernel
theorem dX10_takeCrack_4 : decode cX10_takeCrack 4 = .ok (.istore_n 1, 1) := by decide +kernel
theorem dX10_takeCrack_5 : decode cX10_takeCrack 5 = .ok (.aload_n 0, 1) := by decide +kernel
theorem dX10_takeCrack_6 : decode cX10_takeCrack 6 = .ok (.dup, 1) := by decide +kernel
theorem dX10_takeCrack_7 : decode cX10_takeCrack 7 = .ok (.getfield 237, 3) := by decide +kernel
theorem dX10_takeCrack_10 : decode cX10_takeCrack 10 = .ok (.iconst 1, 1) := by decide +kernel
theorem dX10_takeCrack_11 : decode cX10_takeCrack 11 = .ok (.iadd, 1) := by decide +kernel
theorem dX10_takeCrack_12 : decode cX10_takeCrack 12 = .ok (.putfield 237, 3) := by decide +kernel
theorem dX10_takeCrack_15 : decode cX10_takeCrack 15 = .ok (.aload_n 0, 1) := by decide +kernel
theorem dX10_takeCrack_16 : decode cX10_takeCrack 16 = .ok (.invokevirtual 213, 3) := by decide +kernel
theorem dX10_takeCrack_19 : decode cX10_takeCrack 19 = .ok (.istore_n 2, 1) := by decide +kernel
theorem dX10_takeCrack_20 : decode cX10_takeCrack 20 = .ok (.iload_n 2, 1) := by decide +kernel
theorem dX10_takeCrack_21 : decode cX10_takeCrack 21 = .ok (.ifCond .le 7, 3) := by decide +kernel
theorem dX10_takeCrack_24 : decode cX10_takeCrack 24 = .ok (.iload_n 2, 1) := by decide +kernel
theorem dX10_takeCrack_25 : decode cX10_takeCrack 25 = .ok (.goto 9, 3) := by decide +kernel
theorem dX10_takeCrack_28 : decode cX10_takeCrack 28 = .ok (.aload_n 0, 1) := by decide +kernel
theorem dX10_takeCrack_29 : decode cX10_takeCrack 29 = .ok (.iconst 0, 1) := by decide +kernel
theorem dX10_takeCrack_30 : decode cX10_takeCrack 30 = .ok (.iconst 1, 1) := by decide +kernel
theorem dX10_takeCrack_31 : decode cX10_takeCrack 31 = .ok (.invokevirtual 201, 3) := by decide +kernel
theorem dX10_takeCrack_34 : decode cX10_takeCrack 34 = .ok (.istore_n 2, 1) := by decide +kernel
theorem dX10_takeCrack_35 : decode cX10_takeCrack 35 = .ok (.iload_n 2, 1) := by decide +kernel
theorem dX10_takeCrack_36 : decode cX10_takeCrack 36 = .ok (.ifCond .le 5, 3) := by decide +kernel
theorem dX10_takeCrack_39 : decode cX10_takeCrack 39 = .ok (.iload_n 2, 1) := by decide +kernel
theorem dX10_takeCrack_40 : decode cX10_takeCrack 40 = .ok (.ireturn, 1) := by decide +kernel
theorem dX10_takeCrack_41 : decode cX10_takeCrack 41 = .ok (.aload_n 0, 1) := by decide +kernel
theorem dX10_takeCrack_42 : decode cX10_takeCrack 42 = .ok (.getfield 198, 3) := by decide +kernel
theorem dX10_takeCrack_45 : decode cX10_takeCrack 45 = .ok (.ifCond .ne 29, 3) := by decide +kernel
theorem dX10_takeCrack_48 : decode cX10_takeCrack 48 = .ok (.aload_n 0, 1) := by decide +kernel
theorem dX10_takeCrack_49 : decode cX10_takeCrack 49 = .ok (.getfield 210, 3) := by decide +kernel
theorem dX10_takeCrack_52 : decode cX10_takeCrack 52 = .ok (.aload_n 0, 1) := by decide +kernel
theorem dX10_takeCrack_53 : decode cX10_takeCrack 53 = .ok (.getfield 204, 3) := by decide +kernel
theorem dX10_takeCrack_56 : decode cX10_takeCrack 56 = .ok (.irem, 1) := by decide +kernel
theorem dX10_takeCrack_57 : decode cX10_takeCrack 57 = .ok (.aload_n 0, 1) := by decide +kernel
theorem dX10_takeCrack_58 : decode cX10_takeCrack 58 = .ok (.getfield 204, 3) := by decide +kernel
theorem dX10_takeCrack_61 : decode cX10_takeCrack 61 = .ok (.iconst 1, 1) := by decide +kernel
theorem dX10_takeCrack_62 : decode cX10_takeCrack 62 = .ok (.isub, 1) := by decide +kernel
theorem dX10_takeCrack_63 : decode cX10_takeCrack 63 = .ok (.if_icmp .ne 7, 3) := by decide +kernel
theorem dX10_takeCrack_66 : decode cX10_takeCrack 66 = .ok (.iconst 1, 1) := by decide +kernel
theorem dX10_takeCrack_67 : decode cX10_takeCrack 67 = .ok (.goto 30, 3) := by decide +kernel
theorem dX10_takeCrack_70 : decode cX10_takeCrack 70 = .ok (.iconst 0, 1) := by decide +kernel
theorem dX10_takeCrack_71 : decode cX10_takeCrack 71 = .ok (.goto 26, 3) := by decide +kernel
theorem dX10_takeCrack_74 : decode cX10_takeCrack 74 = .ok (.aload_n 0, 1) := by decide +kernel
theorem dX10_takeCrack_75 : decode cX10_takeCrack 75 = .ok (.getfield 210, 3) := by decide +kernel
theorem dX10_takeCrack_78 : decode cX10_takeCrack 78 = .ok (.aload_n 0, 1) := by decide +kernel
theorem dX10_takeCrack_79 : decode cX10_takeCrack 79 = .ok (.getfield 204, 3) := by decide +kernel
theorem dX10_takeCrack_82 : decode cX10_takeCrack 82 = .ok (.idiv, 1) := by decide +kernel
theorem dX10_takeCrack_83 : decode cX10_takeCrack 83 = .ok (.aload_n 0, 1) := by decide +kernel
theorem dX10_takeCrack_84 : decode cX10_takeCrack 84 = .ok (.getfield 207, 3) := by decide +kernel
theorem dX10_takeCrack_87 : decode cX10_takeCrack 87 = .ok (.iconst 1, 1) := by decide +kernel
theorem dX10_takeCrack_88 : decode cX10_takeCrack 88 = .ok (.isub, 1) := by decide +kernel
theorem dX10_takeCrack_89 : decode cX10_takeCrack 89 = .ok (.if_icmp .ne 7, 3) := by decide +kernel
theorem dX10_takeCrack_92 : decode cX10_takeCrack 92 = .ok (.iconst 1, 1) := by decide +kernel
theorem dX10_takeCrack_93 : decode cX10_takeCrack 93 = .ok (.goto 4, 3) := by decide +kernel
theorem dX10_takeCrack_96 : decode cX10_takeCrack 96 = .ok (.iconst 0, 1) := by decide +kernel
theorem dX10_takeCrack_97 : decode cX10_takeCrack 97 = .ok (.istore_n 3, 1) := by decide +kernel
theorem dX10_takeCrack_98 : decode cX10_takeCrack 98 = .ok (.iload_n 3, 1) := by decide +kernel
theorem dX10_takeCrack_99 : decode cX10_takeCrack 99 = .ok (.ifCond .eq 13, 3) := by decide +kernel
theorem dX10_takeCrack_102 : decode cX10_takeCrack 102 = .ok (.aload_n 0, 1) := by decide +kernel
theorem dX10_takeCrack_103 : decode cX10_takeCrack 103 = .ok (.iconst 2, 1) := by decide +kernel
theorem dX10_takeCrack_104 : decode cX10_takeCrack 104 = .ok (.aload_n 0, 1) := by decide +kernel
theorem dX10_takeCrack_105 : decode cX10_takeCrack 105 = .ok (.getfield 195, 3) := by decide +kernel
theorem dX10_takeCrack_108 : decode cX10_takeCrack 108 = .ok (.invokevirtual 191, 3) := by decide +kernel
theorem dX10_takeCrack_111 : decode cX10_takeCrack 111 = .ok (.ireturn, 1) := by decide +kernel
theorem dX10_takeCrack_112 : decode cX10_takeCrack 112 = .ok (.iconst 0, 1) := by decide +kernel
theorem dX10_takeCrack_113 : decode cX10_takeCrack 113 = .ok (.istore 4, 2) := by decide +kernel
theorem dX10_takeCrack_115 : decode cX10_takeCrack 115 = .ok (.iconst 0, 1) := by decide +kernel
theorem dX10_takeCrack_116 : decode cX10_takeCrack 116 = .ok (.istore 5, 2) := by decide +kernel
theorem dX10_takeCrack_118 : decode cX10_takeCrack 118 = .ok (.iload 5, 2) := by decide +kernel
theorem dX10_takeCrack_120 : decode cX10_takeCrack 120 = .ok (.iload_n 1, 1) := by decide +kernel
theorem dX10_takeCrack_121 : decode cX10_takeCrack 121 = .ok (.if_icmp .ge 49, 3) := by decide +kernel
theorem dX10_takeCrack_124 : decode cX10_takeCrack 124 = .ok (.iload 4, 2) := by decide +kernel
theorem dX10_takeCrack_126 : decode cX10_takeCrack 126 = .ok (.ifCond .ne 31, 3) := by decide +kernel
theorem dX10_takeCrack_129 : decode cX10_takeCrack 129 = .ok (.aload_n 0, 1) := by decide +kernel
theorem dX10_takeCrack_130 : decode cX10_takeCrack 130 = .ok (.getfield 104, 3) := by decide +kernel
theorem dX10_takeCrack_133 : decode cX10_takeCrack 133 = .ok (.iload 5, 2) := by decide +kernel
theorem dX10_takeCrack_135 : decode cX10_takeCrack 135 = .ok (.iaload, 1) := by decide +kernel
theorem dX10_takeCrack_136 : decode cX10_takeCrack 136 = .ok (.aload_n 0, 1) := by decide +kernel
theorem dX10_takeCrack_137 : decode cX10_takeCrack 137 = .ok (.getfield 210, 3) := by decide +kernel
theorem dX10_takeCrack_140 : decode cX10_takeCrack 140 = .ok (.if_icmp .ne 21, 3) := by decide +kernel
theorem dX10_takeCrack_143 : decode cX10_takeCrack 143 = .ok (.aload_n 0, 1) := by decide +kernel
theorem dX10_takeCrack_144 : decode cX10_takeCrack 144 = .ok (.getfield 107, 3) := by decide +kernel
theorem dX10_takeCrack_147 : decode cX10_takeCrack 147 = .ok (.iload 5, 2) := by decide +kernel
theorem dX10_takeCrack_149 : decode cX10_takeCrack 149 = .ok (.iaload, 1) := by decide +kernel
theorem dX10_takeCrack_150 : decode cX10_takeCrack 150 = .ok (.aload_n 0, 1) := by decide +kernel
theorem dX10_takeCrack_151 : decode cX10_takeCrack 151 = .ok (.getfield 198, 3) := by decide +kernel
theorem dX10_takeCrack_154 : decode cX10_takeCrack 154 = .ok (.if_icmp .ne 7, 3) := by decide +kernel
theorem dX10_takeCrack_157 : decode cX10_takeCrack 157 = .ok (.iconst 1, 1) := by decide +kernel
theorem dX10_takeCrack_158 : decode cX10_takeCrack 158 = .ok (.goto 4, 3) := by decide +kernel
theorem dX10_takeCrack_161 : decode cX10_takeCrack 161 = .ok (.iconst 0, 1) := by decide +kernel
theorem dX10_takeCrack_162 : decode cX10_takeCrack 162 = .ok (.istore 4, 2) := by decide +kernel
theorem dX10_takeCrack_164 : decode cX10_takeCrack 164 = .ok (.iinc 5 1, 3) := by decide +kernel
theorem dX10_takeCrack_167 : decode cX10_takeCrack 167 = .ok (.goto (-49), 3) := by decide +kernel
theorem dX10_takeCrack_170 : decode cX10_takeCrack 170 = .ok (.iload 4, 2) := by decide +kernel
theorem dX10_takeCrack_172 : decode cX10_takeCrack 172 = .ok (.ifCond .eq 13, 3) := by decide +kernel
theorem dX10_takeCrack_175 : decode cX10_takeCrack 175 = .ok (.aload_n 0, 1) := by decide +kernel
theorem dX10_takeCrack_176 : decode cX10_takeCrack 176 = .ok (.iconst 4, 1) := by decide +kernel
theorem dX10_takeCrack_177 : decode cX10_takeCrack 177 = .ok (.aload_n 0, 1) := by decide +kernel
theorem dX10_takeCrack_178 : decode cX10_takeCrack 178 = .ok (.getfield 195, 3) := by decide +kernel
theorem dX10_takeCrack_181 : decode cX10_takeCrack 181 = .ok (.invokevirtual 191, 3) := by decide +kernel
theorem dX10_takeCrack_184 : decode cX10_takeCrack 184 = .ok (.ireturn, 1) := by decide +kernel
theorem dX10_takeCrack_185 : decode cX10_takeCrack 185 = .ok (.aload_n 0, 1) := by decide +kernel
theorem dX10_takeCrack_186 : decode cX10_takeCrack 186 = .ok (.getfield 104, 3) := by decide +kernel
theorem dX10_takeCrack_189 : decode cX10_takeCrack 189 = .ok (.iload_n 1, 1) := by decide +kernel
theorem dX10_takeCrack_190 : decode cX10_takeCrack 190 = .ok (.aload_n 0, 1) := by decide +kernel
theorem dX10_takeCrack_191 : decode cX10_takeCrack 191 = .ok (.getfield 210, 3) := by decide +kernel
theorem dX10_takeCrack_194 : decode cX10_takeCrack 194 = .ok (.iastore, 1) := by decide +kernel
theorem dX10_takeCrack_195 : decode cX10_takeCrack 195 = .ok (.aload_n 0, 1) := by decide +kernel
theorem dX10_takeCrack_196 : decode cX10_takeCrack 196 = .ok (.getfield 107, 3) := by decide +kernel
theorem dX10_takeCrack_199 : decode cX10_takeCrack 199 = .ok (.iload_n 1, 1) := by decide +kernel
theorem dX10_takeCrack_200 : decode cX10_takeCrack 200 = .ok (.aload_n 0, 1) := by decide +kernel
theorem dX10_takeCrack_201 : decode cX10_takeCrack 201 = .ok (.getfield 198, 3) := by decide +kernel
theorem dX10_takeCrack_204 : decode cX10_takeCrack 204 = .ok (.iastore, 1) := by decide +kernel
theorem dX10_takeCrack_205 : decode cX10_takeCrack 205 = .ok (.aload_n 0, 1) := by decide +kernel
theorem dX10_takeCrack_206 : decode cX10_takeCrack 206 = .ok (.aload_n 0, 1) := by decide +kernel
theorem dX10_takeCrack_207 : decode cX10_takeCrack 207 = .ok (.getfield 110, 3) := by decide +kernel
theorem dX10_takeCrack_210 : decode cX10_takeCrack 210 = .ok (.iload_n 1, 1) := by decide +kernel
theorem dX10_takeCrack_211 : decode cX10_takeCrack 211 = .ok (.iconst 0, 1) := by decide +kernel
theorem dX10_takeCrack_212 : decode cX10_takeCrack 212 = .ok (.bipush 60, 2) := by decide +kernel
theorem dX10_takeCrack_214 : decode cX10_takeCrack 214 = .ok (.invokevirtual 227, 3) := by decide +kernel
theorem dX10_takeCrack_217 : decode cX10_takeCrack 217 = .ok (.ireturn, 1) := by decide +kernel
theorem dX10_takeWell_0 : decode cX10_takeWell 0 = .ok (.aload_n 0, 1) := by decide +kernel
theorem dX10_takeWell_1 : decode cX10_takeWell 1 = .ok (.dup, 1) := by decide +kernel
theorem dX10_takeWell_2 : decode cX10_takeWell 2 = .ok (.getfield 240, 3) := by decide +kernel
theorem dX10_takeWell_5 : decode cX10_takeWell 5 = .ok (.iconst 1, 1) := by decide +kernel
theorem dX10_takeWell_6 : decode cX10_takeWell 6 = .ok (.iadd, 1) := by decide +kernel
theorem dX10_takeWell_7 : decode cX10_takeWell 7 = .ok (.putfield 240, 3) := by decide +kernel
theorem dX10_takeWell_10 : decode cX10_takeWell 10 = .ok (.aload_n 0, 1) := by decide +kernel
theorem dX10_takeWell_11 : decode cX10_takeWell 11 = .ok (.aload_n 0, 1) := by decide +kernel
theorem dX10_takeWell_12 : decode cX10_takeWell 12 = .ok (.getfield 113, 3) := by decide +kernel
theorem dX10_takeWell_15 : decode cX10_takeWell 15 = .ok (.aload_n 0, 1) := by decide +kernel
theorem dX10_takeWell_16 : decode cX10_takeWell 16 = .ok (.getfield 240, 3) := by decide +kernel
theorem dX10_takeWell_19 : decode cX10_takeWell 19 = .ok (.iconst 1, 1) := by decide +kernel
theorem dX10_takeWell_20 : decode cX10_takeWell 20 = .ok (.isub, 1) := by decide +kernel
theorem dX10_takeWell_21 : decode cX10_takeWell 21 = .ok (.invokevirtual 223, 3) := by decide +kernel
theorem dX10_takeWell_24 : decode cX10_takeWell 24 = .ok (.istore_n 1, 1) := by decide +kernel
theorem dX10_takeWell_25 : decode cX10_takeWell 25 = .ok (.iload_n 1, 1) := by decide +kernel
theorem dX10_takeWell_26 : decode cX10_takeWell 26 = .ok (.ifCond .le 7, 3) := by decide +kernel
theorem dX10_takeWell_29 : decode cX10_takeWell 29 = .ok (.iload_n 1, 1) := by decide +kernel
theorem dX10_takeWell_30 : decode cX10_takeWell 30 = .ok (.goto 20, 3) := by decide +kernel
theorem dX10_takeWell_33 : decode cX10_takeWell 33 = .ok (.aload_n 0, 1) := by decide +kernel
theorem dX10_takeWell_34 : decode cX10_takeWell 34 = .ok (.aload_n 0, 1) := by decide +kernel
theorem dX10_takeWell_35 : decode cX10_takeWell 35 = .ok (.getfield 116, 3) := by decide +kernel
theorem dX10_takeWell_38 : decode cX10_takeWell 38 = .ok (.aload_n 0, 1) := by decide +kernel
theorem dX10_takeWell_39 : decode cX10_takeWell 39 = .ok (.getfield 240, 3) := by decide +kernel
theorem dX10_takeWell_42 : decode cX10_takeWell 42 = .ok (.iconst 1, 1) := by decide +kernel
theorem dX10_takeWell_43 : decode cX10_takeWell 43 = .ok (.isub, 1) := by decide +kernel
theorem dX10_takeWell_44 : decode cX10_takeWell 44 = .ok (.iconst 0, 1) := by decide +kernel
theorem dX10_takeWell_45 : decode cX10_takeWell 45 = .ok (.bipush 99, 2) := by decide +kernel
theorem dX10_takeWell_47 : decode cX10_takeWell 47 = .ok (.invokevirtual 227, 3) := by decide +kernel
theorem dX10_takeWell_50 : decode cX10_takeWell 50 = .ok (.ireturn, 1) := by decide +kernel
theorem dX10_takeDeed_0 : decode cX10_takeDeed 0 = .ok (.aload_n 0, 1) := by decide +kernel
theorem dX10_takeDeed_1 : decode cX10_takeDeed 1 = .ok (.getfield 243, 3) := by decide +kernel
theorem dX10_takeDeed_4 : decode cX10_takeDeed 4 = .ok (.istore_n 1, 1) := by decide +kernel
theorem dX10_takeDeed_5 : decode cX10_takeDeed 5 = .ok (.aload_n 0, 1) := by decide +kernel
theorem dX10_takeDeed_6 : decode cX10_takeDeed 6 = .ok (.dup, 1) := by decide +kernel
theorem dX10_takeDeed_7 : decode cX10_takeDeed 7 = .ok (.getfield 243, 3) := by decide +kernel
theorem dX10_takeDeed_10 : decode cX10_takeDeed 10 = .ok (.iconst 1, 1) := by decide +kernel
theorem dX10_takeDeed_11 : decode cX10_takeDeed 11 = .ok (.iadd, 1) := by decide +kernel
theorem dX10_takeDeed_12 : decode cX10_takeDeed 12 = .ok (.putfield 243, 3) := by decide +kernel
theorem dX10_takeDeed_15 : decode cX10_takeDeed 15 = .ok (.aload_n 0, 1) := by decide +kernel
theorem dX10_takeDeed_16 : decode cX10_takeDeed 16 = .ok (.aload_n 0, 1) := by decide +kernel
theorem dX10_takeDeed_17 : decode cX10_takeDeed 17 = .ok (.getfield 119, 3) := by decide +kernel
theorem dX10_takeDeed_20 : decode cX10_takeDeed 20 = .ok (.iload_n 1, 1) := by decide +kernel
theorem dX10_takeDeed_21 : decode cX10_takeDeed 21 = .ok (.iconst 0, 1) := by decide +kernel
theorem dX10_takeDeed_22 : decode cX10_takeDeed 22 = .ok (.sipush 300, 3) := by decide +kernel
theorem dX10_takeDeed_25 : decode cX10_takeDeed 25 = .ok (.invokevirtual 227, 3) := by decide +kernel
theorem dX10_takeDeed_28 : decode cX10_takeDeed 28 = .ok (.istore_n 2, 1) := by decide +kernel
theorem dX10_takeDeed_29 : decode cX10_takeDeed 29 = .ok (.iload_n 2, 1) := by decide +kernel
theorem dX10_takeDeed_30 : decode cX10_takeDeed 30 = .ok (.ifCond .le 7, 3) := by decide +kernel
theorem dX10_takeDeed_33 : decode cX10_takeDeed 33 = .ok (.iload_n 2, 1) := by decide +kernel
theorem dX10_takeDeed_34 : decode cX10_takeDeed 34 = .ok (.goto 16, 3) := by decide +kernel
theorem dX10_takeDeed_37 : decode cX10_takeDeed 37 = .ok (.aload_n 0, 1) := by decide +kernel
theorem dX10_takeDeed_38 : decode cX10_takeDeed 38 = .ok (.aload_n 0, 1) := by decide +kernel
theorem dX10_takeDeed_39 : decode cX10_takeDeed 39 = .ok (.getfield 122, 3) := by decide +kernel
theorem dX10_takeDeed_42 : decode cX10_takeDeed 42 = .ok (.iload_n 1, 1) := by decide +kernel
theorem dX10_takeDeed_43 : decode cX10_takeDeed 43 = .ok (.iconst 0, 1) := by decide +kernel
theorem dX10_takeDeed_44 : decode cX10_takeDeed 44 = .ok (.sipush 300, 3) := by decide +kernel
theorem dX10_takeDeed_47 : decode cX10_takeDeed 47 = .ok (.invokevirtual 227, 3) := by decide +kernel
theorem dX10_takeDeed_50 : decode cX10_takeDeed 50 = .ok (.istore_n 2, 1) := by decide +kernel
theorem dX10_takeDeed_51 : decode cX10_takeDeed 51 = .ok (.iload_n 2, 1) := by decide +kernel
theorem dX10_takeDeed_52 : decode cX10_takeDeed 52 = .ok (.ifCond .ne 30, 3) := by decide +kernel
theorem dX10_takeDeed_55 : decode cX10_takeDeed 55 = .ok (.aload_n 0, 1) := by decide +kernel
theorem dX10_takeDeed_56 : decode cX10_takeDeed 56 = .ok (.getfield 122, 3) := by decide +kernel
theorem dX10_takeDeed_59 : decode cX10_takeDeed 59 = .ok (.iload_n 1, 1) := by decide +kernel
theorem dX10_takeDeed_60 : decode cX10_takeDeed 60 = .ok (.iaload, 1) := by decide +kernel
theorem dX10_takeDeed_61 : decode cX10_takeDeed 61 = .ok (.aload_n 0, 1) := by decide +kernel
theorem dX10_takeDeed_62 : decode cX10_takeDeed 62 = .ok (.getfield 119, 3) := by decide +kernel
theorem dX10_takeDeed_65 : decode cX10_takeDeed 65 = .ok (.iload_n 1, 1) := by decide +kernel
theorem dX10_takeDeed_66 : decode cX10_takeDeed 66 = .ok (.iaload, 1) := by decide +kernel
theorem dX10_takeDeed_67 : decode cX10_takeDeed 67 = .ok (.if_icmp .ge 15, 3) := by decide +kernel
theorem dX10_takeDeed_70 : decode cX10_takeDeed 70 = .ok (.aload_n 0, 1) := by decide +kernel
theorem dX10_takeDeed_71 : decode cX10_takeDeed 71 = .ok (.iconst 4, 1) := by decide +kernel
theorem dX10_takeDeed_72 : decode cX10_takeDeed 72 = .ok (.aload_n 0, 1) := by decide +kernel
theorem dX10_takeDeed_73 : decode cX10_takeDeed 73 = .ok (.getfield 195, 3) := by decide +kernel
theorem dX10_takeDeed_76 : decode cX10_takeDeed 76 = .ok (.invokevirtual 191, 3) := by decide +kernel
theorem dX10_takeDeed_79 : decode cX10_takeDeed 79 = .ok (.goto 4, 3) := by decide +kernel
theorem dX10_takeDeed_82 : decode cX10_takeDeed 82 = .ok (.iload_n 2, 1) := by decide +kernel
theorem dX10_takeDeed_83 : decode cX10_takeDeed 83 = .ok (.ireturn, 1) := by decide +kernel
theorem dX10_takeClause_0 : decode cX10_takeClause 0 = .ok (.aload_n 0, 1) := by decide +kernel
theorem dX10_takeClause_1 : decode cX10_takeClause 1 = .ok (.invokevirtual 183, 3) := by decide +kernel
theorem dX10_takeClause_4 : decode cX10_takeClause 4 = .ok (.istore_n 1, 1) := by decide +kernel
theorem dX10_takeClause_5 : decode cX10_takeClause 5 = .ok (.iload_n 1, 1) := by decide +kernel
theorem dX10_takeClause_6 : decode cX10_takeClause 6 = .ok (.bipush 103, 2) := by decide +kernel
theorem dX10_takeClause_8 : decode cX10_takeClause 8 = .ok (.if_icmp .ne 7, 3) := by decide +kernel
theorem dX10_takeClause_11 : decode cX10_takeClause 11 = .ok (.iconst 0, 1) := by decide +kernel
theorem dX10_takeClause_12 : decode cX10_takeClause 12 = .ok (.goto 65, 3) := by decide +kernel
theorem dX10_takeClause_15 : decode cX10_takeClause 15 = .ok (.iload_n 1, 1) := by decide +kernel
theorem dX10_takeClause_16 : decode cX10_takeClause 16 = .ok (.bipush 99, 2) := by decide +kernel
theorem dX10_takeClause_18 : decode cX10_takeClause 18 = .ok (.if_icmp .ne 7, 3) := by decide +kernel
theorem dX10_takeClause_21 : decode cX10_takeClause 21 = .ok (.iconst 1, 1) := by decide +kernel
theorem dX10_takeClause_22 : decode cX10_takeClause 22 = .ok (.goto 55, 3) := by decide +kernel
theorem dX10_takeClause_25 : decode cX10_takeClause 25 = .ok (.iload_n 1, 1) := by decide +kernel
theorem dX10_takeClause_26 : decode cX10_takeClause 26 = .ok (.bipush 109, 2) := by decide +kernel
theorem dX10_takeClause_28 : decode cX10_takeClause 28 = .ok (.if_icmp .ne 7, 3) := by decide +kernel
theorem dX10_takeClause_31 : decode cX10_takeClause 31 = .ok (.iconst 2, 1) := by decide +kernel
theorem dX10_takeClause_32 : decode cX10_takeClause 32 = .ok (.goto 45, 3) := by decide +kernel
theorem dX10_takeClause_35 : decode cX10_takeClause 35 = .ok (.iload_n 1, 1) := by decide +kernel
theorem dX10_takeClause_36 : decode cX10_takeClause 36 = .ok (.bipush 104, 2) := by decide +kernel
theorem dX10_takeClause_38 : decode cX10_takeClause 38 = .ok (.if_icmp .ne 7, 3) := by decide +kernel
theorem dX10_takeClause_41 : decode cX10_takeClause 41 = .ok (.iconst 3, 1) := by decide +kernel
theorem dX10_takeClause_42 : decode cX10_takeClause 42 = .ok (.goto 35, 3) := by decide +kernel
theorem dX10_takeClause_45 : decode cX10_takeClause 45 = .ok (.iload_n 1, 1) := by decide +kernel
theorem dX10_takeClause_46 : decode cX10_takeClause 46 = .ok (.bipush 107, 2) := by decide +kernel
theorem dX10_takeClause_48 : decode cX10_takeClause 48 = .ok (.if_icmp .ne 7, 3) := by decide +kernel
theorem dX10_takeClause_51 : decode cX10_takeClause 51 = .ok (.iconst 4, 1) := by decide +kernel
theorem dX10_takeClause_52 : decode cX10_takeClause 52 = .ok (.goto 25, 3) := by decide +kernel
theorem dX10_takeClause_55 : decode cX10_takeClause 55 = .ok (.iload_n 1, 1) := by decide +kernel
theorem dX10_takeClause_56 : decode cX10_takeClause 56 = .ok (.bipush 119, 2) := by decide +kernel
theorem dX10_takeClause_58 : decode cX10_takeClause 58 = .ok (.if_icmp .ne 7, 3) := by decide +kernel
theorem dX10_takeClause_61 : decode cX10_takeClause 61 = .ok (.iconst 5, 1) := by decide +kernel
theorem dX10_takeClause_62 : decode cX10_takeClause 62 = .ok (.goto 15, 3) := by decide +kernel
theorem dX10_takeClause_65 : decode cX10_takeClause 65 = .ok (.iload_n 1, 1) := by decide +kernel
theorem dX10_takeClause_66 : decode cX10_takeClause 66 = .ok (.bipush 100, 2) := by decide +kernel
theorem dX10_takeClause_68 : decode cX10_takeClause 68 = .ok (.if_icmp .ne 8, 3) := by decide +kernel
theorem dX10_takeClause_71 : decode cX10_takeClause 71 = .ok (.bipush 6, 2) := by decide +kernel
theorem dX10_takeClause_73 : decode cX10_takeClause 73 = .ok (.goto 4, 3) := by decide +kernel
theorem dX10_takeClause_76 : decode cX10_takeClause 76 = .ok (.iconst (-1), 1) := by decide +kernel
theorem dX10_takeClause_77 : decode cX10_takeClause 77 = .ok (.istore_n 2, 1) := by decide +kernel
theorem dX10_takeClause_78 : decode cX10_takeClause 78 = .ok (.iload_n 2, 1) := by decide +kernel
theorem dX10_takeClause_79 : decode cX10_takeClause 79 = .ok (.ifCond .lt 14, 3) := by decide +kernel
theorem dX10_takeClause_82 : decode cX10_takeClause 82 = .ok (.iload_n 2, 1) := by decide +kernel
theorem dX10_takeClause_83 : decode cX10_takeClause 83 = .ok (.ifCond .le 20, 3) := by decide +kernel
theorem dX10_takeClause_86 : decode cX10_takeClause 86 = .ok (.aload_n 0, 1) := by decide +kernel
theorem dX10_takeClause_87 : decode cX10_takeClause 87 = .ok (.getfield 204, 3) := by decide +kernel
theorem dX10_takeClause_90 : decode cX10_takeClause 90 = .ok (.ifCond .ne 13, 3) := by decide +kernel
theorem dX10_takeClause_93 : decode cX10_takeClause 93 = .ok (.aload_n 0, 1) := by decide +kernel
theorem dX10_takeClause_94 : decode cX10_takeClause 94 = .ok (.iconst 1, 1) := by decide +kernel
theorem dX10_takeClause_95 : decode cX10_takeClause 95 = .ok (.aload_n 0, 1) := by decide +kernel
theorem dX10_takeClause_96 : decode cX10_takeClause 96 = .ok (.getfield 180, 3) := by decide +kernel
theorem dX10_takeClause_99 : decode cX10_takeClause 99 = .ok (.invokevirtual 191, 3) := by decide +kernel
theorem dX10_takeClause_102 : decode cX10_takeClause 102 = .ok (.ireturn, 1) := by decide +kernel
theorem dX10_takeClause_103 : decode cX10_takeClause 103 = .ok (.iload_n 2, 1) := by decide +kernel
theorem dX10_takeClause_104 : decode cX10_takeClause 104 = .ok (.ifCond .ne 18, 3) := by decide +kernel
theorem dX10_takeClause_107 : decode cX10_takeClause 107 = .ok (.aload_n 0, 1) := by decide +kernel
theorem dX10_takeClause_108 : decode cX10_takeClause 108 = .ok (.getfield 204, 3) := by decide +kernel
theorem dX10_takeClause_111 : decode cX10_takeClause 111 = .ok (.ifCond .le 7, 3) := by decide +kernel
theorem dX10_takeClause_114 : decode cX10_takeClause 114 = .ok (.iconst 1, 1) := by decide +kernel
theorem dX10_takeClause_115 : decode cX10_takeClause 115 = .ok (.goto 69, 3) := by decide +kernel
theorem dX10_takeClause_118 : decode cX10_takeClause 118 = .ok (.iconst 0, 1) := by decide +kernel
theorem dX10_takeClause_119 : decode cX10_takeClause 119 = .ok (.goto 65, 3) := by decide +kernel
theorem dX10_takeClause_122 : decode cX10_takeClause 122 = .ok (.iload_n 2, 1) := by decide +kernel
theorem dX10_takeClause_123 : decode cX10_takeClause 123 = .ok (.iconst 1, 1) := by decide +kernel
theorem dX10_takeClause_124 : decode cX10_takeClause 124 = .ok (.if_icmp .ne 20, 3) := by decide +kernel
theorem dX10_takeClause_127 : decode cX10_takeClause 127 = .ok (.aload_n 0, 1) := by decide +kernel
theorem dX10_takeClause_128 : decode cX10_takeClause 128 = .ok (.getfield 220, 3) := by decide +kernel
theorem dX10_takeClause_131 : decode cX10_takeClause 131 = .ok (.bipush 12, 2) := by decide +kernel
theorem dX10_takeClause_133 : decode cX10_takeClause 133 = .ok (.if_icmp .ne 7, 3) := by decide +kernel
theorem dX10_takeClause_136 : decode cX10_takeClause 136 = .ok (.iconst 1, 1) := by decide +kernel
theorem dX10_takeClause_137 : decode cX10_takeClause 137 = .ok (.goto 47, 3) := by decide +kernel
theorem dX10_takeClause_140 : decode cX10_takeClause 140 = .ok (.iconst 0, 1) := by decide +kernel
theorem dX10_takeClause_141 : decode cX10_takeClause 141 = .ok (.goto 43, 3) := by decide +kernel
theorem dX10_takeClause_144 : decode cX10_takeClause 144 = .ok (.iload_n 2, 1) := by decide +kernel
theorem dX10_takeClause_145 : decode cX10_takeClause 145 = .ok (.iconst 2, 1) := by decide +kernel
theorem dX10_takeClause_146 : decode cX10_takeClause 146 = .ok (.if_icmp .ne 19, 3) := by decide +kernel
theorem dX10_takeClause_149 : decode cX10_takeClause 149 = .ok (.aload_n 0, 1) := by decide +kernel
theorem dX10_takeClause_150 : decode cX10_takeClause 150 = .ok (.getfield 231, 3) := by decide +kernel
theorem dX10_takeClause_153 : decode cX10_takeClause 153 = .ok (.iconst 3, 1) := by decide +kernel
theorem dX10_takeClause_154 : decode cX10_takeClause 154 = .ok (.if_icmp .ne 7, 3) := by decide +kernel
theorem dX10_takeClause_157 : decode cX10_takeClause 157 = .ok (.iconst 1, 1) := by decide +kernel
theorem dX10_takeClause_158 : decode cX10_takeClause 158 = .ok (.goto 26, 3) := by decide +kernel
theorem dX10_takeClause_161 : decode cX10_takeClause 161 = .ok (.iconst 0, 1) := by decide +kernel
theorem dX10_takeClause_162 : decode cX10_takeClause 162 = .ok (.goto 22, 3) := by decide +kernel
theorem dX10_takeClause_165 : decode cX10_takeClause 165 = .ok (.iload_n 2, 1) := by decide +kernel
theorem dX10_takeClause_166 : decode cX10_takeClause 166 = .ok (.iconst 3, 1) := by decide +kernel
theorem dX10_takeClause_167 : decode cX10_takeClause 167 = .ok (.if_icmp .ne 16, 3) := by decide +kernel
theorem dX10_takeClause_170 : decode cX10_takeClause 170 = .ok (.aload_n 0, 1) := by decide +kernel
theorem dX10_takeClause_171 : decode cX10_takeClause 171 = .ok (.getfield 234, 3) := by decide +kernel
theorem dX10_takeClause_174 : decode cX10_takeClause 174 = .ok (.bipush 6, 2) := by decide +kernel
theorem dX10_takeClause_176 : decode cX10_takeClause 176 = .ok (.if_icmp .ne 7, 3) := by decide +kernel
theorem dX10_takeClause_179 : decode cX10_takeClause 179 = .ok (.iconst 1, 1) := by decide +kernel
theorem dX10_takeClause_180 : decode cX10_takeClause 180 = .ok (.goto 4, 3) := by decide +kernel
theorem dX10_takeClause_183 : decode cX10_takeClause 183 = .ok (.iconst 0, 1) := by decide +kernel
theorem dX10_takeClause_184 : decode cX10_takeClause 184 = .ok (.istore_n 3, 1) := by decide +kernel
theorem dX10_takeClause_185 : decode cX10_takeClause 185 = .ok (.iload_n 3, 1) := by decide +kernel
theorem dX10_takeClause_186 : decode cX10_takeClause 186 = .ok (.ifCond .ne 44, 3) := by decide +kernel
theorem dX10_takeClause_189 : decode cX10_takeClause 189 = .ok (.iload_n 2, 1) := by decide +kernel
theorem dX10_takeClause_190 : decode cX10_takeClause 190 = .ok (.iconst 4, 1) := by decide +kernel
theorem dX10_takeClause_191 : decode cX10_takeClause 191 = .ok (.if_icmp .ne 12, 3) := by decide +kernel
theorem dX10_takeClause_194 : decode cX10_takeClause 194 = .ok (.aload_n 0, 1) := by decide +kernel
theorem dX10_takeClause_195 : decode cX10_takeClause 195 = .ok (.getfield 237, 3) := by decide +kernel
theorem dX10_takeClause_198 : decode cX10_takeClause 198 = .ok (.bipush 6, 2) := by decide +kernel
theorem dX10_takeClause_200 : decode cX10_takeClause 200 = .ok (.if_icmp .eq 30, 3) := by decide +kernel
theorem dX10_takeClause_203 : decode cX10_takeClause 203 = .ok (.iload_n 2, 1) := by decide +kernel
theorem dX10_takeClause_204 : decode cX10_takeClause 204 = .ok (.iconst 5, 1) := by decide +kernel
theorem dX10_takeClause_205 : decode cX10_takeClause 205 = .ok (.if_icmp .ne 11, 3) := by decide +kernel
theorem dX10_takeClause_208 : decode cX10_takeClause 208 = .ok (.aload_n 0, 1) := by decide +kernel
theorem dX10_takeClause_209 : decode cX10_takeClause 209 = .ok (.getfield 240, 3) := by decide +kernel
theorem dX10_takeClause_212 : decode cX10_takeClause 212 = .ok (.iconst 5, 1) := by decide +kernel
theorem dX10_takeClause_213 : decode cX10_takeClause 213 = .ok (.if_icmp .eq 17, 3) := by decide +kernel
theorem dX10_takeClause_216 : decode cX10_takeClause 216 = .ok (.iload_n 2, 1) := by decide +kernel
theorem dX10_takeClause_217 : decode cX10_takeClause 217 = .ok (.bipush 6, 2) := by decide +kernel
theorem dX10_takeClause_219 : decode cX10_takeClause 219 = .ok (.if_icmp .ne 21, 3) := by decide +kernel
theorem dX10_takeClause_222 : decode cX10_takeClause 222 = .ok (.aload_n 0, 1) := by decide +kernel
theorem dX10_takeClause_223 : decode cX10_takeClause 223 = .ok (.getfield 243, 3) := by decide +kernel
theorem dX10_takeClause_226 : decode cX10_takeClause 226 = .ok (.iconst 4, 1) := by decide +kernel
theorem dX10_takeClause_227 : decode cX10_takeClause 227 = .ok (.if_icmp .ne 13, 3) := by decide +kernel
theorem dX10_takeClause_230 : decode cX10_takeClause 230 = .ok (.aload_n 0, 1) := by decide +kernel
theorem dX10_takeClause_231 : decode cX10_takeClause 231 = .ok (.iconst 3, 1) := by decide +kernel
theorem dX10_takeClause_232 : decode cX10_takeClause 232 = .ok (.aload_n 0, 1) := by decide +kernel
theorem dX10_takeClause_233 : decode cX10_takeClause 233 = .ok (.getfield 180, 3) := by decide +kernel
theorem dX10_takeClause_236 : decode cX10_takeClause 236 = .ok (.invokevirtual 191, 3) := by decide +kernel
theorem dX10_takeClause_239 : decode cX10_takeClause 239 = .ok (.ireturn, 1) := by decide +kernel
theorem dX10_takeClause_240 : decode cX10_takeClause 240 = .ok (.aload_n 0, 1) := by decide +kernel
theorem dX10_takeClause_241 : decode cX10_takeClause 241 = .ok (.dup, 1) := by decide +kernel
theorem dX10_takeClause_242 : decode cX10_takeClause 242 = .ok (.getfield 180, 3) := by decide +kernel
theorem dX10_takeClause_245 : decode cX10_takeClause 245 = .ok (.iconst 1, 1) := by decide +kernel
theorem dX10_takeClause_246 : decode cX10_takeClause 246 = .ok (.iadd, 1) := by decide +kernel
theorem dX10_takeClause_247 : decode cX10_takeClause 247 = .ok (.putfield 180, 3) := by decide +kernel
theorem dX10_takeClause_250 : decode cX10_takeClause 250 = .ok (.iload_n 2, 1) := by decide +kernel
theorem dX10_takeClause_251 : decode cX10_takeClause 251 = .ok (.ifCond .ne 10, 3) := by decide +kernel
theorem dX10_takeClause_254 : decode cX10_takeClause 254 = .ok (.aload_n 0, 1) := by decide +kernel
theorem dX10_takeClause_255 : decode cX10_takeClause 255 = .ok (.invokevirtual 246, 3) := by decide +kernel
theorem dX10_takeClause_258 : decode cX10_takeClause 258 = .ok (.goto 67, 3) := by decide +kernel
theorem dX10_takeClause_261 : decode cX10_takeClause 261 = .ok (.iload_n 2, 1) := by decide +kernel
theorem dX10_takeClause_262 : decode cX10_takeClause 262 = .ok (.iconst 1, 1) := by decide +kernel
theorem dX10_takeClause_263 : decode cX10_takeClause 263 = .ok (.if_icmp .ne 10, 3) := by decide +kernel
theorem dX10_takeClause_266 : decode cX10_takeClause 266 = .ok (.aload_n 0, 1) := by decide +kernel
theorem dX10_takeClause_267 : decode cX10_takeClause 267 = .ok (.invokevirtual 249, 3) := by decide +kernel
theorem dX10_takeClause_270 : decode cX10_takeClause 270 = .ok (.goto 55, 3) := by decide +kernel
theorem dX10_takeClause_273 : decode cX10_takeClause 273 = .ok (.iload_n 2, 1) := by decide +kernel
theorem dX10_takeClause_274 : decode cX10_takeClause 274 = .ok (.iconst 2, 1) := by decide +kernel
theorem dX10_takeClause_275 : decode cX10_takeClause 275 = .ok (.if_icmp .ne 10, 3) := by decide +kernel
theorem dX10_takeClause_278 : decode cX10_takeClause 278 = .ok (.aload_n 0, 1) := by decide +kernel
theorem dX10_takeClause_279 : decode cX10_takeClause 279 = .ok (.invokevirtual 252, 3) := by decide +kernel
theorem dX10_takeClause_282 : decode cX10_takeClause 282 = .ok (.goto 43, 3) := by decide +kernel
theorem dX10_takeClause_285 : decode cX10_takeClause 285 = .ok (.iload_n 2, 1) := by decide +kernel
theorem dX10_takeClause_286 : decode cX10_takeClause 286 = .ok (.iconst 3, 1) := by decide +kernel
theorem dX10_takeClause_287 : decode cX10_takeClause 287 = .ok (.if_icmp .ne 10, 3) := by decide +kernel
theorem dX10_takeClause_290 : decode cX10_takeClause 290 = .ok (.aload_n 0, 1) := by decide +kernel
theorem dX10_takeClause_291 : decode cX10_takeClause 291 = .ok (.invokevirtual 255, 3) := by decide +kernel
theorem dX10_takeClause_294 : decode cX10_takeClause 294 = .ok (.goto 31, 3) := by decide +kernel
theorem dX10_takeClause_297 : decode cX10_takeClause 297 = .ok (.iload_n 2, 1) := by decide +kernel
theorem dX10_takeClause_298 : decode cX10_takeClause 298 = .ok (.iconst 4, 1) := by decide +kernel
theorem dX10_takeClause_299 : decode cX10_takeClause 299 = .ok (.if_icmp .ne 10, 3) := by decide +kernel
theorem dX10_takeClause_302 : decode cX10_takeClause 302 = .ok (.aload_n 0, 1) := by decide +kernel
theorem dX10_takeClause_303 : decode cX10_takeClause 303 = .ok (.invokevirtual 258, 3) := by decide +kernel
theorem dX10_takeClause_306 : decode cX10_takeClause 306 = .ok (.goto 19, 3) := by decide +kernel
theorem dX10_takeClause_309 : decode cX10_takeClause 309 = .ok (.iload_n 2, 1) := by decide +kernel
theorem dX10_takeClause_310 : decode cX10_takeClause 310 = .ok (.iconst 5, 1) := by decide +kernel
theorem dX10_takeClause_311 : decode cX10_takeClause 311 = .ok (.if_icmp .ne 10, 3) := by decide +kernel
theorem dX10_takeClause_314 : decode cX10_takeClause 314 = .ok (.aload_n 0, 1) := by decide +kernel
theorem dX10_takeClause_315 : decode cX10_takeClause 315 = .ok (.invokevirtual 261, 3) := by decide +kernel
theorem dX10_takeClause_318 : decode cX10_takeClause 318 = .ok (.goto 7, 3) := by decide +kernel
theorem dX10_takeClause_321 : decode cX10_takeClause 321 = .ok (.aload_n 0, 1) := by decide +kernel
theorem dX10_takeClause_322 : decode cX10_takeClause 322 = .ok (.invokevirtual 264, 3) := by decide +kernel
theorem dX10_takeClause_325 : decode cX10_takeClause 325 = .ok (.istore 4, 2) := by decide +kernel
theorem dX10_takeClause_327 : decode cX10_takeClause 327 = .ok (.iload 4, 2) := by decide +kernel
theorem dX10_takeClause_329 : decode cX10_takeClause 329 = .ok (.ifCond .ne 22, 3) := by decide +kernel
theorem dX10_takeClause_332 : decode cX10_takeClause 332 = .ok (.aload_n 0, 1) := by decide +kernel
theorem dX10_takeClause_333 : decode cX10_takeClause 333 = .ok (.invokevirtual 183, 3) := by decide +kernel
theorem dX10_takeClause_336 : decode cX10_takeClause 336 = .ok (.bipush 59, 2) := by decide +kernel
theorem dX10_takeClause_338 : decode cX10_takeClause 338 = .ok (.if_icmp .eq 13, 3) := by decide +kernel
theorem dX10_takeClause_341 : decode cX10_takeClause 341 = .ok (.aload_n 0, 1) := by decide +kernel
theorem dX10_takeClause_342 : decode cX10_takeClause 342 = .ok (.iconst 1, 1) := by decide +kernel
theorem dX10_takeClause_343 : decode cX10_takeClause 343 = .ok (.aload_n 0, 1) := by decide +kernel
theorem dX10_takeClause_344 : decode cX10_takeClause 344 = .ok (.getfield 180, 3) := by decide +kernel
theorem dX10_takeClause_347 : decode cX10_takeClause 347 = .ok (.invokevirtual 191, 3) := by decide +kernel
theorem dX10_takeClause_350 : decode cX10_takeClause 350 = .ok (.ireturn, 1) := by decide +kernel
theorem dX10_takeClause_351 : decode cX10_takeClause 351 = .ok (.aload_n 0, 1) := by decide +kernel
theorem dX10_takeClause_352 : decode cX10_takeClause 352 = .ok (.dup, 1) := by decide +kernel
theorem dX10_takeClause_353 : decode cX10_takeClause 353 = .ok (.getfield 180, 3) := by decide +kernel
theorem dX10_takeClause_356 : decode cX10_takeClause 356 = .ok (.iconst 1, 1) := by decide +kernel
theorem dX10_takeClause_357 : decode cX10_takeClause 357 = .ok (.iadd, 1) := by decide +kernel
theorem dX10_takeClause_358 : decode cX10_takeClause 358 = .ok (.putfield 180, 3) := by decide +kernel
theorem dX10_takeClause_361 : decode cX10_takeClause 361 = .ok (.iload 4, 2) := by decide +kernel
theorem dX10_takeClause_363 : decode cX10_takeClause 363 = .ok (.ireturn, 1) := by decide +kernel
theorem dX10_divisor_0 : decode cX10_divisor 0 = .ok (.iload_n 0, 1) := by decide +kernel
theorem dX10_divisor_1 : decode cX10_divisor 1 = .ok (.istore_n 2, 1) := by decide +kernel
theorem dX10_divisor_2 : decode cX10_divisor 2 = .ok (.iload_n 1, 1) := by decide +kernel
theorem dX10_divisor_3 : decode cX10_divisor 3 = .ok (.istore_n 3, 1) := by decide +kernel
theorem dX10_divisor_4 : decode cX10_divisor 4 = .ok (.iload_n 3, 1) := by decide +kernel
theorem dX10_divisor_5 : decode cX10_divisor 5 = .ok (.ifCond .eq 16, 3) := by decide +kernel
theorem dX10_divisor_8 : decode cX10_divisor 8 = .ok (.iload_n 2, 1) := by decide +kernel
theorem dX10_divisor_9 : decode cX10_divisor 9 = .ok (.iload_n 3, 1) := by decide +kernel
theorem dX10_divisor_10 : decode cX10_divisor 10 = .ok (.irem, 1) := by decide +kernel
theorem dX10_divisor_11 : decode cX10_divisor 11 = .ok (.istore 4, 2) := by decide +kernel
theorem dX10_divisor_13 : decode cX10_divisor 13 = .ok (.iload_n 3, 1) := by decide +kernel
theorem dX10_divisor_14 : decode cX10_divisor 14 = .ok (.istore_n 2, 1) := by decide +kernel
theorem dX10_divisor_15 : decode cX10_divisor 15 = .ok (.iload 4, 2) := by decide +kernel
theorem dX10_divisor_17 : decode cX10_divisor 17 = .ok (.istore_n 3, 1) := by decide +kernel
theorem dX10_divisor_18 : decode cX10_divisor 18 = .ok (.goto (-14), 3) := by decide +kernel
theorem dX10_divisor_21 : decode cX10_divisor 21 = .ok (.iload_n 2, 1) := by decide +kernel
theorem dX10_divisor_22 : decode cX10_divisor 22 = .ok (.ifCond .ge 8, 3) := by decide +kernel
theorem dX10_divisor_25 : decode cX10_divisor 25 = .ok (.iload_n 2, 1) := by decide +kernel
theorem dX10_divisor_26 : decode cX10_divisor 26 = .ok (.ineg, 1) := by decide +kernel
theorem dX10_divisor_27 : decode cX10_divisor 27 = .ok (.goto 4, 3) := by decide +kernel
theorem dX10_divisor_30 : decode cX10_divisor 30 = .ok (.iload_n 2, 1) := by decide +kernel
theorem dX10_divisor_31 : decode cX10_divisor 31 = .ok (.ireturn, 1) := by decide +kernel
theorem dX10_takeRead_0 : decode cX10_takeRead 0 = .ok (.aload_n 0, 1) := by decide +kernel
theorem dX10_takeRead_1 : decode cX10_takeRead 1 = .ok (.aload_n 0, 1) := by decide +kernel
theorem dX10_takeRead_2 : decode cX10_takeRead 2 = .ok (.getfield 204, 3) := by decide +kernel
theorem dX10_takeRead_5 : decode cX10_takeRead 5 = .ok (.putfield 159, 3) := by decide +kernel
theorem dX10_takeRead_8 : decode cX10_takeRead 8 = .ok (.aload_n 0, 1) := by decide +kernel
theorem dX10_takeRead_9 : decode cX10_takeRead 9 = .ok (.aload_n 0, 1) := by decide +kernel
theorem dX10_takeRead_10 : decode cX10_takeRead 10 = .ok (.getfield 207, 3) := by decide +kernel
theorem dX10_takeRead_13 : decode cX10_takeRead 13 = .ok (.putfield 162, 3) := by decide +kernel
theorem dX10_takeRead_16 : decode cX10_takeRead 16 = .ok (.aload_n 0, 1) := by decide +kernel
theorem dX10_takeRead_17 : decode cX10_takeRead 17 = .ok (.aload_n 0, 1) := by decide +kernel
theorem dX10_takeRead_18 : decode cX10_takeRead 18 = .ok (.getfield 231, 3) := by decide +kernel
theorem dX10_takeRead_21 : decode cX10_takeRead 21 = .ok (.putfield 267, 3) := by decide +kernel
theorem dX10_takeRead_24 : decode cX10_takeRead 24 = .ok (.aload_n 0, 1) := by decide +kernel
theorem dX10_takeRead_25 : decode cX10_takeRead 25 = .ok (.aload_n 0, 1) := by decide +kernel
theorem dX10_takeRead_26 : decode cX10_takeRead 26 = .ok (.getfield 234, 3) := by decide +kernel
theorem dX10_takeRead_29 : decode cX10_takeRead 29 = .ok (.putfield 270, 3) := by decide +kernel
theorem dX10_takeRead_32 : decode cX10_takeRead 32 = .ok (.aload_n 0, 1) := by decide +kernel
theorem dX10_takeRead_33 : decode cX10_takeRead 33 = .ok (.aload_n 0, 1) := by decide +kernel
theorem dX10_takeRead_34 : decode cX10_takeRead 34 = .ok (.getfield 237, 3) := by decide +kernel
theorem dX10_takeRead_37 : decode cX10_takeRead 37 = .ok (.putfield 273, 3) := by decide +kernel
theorem dX10_takeRead_40 : decode cX10_takeRead 40 = .ok (.aload_n 0, 1) := by decide +kernel
theorem dX10_takeRead_41 : decode cX10_takeRead 41 = .ok (.aload_n 0, 1) := by decide +kernel
theorem dX10_takeRead_42 : decode cX10_takeRead 42 = .ok (.getfield 240, 3) := by decide +kernel
theorem dX10_takeRead_45 : decode cX10_takeRead 45 = .ok (.putfield 276, 3) := by decide +kernel
theorem dX10_takeRead_48 : decode cX10_takeRead 48 = .ok (.aload_n 0, 1) := by decide +kernel
theorem dX10_takeRead_49 : decode cX10_takeRead 49 = .ok (.aload_n 0, 1) := by decide +kernel
theorem dX10_takeRead_50 : decode cX10_takeRead 50 = .ok (.getfield 243, 3) := by decide +kernel
theorem dX10_takeRead_53 : decode cX10_takeRead 53 = .ok (.putfield 279, 3) := by decide +kernel
theorem dX10_takeRead_56 : decode cX10_takeRead 56 = .ok (.aload_n 0, 1) := by decide +kernel
theorem dX10_takeRead_57 : decode cX10_takeRead 57 = .ok (.iconst 1, 1) := by decide +kernel
theorem dX10_takeRead_58 : decode cX10_takeRead 58 = .ok (.putfield 55, 3) := by decide +kernel
theorem dX10_takeRead_61 : decode cX10_takeRead 61 = .ok (.iconst 0, 1) := by decide +kernel
theorem dX10_takeRead_62 : decode cX10_takeRead 62 = .ok (.istore_n 1, 1) := by decide +kernel
theorem dX10_takeRead_63 : decode cX10_takeRead 63 = .ok (.iload_n 1, 1) := by decide +kernel
theorem dX10_takeRead_64 : decode cX10_takeRead 64 = .ok (.bipush 24, 2) := by decide +kernel
theorem dX10_takeRead_66 : decode cX10_takeRead 66 = .ok (.if_icmp .ge 40, 3) := by decide +kernel
theorem dX10_takeRead_69 : decode cX10_takeRead 69 = .ok (.aload_n 0, 1) := by decide +kernel
theorem dX10_takeRead_70 : decode cX10_takeRead 70 = .ok (.getfield 7, 3) := by decide +kernel
theorem dX10_takeRead_73 : decode cX10_takeRead 73 = .ok (.iload_n 1, 1) := by decide +kernel
theorem dX10_takeRead_74 : decode cX10_takeRead 74 = .ok (.aload_n 0, 1) := by decide +kernel
theorem dX10_takeRead_75 : decode cX10_takeRead 75 = .ok (.getfield 77, 3) := by decide +kernel
theorem dX10_takeRead_78 : decode cX10_takeRead 78 = .ok (.iload_n 1, 1) := by decide +kernel
theorem dX10_takeRead_79 : decode cX10_takeRead 79 = .ok (.iaload, 1) := by decide +kernel
theorem dX10_takeRead_80 : decode cX10_takeRead 80 = .ok (.iastore, 1) := by decide +kernel
theorem dX10_takeRead_81 : decode cX10_takeRead 81 = .ok (.aload_n 0, 1) := by decide +kernel
theorem dX10_takeRead_82 : decode cX10_takeRead 82 = .ok (.getfield 13, 3) := by decide +kernel
theorem dX10_takeRead_85 : decode cX10_takeRead 85 = .ok (.iload_n 1, 1) := by decide +kernel
theorem dX10_takeRead_86 : decode cX10_takeRead 86 = .ok (.aload_n 0, 1) := by decide +kernel
theorem dX10_takeRead_87 : decode cX10_takeRead 87 = .ok (.getfield 80, 3) := by decide +kernel
theorem dX10_takeRead_90 : decode cX10_takeRead 90 = .ok (.iload_n 1, 1) := by decide +kernel
theorem dX10_takeRead_91 : decode cX10_takeRead 91 = .ok (.iaload, 1) := by decide +kernel
theorem dX10_takeRead_92 : decode cX10_takeRead 92 = .ok (.iastore, 1) := by decide +kernel
theorem dX10_takeRead_93 : decode cX10_takeRead 93 = .ok (.aload_n 0, 1) := by decide +kernel
theorem dX10_takeRead_94 : decode cX10_takeRead 94 = .ok (.getfield 62, 3) := by decide +kernel
theorem dX10_takeRead_97 : decode cX10_takeRead 97 = .ok (.iload_n 1, 1) := by decide +kernel
theorem dX10_takeRead_98 : decode cX10_takeRead 98 = .ok (.iconst 0, 1) := by decide +kernel
theorem dX10_takeRead_99 : decode cX10_takeRead 99 = .ok (.iastore, 1) := by decide +kernel
theorem dX10_takeRead_100 : decode cX10_takeRead 100 = .ok (.iinc 1 1, 3) := by decide +kernel
theorem dX10_takeRead_103 : decode cX10_takeRead 103 = .ok (.goto (-40), 3) := by decide +kernel
theorem dX10_takeRead_106 : decode cX10_takeRead 106 = .ok (.iconst 0, 1) := by decide +kernel
theorem dX10_takeRead_107 : decode cX10_takeRead 107 = .ok (.istore_n 1, 1) := by decide +kernel
theorem dX10_takeRead_108 : decode cX10_takeRead 108 = .ok (.iload_n 1, 1) := by decide +kernel
theorem dX10_takeRead_109 : decode cX10_takeRead 109 = .ok (.iconst 3, 1) := by decide +kernel
theorem dX10_takeRead_110 : decode cX10_takeRead 110 = .ok (.if_icmp .ge 93, 3) := by decide +kernel
theorem dX10_takeRead_113 : decode cX10_takeRead 113 = .ok (.aload_n 0, 1) := by decide +kernel
theorem dX10_takeRead_114 : decode cX10_takeRead 114 = .ok (.getfield 16, 3) := by decide +kernel
theorem dX10_takeRead_117 : decode cX10_takeRead 117 = .ok (.iload_n 1, 1) := by decide +kernel
theorem dX10_takeRead_118 : decode cX10_takeRead 118 = .ok (.iload_n 1, 1) := by decide +kernel
theorem dX10_takeRead_119 : decode cX10_takeRead 119 = .ok (.aload_n 0, 1) := by decide +kernel
theorem dX10_takeRead_120 : decode cX10_takeRead 120 = .ok (.getfield 267, 3) := by decide +kernel
theorem dX10_takeRead_123 : decode cX10_takeRead 123 = .ok (.if_icmp .ge 12, 3) := by decide +kernel
theorem dX10_takeRead_126 : decode cX10_takeRead 126 = .ok (.aload_n 0, 1) := by decide +kernel
theorem dX10_takeRead_127 : decode cX10_takeRead 127 = .ok (.getfield 86, 3) := by decide +kernel
theorem dX10_takeRead_130 : decode cX10_takeRead 130 = .ok (.iload_n 1, 1) := by decide +kernel
theorem dX10_takeRead_131 : decode cX10_takeRead 131 = .ok (.iaload, 1) := by decide +kernel
theorem dX10_takeRead_132 : decode cX10_takeRead 132 = .ok (.goto 4, 3) := by decide +kernel
theorem dX10_takeRead_135 : decode cX10_takeRead 135 = .ok (.iconst 1, 1) := by decide +kernel
theorem dX10_takeRead_136 : decode cX10_takeRead 136 = .ok (.iastore, 1) := by decide +kernel
theorem dX10_takeRead_137 : decode cX10_takeRead 137 = .ok (.aload_n 0, 1) := by decide +kernel
theorem dX10_takeRead_138 : decode cX10_takeRead 138 = .ok (.getfield 19, 3) := by decide +kernel
theorem dX10_takeRead_141 : decode cX10_takeRead 141 = .ok (.iload_n 1, 1) := by decide +kernel
theorem dX10_takeRead_142 : decode cX10_takeRead 142 = .ok (.aload_n 0, 1) := by decide +kernel
theorem dX10_takeRead_143 : decode cX10_takeRead 143 = .ok (.getfield 89, 3) := by decide +kernel
theorem dX10_takeRead_146 : decode cX10_takeRead 146 = .ok (.iload_n 1, 1) := by decide +kernel
theorem dX10_takeRead_147 : decode cX10_takeRead 147 = .ok (.iaload, 1) := by decide +kernel
theorem dX10_takeRead_148 : decode cX10_takeRead 148 = .ok (.iastore, 1) := by decide +kernel
theorem dX10_takeRead_149 : decode cX10_takeRead 149 = .ok (.aload_n 0, 1) := by decide +kernel
theorem dX10_takeRead_150 : decode cX10_takeRead 150 = .ok (.getfield 22, 3) := by decide +kernel
theorem dX10_takeRead_153 : decode cX10_takeRead 153 = .ok (.iload_n 1, 1) := by decide +kernel
theorem dX10_takeRead_154 : decode cX10_takeRead 154 = .ok (.aload_n 0, 1) := by decide +kernel
theorem dX10_takeRead_155 : decode cX10_takeRead 155 = .ok (.getfield 92, 3) := by decide +kernel
theorem dX10_takeRead_158 : decode cX10_takeRead 158 = .ok (.iload_n 1, 1) := by decide +kernel
theorem dX10_takeRead_159 : decode cX10_takeRead 159 = .ok (.iaload, 1) := by decide +kernel
theorem dX10_takeRead_160 : decode cX10_takeRead 160 = .ok (.iastore, 1) := by decide +kernel
theorem dX10_takeRead_161 : decode cX10_takeRead 161 = .ok (.aload_n 0, 1) := by decide +kernel
theorem dX10_takeRead_162 : decode cX10_takeRead 162 = .ok (.getfield 59, 3) := by decide +kernel
theorem dX10_takeRead_165 : decode cX10_takeRead 165 = .ok (.iload_n 1, 1) := by decide +kernel
theorem dX10_takeRead_166 : decode cX10_takeRead 166 = .ok (.iconst 0, 1) := by decide +kernel
theorem dX10_takeRead_167 : decode cX10_takeRead 167 = .ok (.iastore, 1) := by decide +kernel
theorem dX10_takeRead_168 : decode cX10_takeRead 168 = .ok (.aload_n 0, 1) := by decide +kernel
theorem dX10_takeRead_169 : decode cX10_takeRead 169 = .ok (.aload_n 0, 1) := by decide +kernel
theorem dX10_takeRead_170 : decode cX10_takeRead 170 = .ok (.getfield 55, 3) := by decide +kernel
theorem dX10_takeRead_173 : decode cX10_takeRead 173 = .ok (.aload_n 0, 1) := by decide +kernel
theorem dX10_takeRead_174 : decode cX10_takeRead 174 = .ok (.getfield 55, 3) := by decide +kernel
theorem dX10_takeRead_177 : decode cX10_takeRead 177 = .ok (.aload_n 0, 1) := by decide +kernel
theorem dX10_takeRead_178 : decode cX10_takeRead 178 = .ok (.getfield 16, 3) := by decide +kernel
theorem dX10_takeRead_181 : decode cX10_takeRead 181 = .ok (.iload_n 1, 1) := by decide +kernel
theorem dX10_takeRead_182 : decode cX10_takeRead 182 = .ok (.iaload, 1) := by decide +kernel
theorem dX10_takeRead_183 : decode cX10_takeRead 183 = .ok (.invokestatic 282, 3) := by decide +kernel
theorem dX10_takeRead_186 : decode cX10_takeRead 186 = .ok (.idiv, 1) := by decide +kernel
theorem dX10_takeRead_187 : decode cX10_takeRead 187 = .ok (.aload_n 0, 1) := by decide +kernel
theorem dX10_takeRead_188 : decode cX10_takeRead 188 = .ok (.getfield 16, 3) := by decide +kernel
theorem dX10_takeRead_191 : decode cX10_takeRead 191 = .ok (.iload_n 1, 1) := by decide +kernel
theorem dX10_takeRead_192 : decode cX10_takeRead 192 = .ok (.iaload, 1) := by decide +kernel
theorem dX10_takeRead_193 : decode cX10_takeRead 193 = .ok (.imul, 1) := by decide +kernel
theorem dX10_takeRead_194 : decode cX10_takeRead 194 = .ok (.putfield 55, 3) := by decide +kernel
theorem dX10_takeRead_197 : decode cX10_takeRead 197 = .ok (.iinc 1 1, 3) := by decide +kernel
theorem dX10_takeRead_200 : decode cX10_takeRead 200 = .ok (.goto (-92), 3) := by decide +kernel
theorem dX10_takeRead_203 : decode cX10_takeRead 203 = .ok (.iconst 0, 1) := by decide +kernel
theorem dX10_takeRead_204 : decode cX10_takeRead 204 = .ok (.istore_n 1, 1) := by decide +kernel
theorem dX10_takeRead_205 : decode cX10_takeRead 205 = .ok (.iload_n 1, 1) := by decide +kernel
theorem dX10_takeRead_206 : decode cX10_takeRead 206 = .ok (.bipush 27, 2) := by decide +kernel
theorem dX10_takeRead_208 : decode cX10_takeRead 208 = .ok (.if_icmp .ge 21, 3) := by decide +kernel
theorem dX10_takeRead_211 : decode cX10_takeRead 211 = .ok (.aload_n 0, 1) := by decide +kernel
theorem dX10_takeRead_212 : decode cX10_takeRead 212 = .ok (.getfield 25, 3) := by decide +kernel
theorem dX10_takeRead_215 : decode cX10_takeRead 215 = .ok (.iload_n 1, 1) := by decide +kernel
theorem dX10_takeRead_216 : decode cX10_takeRead 216 = .ok (.aload_n 0, 1) := by decide +kernel
theorem dX10_takeRead_217 : decode cX10_takeRead 217 = .ok (.getfield 95, 3) := by decide +kernel
theorem dX10_takeRead_220 : decode cX10_takeRead 220 = .ok (.iload_n 1, 1) := by decide +kernel
theorem dX10_takeRead_221 : decode cX10_takeRead 221 = .ok (.iaload, 1) := by decide +kernel
theorem dX10_takeRead_222 : decode cX10_takeRead 222 = .ok (.iastore, 1) := by decide +kernel
theorem dX10_takeRead_223 : decode cX10_takeRead 223 = .ok (.iinc 1 1, 3) := by decide +kernel
theorem dX10_takeRead_226 : decode cX10_takeRead 226 = .ok (.goto (-21), 3) := by decide +kernel
theorem dX10_takeRead_229 : decode cX10_takeRead 229 = .ok (.iconst 0, 1) := by decide +kernel
theorem dX10_takeRead_230 : decode cX10_takeRead 230 = .ok (.istore_n 1, 1) := by decide +kernel
theorem dX10_takeRead_231 : decode cX10_takeRead 231 = .ok (.iload_n 1, 1) := by decide +kernel
theorem dX10_takeRead_232 : decode cX10_takeRead 232 = .ok (.bipush 6, 2) := by decide +kernel
theorem dX10_takeRead_234 : decode cX10_takeRead 234 = .ok (.if_icmp .ge 79, 3) := by decide +kernel
theorem dX10_takeRead_237 : decode cX10_takeRead 237 = .ok (.aload_n 0, 1) := by decide +kernel
theorem dX10_takeRead_238 : decode cX10_takeRead 238 = .ok (.getfield 28, 3) := by decide +kernel
theorem dX10_takeRead_241 : decode cX10_takeRead 241 = .ok (.iload_n 1, 1) := by decide +kernel
theorem dX10_takeRead_242 : decode cX10_takeRead 242 = .ok (.aload_n 0, 1) := by decide +kernel
theorem dX10_takeRead_243 : decode cX10_takeRead 243 = .ok (.getfield 98, 3) := by decide +kernel
theorem dX10_takeRead_246 : decode cX10_takeRead 246 = .ok (.iload_n 1, 1) := by decide +kernel
theorem dX10_takeRead_247 : decode cX10_takeRead 247 = .ok (.iaload, 1) := by decide +kernel
theorem dX10_takeRead_248 : decode cX10_takeRead 248 = .ok (.iastore, 1) := by decide +kernel
theorem dX10_takeRead_249 : decode cX10_takeRead 249 = .ok (.aload_n 0, 1) := by decide +kernel
theorem dX10_takeRead_250 : decode cX10_takeRead 250 = .ok (.getfield 31, 3) := by decide +kernel
theorem dX10_takeRead_253 : decode cX10_takeRead 253 = .ok (.iload_n 1, 1) := by decide +kernel
theorem dX10_takeRead_254 : decode cX10_takeRead 254 = .ok (.aload_n 0, 1) := by decide +kernel
theorem dX10_takeRead_255 : decode cX10_takeRead 255 = .ok (.getfield 101, 3) := by decide +kernel
theorem dX10_takeRead_258 : decode cX10_takeRead 258 = .ok (.iload_n 1, 1) := by decide +kernel
theorem dX10_takeRead_259 : decode cX10_takeRead 259 = .ok (.iaload, 1) := by decide +kernel
theorem dX10_takeRead_260 : decode cX10_takeRead 260 = .ok (.iastore, 1) := by decide +kernel
theorem dX10_takeRead_261 : decode cX10_takeRead 261 = .ok (.aload_n 0, 1) := by decide +kernel
theorem dX10_takeRead_262 : decode cX10_takeRead 262 = .ok (.getfield 65, 3) := by decide +kernel
theorem dX10_takeRead_265 : decode cX10_takeRead 265 = .ok (.iload_n 1, 1) := by decide +kernel
theorem dX10_takeRead_266 : decode cX10_takeRead 266 = .ok (.iconst 0, 1) := by decide +kernel
theorem dX10_takeRead_267 : decode cX10_takeRead 267 = .ok (.iastore, 1) := by decide +kernel
theorem dX10_takeRead_268 : decode cX10_takeRead 268 = .ok (.aload_n 0, 1) := by decide +kernel
theorem dX10_takeRead_269 : decode cX10_takeRead 269 = .ok (.getfield 34, 3) := by decide +kernel
theorem dX10_takeRead_272 : decode cX10_takeRead 272 = .ok (.iload_n 1, 1) := by decide +kernel
theorem dX10_takeRead_273 : decode cX10_takeRead 273 = .ok (.aload_n 0, 1) := by decide +kernel
theorem dX10_takeRead_274 : decode cX10_takeRead 274 = .ok (.getfield 104, 3) := by decide +kernel
theorem dX10_takeRead_277 : decode cX10_takeRead 277 = .ok (.iload_n 1, 1) := by decide +kernel
theorem dX10_takeRead_278 : decode cX10_takeRead 278 = .ok (.iaload, 1) := by decide +kernel
theorem dX10_takeRead_279 : decode cX10_takeRead 279 = .ok (.iastore, 1) := by decide +kernel
theorem dX10_takeRead_280 : decode cX10_takeRead 280 = .ok (.aload_n 0, 1) := by decide +kernel
theorem dX10_takeRead_281 : decode cX10_takeRead 281 = .ok (.getfield 37, 3) := by decide +kernel
theorem dX10_takeRead_284 : decode cX10_takeRead 284 = .ok (.iload_n 1, 1) := by decide +kernel
theorem dX10_takeRead_285 : decode cX10_takeRead 285 = .ok (.aload_n 0, 1) := by decide +kernel
theorem dX10_takeRead_286 : decode cX10_takeRead 286 = .ok (.getfield 107, 3) := by decide +kernel
theorem dX10_takeRead_289 : decode cX10_takeRead 289 = .ok (.iload_n 1, 1) := by decide +kernel
theorem dX10_takeRead_290 : decode cX10_takeRead 290 = .ok (.iaload, 1) := by decide +kernel
theorem dX10_takeRead_291 : decode cX10_takeRead 291 = .ok (.iastore, 1) := by decide +kernel
theorem dX10_takeRead_292 : decode cX10_takeRead 292 = .ok (.aload_n 0, 1) := by decide +kernel
theorem dX10_takeRead_293 : decode cX10_takeRead 293 = .ok (.getfield 40, 3) := by decide +kernel
theorem dX10_takeRead_296 : decode cX10_takeRead 296 = .ok (.iload_n 1, 1) := by decide +kernel
theorem dX10_takeRead_297 : decode cX10_takeRead 297 = .ok (.aload_n 0, 1) := by decide +kernel
theorem dX10_takeRead_298 : decode cX10_takeRead 298 = .ok (.getfield 110, 3) := by decide +kernel
theorem dX10_takeRead_301 : decode cX10_takeRead 301 = .ok (.iload_n 1, 1) := by decide +kernel
theorem dX10_takeRead_302 : decode cX10_takeRead 302 = .ok (.iaload, 1) := by decide +kernel
theorem dX10_takeRead_303 : decode cX10_takeRead 303 = .ok (.bipush 30, 2) := by decide +kernel
theorem dX10_takeRead_305 : decode cX10_takeRead 305 = .ok (.isub, 1) := by decide +kernel
theorem dX10_takeRead_306 : decode cX10_takeRead 306 = .ok (.iastore, 1) := by decide +kernel
theorem dX10_takeRead_307 : decode cX10_takeRead 307 = .ok (.iinc 1 1, 3) := by decide +kernel
theorem dX10_takeRead_310 : decode cX10_takeRead 310 = .ok (.goto (-79), 3) := by decide +kernel
theorem dX10_takeRead_313 : decode cX10_takeRead 313 = .ok (.iconst 0, 1) := by decide +kernel
theorem dX10_takeRead_314 : decode cX10_takeRead 314 = .ok (.istore_n 1, 1) := by decide +kernel
theorem dX10_takeRead_315 : decode cX10_takeRead 315 = .ok (.iload_n 1, 1) := by decide +kernel
theorem dX10_takeRead_316 : decode cX10_takeRead 316 = .ok (.iconst 5, 1) := by decide +kernel
theorem dX10_takeRead_317 : decode cX10_takeRead 317 = .ok (.if_icmp .ge 33, 3) := by decide +kernel
theorem dX10_takeRead_320 : decode cX10_takeRead 320 = .ok (.aload_n 0, 1) := by decide +kernel
theorem dX10_takeRead_321 : decode cX10_takeRead 321 = .ok (.getfield 43, 3) := by decide +kernel
theorem dX10_takeRead_324 : decode cX10_takeRead 324 = .ok (.iload_n 1, 1) := by decide +kernel
theorem dX10_takeRead_325 : decode cX10_takeRead 325 = .ok (.aload_n 0, 1) := by decide +kernel
theorem dX10_takeRead_326 : decode cX10_takeRead 326 = .ok (.getfield 113, 3) := by decide +kernel
theorem dX10_takeRead_329 : decode cX10_takeRead 329 = .ok (.iload_n 1, 1) := by decide +kernel
theorem dX10_takeRead_330 : decode cX10_takeRead 330 = .ok (.iaload, 1) := by decide +kernel
theorem dX10_takeRead_331 : decode cX10_takeRead 331 = .ok (.iastore, 1) := by decide +kernel
theorem dX10_takeRead_332 : decode cX10_takeRead 332 = .ok (.aload_n 0, 1) := by decide +kernel
theorem dX10_takeRead_333 : decode cX10_takeRead 333 = .ok (.getfield 46, 3) := by decide +kernel
theorem dX10_takeRead_336 : decode cX10_takeRead 336 = .ok (.iload_n 1, 1) := by decide +kernel
theorem dX10_takeRead_337 : decode cX10_takeRead 337 = .ok (.aload_n 0, 1) := by decide +kernel
theorem dX10_takeRead_338 : decode cX10_takeRead 338 = .ok (.getfield 116, 3) := by decide +kernel
theorem dX10_takeRead_341 : decode cX10_takeRead 341 = .ok (.iload_n 1, 1) := by decide +kernel
theorem dX10_takeRead_342 : decode cX10_takeRead 342 = .ok (.iaload, 1) := by decide +kernel
theorem dX10_takeRead_343 : decode cX10_takeRead 343 = .ok (.iastore, 1) := by decide +kernel
theorem dX10_takeRead_344 : decode cX10_takeRead 344 = .ok (.iinc 1 1, 3) := by decide +kernel
theorem dX10_takeRead_347 : decode cX10_takeRead 347 = .ok (.goto (-32), 3) := by decide +kernel
theorem dX10_takeRead_350 : decode cX10_takeRead 350 = .ok (.iconst 0, 1) := by decide +kernel
theorem dX10_takeRead_351 : decode cX10_takeRead 351 = .ok (.istore_n 1, 1) := by decide +kernel
theorem dX10_takeRead_352 : decode cX10_takeRead 352 = .ok (.iload_n 1, 1) := by decide +kernel
theorem dX10_takeRead_353 : decode cX10_takeRead 353 = .ok (.iconst 4, 1) := by decide +kernel
theorem dX10_takeRead_354 : decode cX10_takeRead 354 = .ok (.if_icmp .ge 39, 3) := by decide +kernel
theorem dX10_takeRead_357 : decode cX10_takeRead 357 = .ok (.aload_n 0, 1) := by decide +kernel
theorem dX10_takeRead_358 : decode cX10_takeRead 358 = .ok (.getfield 49, 3) := by decide +kernel
theorem dX10_takeRead_361 : decode cX10_takeRead 361 = .ok (.iload_n 1, 1) := by decide +kernel
theorem dX10_takeRead_362 : decode cX10_takeRead 362 = .ok (.aload_n 0, 1) := by decide +kernel
theorem dX10_takeRead_363 : decode cX10_takeRead 363 = .ok (.getfield 119, 3) := by decide +kernel
theorem dX10_takeRead_366 : decode cX10_takeRead 366 = .ok (.iload_n 1, 1) := by decide +kernel
theorem dX10_takeRead_367 : decode cX10_takeRead 367 = .ok (.iaload, 1) := by decide +kernel
theorem dX10_takeRead_368 : decode cX10_takeRead 368 = .ok (.bipush 100, 2) := by decide +kernel
theorem dX10_takeRead_370 : decode cX10_takeRead 370 = .ok (.isub, 1) := by decide +kernel
theorem dX10_takeRead_371 : decode cX10_takeRead 371 = .ok (.iastore, 1) := by decide +kernel
theorem dX10_takeRead_372 : decode cX10_takeRead 372 = .ok (.aload_n 0, 1) := by decide +kernel
theorem dX10_takeRead_373 : decode cX10_takeRead 373 = .ok (.getfield 52, 3) := by decide +kernel
theorem dX10_takeRead_376 : decode cX10_takeRead 376 = .ok (.iload_n 1, 1) := by decide +kernel
theorem dX10_takeRead_377 : decode cX10_takeRead 377 = .ok (.aload_n 0, 1) := by decide +kernel
theorem dX10_takeRead_378 : decode cX10_takeRead 378 = .ok (.getfield 122, 3) := by decide +kernel
theorem dX10_takeRead_381 : decode cX10_takeRead 381 = .ok (.iload_n 1, 1) := by decide +kernel
theorem dX10_takeRead_382 : decode cX10_takeRead 382 = .ok (.iaload, 1) := by decide +kernel
theorem dX10_takeRead_383 : decode cX10_takeRead 383 = .ok (.bipush 100, 2) := by decide +kernel
theorem dX10_takeRead_385 : decode cX10_takeRead 385 = .ok (.isub, 1) := by decide +kernel
theorem dX10_takeRead_386 : decode cX10_takeRead 386 = .ok (.iastore, 1) := by decide +kernel
theorem dX10_takeRead_387 : decode cX10_takeRead 387 = .ok (.iinc 1 1, 3) := by decide +kernel
theorem dX10_takeRead_390 : decode cX10_takeRead 390 = .ok (.goto (-38), 3) := by decide +kernel
theorem dX10_takeRead_393 : decode cX10_takeRead 393 = .ok (.return_, 1) := by decide +kernel
theorem dX10_ground_0 : decode cX10_ground 0 = .ok (.aload_n 0, 1) := by decide +kernel
theorem dX10_ground_1 : decode cX10_ground 1 = .ok (.iconst (-1), 1) := by decide +kernel
theorem dX10_ground_2 : decode cX10_ground 2 = .ok (.putfield 74, 3) := by decide +kernel
theorem dX10_ground_5 : decode cX10_ground 5 = .ok (.aload_n 0, 1) := by decide +kernel
theorem dX10_ground_6 : decode cX10_ground 6 = .ok (.iconst 0, 1) := by decide +kernel
theorem dX10_ground_7 : decode cX10_ground 7 = .ok (.putfield 180, 3) := by decide +kernel
theorem dX10_ground_10 : decode cX10_ground 10 = .ok (.aload_n 0, 1) := by decide +kernel
theorem dX10_ground_11 : decode cX10_ground 11 = .ok (.iconst 0, 1) := by decide +kernel
theorem dX10_ground_12 : decode cX10_ground 12 = .ok (.putfield 204, 3) := by decide +kernel
theorem dX10_ground_15 : decode cX10_ground 15 = .ok (.aload_n 0, 1) := by decide +kernel
theorem dX10_ground_16 : decode cX10_ground 16 = .ok (.iconst 0, 1) := by decide +kernel
theorem dX10_ground_17 : decode cX10_ground 17 = .ok (.putfield 207, 3) := by decide +kernel
theorem dX10_ground_20 : decode cX10_ground 20 = .ok (.aload_n 0, 1) := by decide +kernel
theorem dX10_ground_21 : decode cX10_ground 21 = .ok (.iconst 0, 1) := by decide +kernel
theorem dX10_ground_22 : decode cX10_ground 22 = .ok (.putfield 220, 3) := by decide +kernel
theorem dX10_ground_25 : decode cX10_ground 25 = .ok (.aload_n 0, 1) := by decide +kernel
theorem dX10_ground_26 : decode cX10_ground 26 = .ok (.iconst 0, 1) := by decide +kernel
theorem dX10_ground_27 : decode cX10_ground 27 = .ok (.putfield 231, 3) := by decide +kernel
theorem dX10_ground_30 : decode cX10_ground 30 = .ok (.aload_n 0, 1) := by decide +kernel
theorem dX10_ground_31 : decode cX10_ground 31 = .ok (.iconst 0, 1) := by decide +kernel
theorem dX10_ground_32 : decode cX10_ground 32 = .ok (.putfield 234, 3) := by decide +kernel
theorem dX10_ground_35 : decode cX10_ground 35 = .ok (.aload_n 0, 1) := by decide +kernel
theorem dX10_ground_36 : decode cX10_ground 36 = .ok (.iconst 0, 1) := by decide +kernel
theorem dX10_ground_37 : decode cX10_ground 37 = .ok (.putfield 237, 3) := by decide +kernel
theorem dX10_ground_40 : decode cX10_ground 40 = .ok (.aload_n 0, 1) := by decide +kernel
theorem dX10_ground_41 : decode cX10_ground 41 = .ok (.iconst 0, 1) := by decide +kernel
theorem dX10_ground_42 : decode cX10_ground 42 = .ok (.putfield 240, 3) := by decide +kernel
theorem dX10_ground_45 : decode cX10_ground 45 = .ok (.aload_n 0, 1) := by decide +kernel
theorem dX10_ground_46 : decode cX10_ground 46 = .ok (.iconst 0, 1) := by decide +kernel
theorem dX10_ground_47 : decode cX10_ground 47 = .ok (.putfield 243, 3) := by decide +kernel
theorem dX10_ground_50 : decode cX10_ground 50 = .ok (.iconst 0, 1) := by decide +kernel
theorem dX10_ground_51 : decode cX10_ground 51 = .ok (.istore_n 1, 1) := by decide +kernel
theorem dX10_ground_52 : decode cX10_ground 52 = .ok (.iload_n 1, 1) := by decide +kernel
theorem dX10_ground_53 : decode cX10_ground 53 = .ok (.ifCond .ne 18, 3) := by decide +kernel
theorem dX10_ground_56 : decode cX10_ground 56 = .ok (.aload_n 0, 1) := by decide +kernel
theorem dX10_ground_57 : decode cX10_ground 57 = .ok (.invokevirtual 183, 3) := by decide +kernel
theorem dX10_ground_60 : decode cX10_ground 60 = .ok (.ifCond .lt 11, 3) := by decide +kernel
theorem dX10_ground_63 : decode cX10_ground 63 = .ok (.aload_n 0, 1) := by decide +kernel
theorem dX10_ground_64 : decode cX10_ground 64 = .ok (.invokevirtual 285, 3) := by decide +kernel
theorem dX10_ground_67 : decode cX10_ground 67 = .ok (.istore_n 1, 1) := by decide +kernel
theorem dX10_ground_68 : decode cX10_ground 68 = .ok (.goto (-16), 3) := by decide +kernel
theorem dX10_ground_71 : decode cX10_ground 71 = .ok (.aload_n 0, 1) := by decide +kernel
theorem dX10_ground_72 : decode cX10_ground 72 = .ok (.iconst 0, 1) := by decide +kernel
theorem dX10_ground_73 : decode cX10_ground 73 = .ok (.putfield 176, 3) := by decide +kernel
theorem dX10_ground_76 : decode cX10_ground 76 = .ok (.iload_n 1, 1) := by decide +kernel
theorem dX10_ground_77 : decode cX10_ground 77 = .ok (.ifCond .le 8, 3) := by decide +kernel
theorem dX10_ground_80 : decode cX10_ground 80 = .ok (.bipush (-10), 2) := by decide +kernel
theorem dX10_ground_82 : decode cX10_ground 82 = .ok (.iload_n 1, 1) := by decide +kernel
theorem dX10_ground_83 : decode cX10_ground 83 = .ok (.isub, 1) := by decide +kernel
theorem dX10_ground_84 : decode cX10_ground 84 = .ok (.ireturn, 1) := by decide +kernel
theorem dX10_ground_85 : decode cX10_ground 85 = .ok (.aload_n 0, 1) := by decide +kernel
theorem dX10_ground_86 : decode cX10_ground 86 = .ok (.invokevirtual 288, 3) := by decide +kernel
theorem dX10_ground_89 : decode cX10_ground 89 = .ok (.aload_n 0, 1) := by decide +kernel
theorem dX10_ground_90 : decode cX10_ground 90 = .ok (.iconst 0, 1) := by decide +kernel
theorem dX10_ground_91 : decode cX10_ground 91 = .ok (.putfield 291, 3) := by decide +kernel
theorem dX10_ground_94 : decode cX10_ground 94 = .ok (.aload_n 0, 1) := by decide +kernel
theorem dX10_ground_95 : decode cX10_ground 95 = .ok (.iconst 0, 1) := by decide +kernel
theorem dX10_ground_96 : decode cX10_ground 96 = .ok (.putfield 294, 3) := by decide +kernel
theorem dX10_ground_99 : decode cX10_ground 99 = .ok (.aload_n 0, 1) := by decide +kernel
theorem dX10_ground_100 : decode cX10_ground 100 = .ok (.iconst 0, 1) := by decide +kernel
theorem dX10_ground_101 : decode cX10_ground 101 = .ok (.putfield 297, 3) := by decide +kernel
theorem dX10_ground_104 : decode cX10_ground 104 = .ok (.aload_n 0, 1) := by decide +kernel
theorem dX10_ground_105 : decode cX10_ground 105 = .ok (.bipush 20, 2) := by decide +kernel
theorem dX10_ground_107 : decode cX10_ground 107 = .ok (.putfield 68, 3) := by decide +kernel
theorem dX10_ground_110 : decode cX10_ground 110 = .ok (.aload_n 0, 1) := by decide +kernel
theorem dX10_ground_111 : decode cX10_ground 111 = .ok (.iconst 0, 1) := by decide +kernel
theorem dX10_ground_112 : decode cX10_ground 112 = .ok (.putfield 300, 3) := by decide +kernel
theorem dX10_ground_115 : decode cX10_ground 115 = .ok (.aload_n 0, 1) := by decide +kernel
theorem dX10_ground_116 : decode cX10_ground 116 = .ok (.iconst 0, 1) := by decide +kernel
theorem dX10_ground_117 : decode cX10_ground 117 = .ok (.putfield 303, 3) := by decide +kernel
theorem dX10_ground_120 : decode cX10_ground 120 = .ok (.aload_n 0, 1) := by decide +kernel
theorem dX10_ground_121 : decode cX10_ground 121 = .ok (.getfield 155, 3) := by decide +kernel
theorem dX10_ground_124 : decode cX10_ground 124 = .ok (.iconst 0, 1) := by decide +kernel
theorem dX10_ground_125 : decode cX10_ground 125 = .ok (.iconst 0, 1) := by decide +kernel
theorem dX10_ground_126 : decode cX10_ground 126 = .ok (.bastore, 1) := by decide +kernel
theorem dX10_ground_127 : decode cX10_ground 127 = .ok (.aload_n 0, 1) := by decide +kernel
theorem dX10_ground_128 : decode cX10_ground 128 = .ok (.getfield 155, 3) := by decide +kernel
theorem dX10_ground_131 : decode cX10_ground 131 = .ok (.iconst 1, 1) := by decide +kernel
theorem dX10_ground_132 : decode cX10_ground 132 = .ok (.iconst 0, 1) := by decide +kernel
theorem dX10_ground_133 : decode cX10_ground 133 = .ok (.bastore, 1) := by decide +kernel
theorem dX10_ground_134 : decode cX10_ground 134 = .ok (.aload_n 0, 1) := by decide +kernel
theorem dX10_ground_135 : decode cX10_ground 135 = .ok (.invokevirtual 306, 3) := by decide +kernel
theorem dX10_ground_138 : decode cX10_ground 138 = .ok (.ireturn, 1) := by decide +kernel
theorem dX10_fault_0 : decode cX10_fault 0 = .ok (.aload_n 0, 1) := by decide +kernel
theorem dX10_fault_1 : decode cX10_fault 1 = .ok (.getfield 74, 3) := by decide +kernel
theorem dX10_fault_4 : decode cX10_fault 4 = .ok (.ireturn, 1) := by decide +kernel
theorem dX10_partOf_0 : decode cX10_partOf 0 = .ok (.iload_n 1, 1) := by decide +kernel
theorem dX10_partOf_1 : decode cX10_partOf 1 = .ok (.aload_n 0, 1) := by decide +kernel
theorem dX10_partOf_2 : decode cX10_partOf 2 = .ok (.getfield 125, 3) := by decide +kernel
theorem dX10_partOf_5 : decode cX10_partOf 5 = .ok (.if_icmp .ne 7, 3) := by decide +kernel
theorem dX10_partOf_8 : decode cX10_partOf 8 = .ok (.iconst 0, 1) := by decide +kernel
theorem dX10_partOf_9 : decode cX10_partOf 9 = .ok (.goto 56, 3) := by decide +kernel
theorem dX10_partOf_12 : decode cX10_partOf 12 = .ok (.aload_n 0, 1) := by decide +kernel
theorem dX10_partOf_13 : decode cX10_partOf 13 = .ok (.getfield 25, 3) := by decide +kernel
theorem dX10_partOf_16 : decode cX10_partOf 16 = .ok (.bipush 9, 2) := by decide +kernel
theorem dX10_partOf_18 : decode cX10_partOf 18 = .ok (.iload_n 1, 1) := by decide +kernel
theorem dX10_partOf_19 : decode cX10_partOf 19 = .ok (.imul, 1) := by decide +kernel
theorem dX10_partOf_20 : decode cX10_partOf 20 = .ok (.iload_n 3, 1) := by decide +kernel
theorem dX10_partOf_21 : decode cX10_partOf 21 = .ok (.aload_n 0, 1) := by decide +kernel
theorem dX10_partOf_22 : decode cX10_partOf 22 = .ok (.getfield 59, 3) := by decide +kernel
theorem dX10_partOf_25 : decode cX10_partOf 25 = .ok (.iload_n 1, 1) := by decide +kernel
theorem dX10_partOf_26 : decode cX10_partOf 26 = .ok (.iaload, 1) := by decide +kernel
theorem dX10_partOf_27 : decode cX10_partOf 27 = .ok (.iadd, 1) := by decide +kernel
theorem dX10_partOf_28 : decode cX10_partOf 28 = .ok (.aload_n 0, 1) := by decide +kernel
theorem dX10_partOf_29 : decode cX10_partOf 29 = .ok (.getfield 19, 3) := by decide +kernel
theorem dX10_partOf_32 : decode cX10_partOf 32 = .ok (.iload_n 1, 1) := by decide +kernel
theorem dX10_partOf_33 : decode cX10_partOf 33 = .ok (.iaload, 1) := by decide +kernel
theorem dX10_partOf_34 : decode cX10_partOf 34 = .ok (.iload_n 2, 1) := by decide +kernel
theorem dX10_partOf_35 : decode cX10_partOf 35 = .ok (.aload_n 0, 1) := by decide +kernel
theorem dX10_partOf_36 : decode cX10_partOf 36 = .ok (.getfield 159, 3) := by decide +kernel
theorem dX10_partOf_39 : decode cX10_partOf 39 = .ok (.irem, 1) := by decide +kernel
theorem dX10_partOf_40 : decode cX10_partOf 40 = .ok (.imul, 1) := by decide +kernel
theorem dX10_partOf_41 : decode cX10_partOf 41 = .ok (.iadd, 1) := by decide +kernel
theorem dX10_partOf_42 : decode cX10_partOf 42 = .ok (.aload_n 0, 1) := by decide +kernel
theorem dX10_partOf_43 : decode cX10_partOf 43 = .ok (.getfield 22, 3) := by decide +kernel
theorem dX10_partOf_46 : decode cX10_partOf 46 = .ok (.iload_n 1, 1) := by decide +kernel
theorem dX10_partOf_47 : decode cX10_partOf 47 = .ok (.iaload, 1) := by decide +kernel
theorem dX10_partOf_48 : decode cX10_partOf 48 = .ok (.iload_n 2, 1) := by decide +kernel
theorem dX10_partOf_49 : decode cX10_partOf 49 = .ok (.aload_n 0, 1) := by decide +kernel
theorem dX10_partOf_50 : decode cX10_partOf 50 = .ok (.getfield 159, 3) := by decide +kernel
theorem dX10_partOf_53 : decode cX10_partOf 53 = .ok (.idiv, 1) := by decide +kernel
theorem dX10_partOf_54 : decode cX10_partOf 54 = .ok (.imul, 1) := by decide +kernel
theorem dX10_partOf_55 : decode cX10_partOf 55 = .ok (.iadd, 1) := by decide +kernel
theorem dX10_partOf_56 : decode cX10_partOf 56 = .ok (.aload_n 0, 1) := by decide +kernel
theorem dX10_partOf_57 : decode cX10_partOf 57 = .ok (.getfield 16, 3) := by decide +kernel
theorem dX10_partOf_60 : decode cX10_partOf 60 = .ok (.iload_n 1, 1) := by decide +kernel
theorem dX10_partOf_61 : decode cX10_partOf 61 = .ok (.iaload, 1) := by decide +kernel
theorem dX10_partOf_62 : decode cX10_partOf 62 = .ok (.irem, 1) := by decide +kernel
theorem dX10_partOf_63 : decode cX10_partOf 63 = .ok (.iadd, 1) := by decide +kernel
theorem dX10_partOf_64 : decode cX10_partOf 64 = .ok (.iaload, 1) := by decide +kernel
theorem dX10_partOf_65 : decode cX10_partOf 65 = .ok (.ireturn, 1) := by decide +kernel
theorem dX10_pullAt_0 : decode cX10_pullAt 0 = .ok (.iconst 0, 1) := by decide +kernel
theorem dX10_pullAt_1 : decode cX10_pullAt 1 = .ok (.istore_n 3, 1) := by decide +kernel
theorem dX10_pullAt_2 : decode cX10_pullAt 2 = .ok (.iconst 0, 1) := by decide +kernel
theorem dX10_pullAt_3 : decode cX10_pullAt 3 = .ok (.istore 4, 2) := by decide +kernel
theorem dX10_pullAt_5 : decode cX10_pullAt 5 = .ok (.iload 4, 2) := by decide +kernel
theorem dX10_pullAt_7 : decode cX10_pullAt 7 = .ok (.aload_n 0, 1) := by decide +kernel
theorem dX10_pullAt_8 : decode cX10_pullAt 8 = .ok (.getfield 267, 3) := by decide +kernel
theorem dX10_pullAt_11 : decode cX10_pullAt 11 = .ok (.if_icmp .ge 20, 3) := by decide +kernel
theorem dX10_pullAt_14 : decode cX10_pullAt 14 = .ok (.iload_n 3, 1) := by decide +kernel
theorem dX10_pullAt_15 : decode cX10_pullAt 15 = .ok (.aload_n 0, 1) := by decide +kernel
theorem dX10_pullAt_16 : decode cX10_pullAt 16 = .ok (.iload 4, 2) := by decide +kernel
theorem dX10_pullAt_18 : decode cX10_pullAt 18 = .ok (.iload_n 1, 1) := by decide +kernel
theorem dX10_pullAt_19 : decode cX10_pullAt 19 = .ok (.iload_n 2, 1) := by decide +kernel
theorem dX10_pullAt_20 : decode cX10_pullAt 20 = .ok (.invokevirtual 309, 3) := by decide +kernel
theorem dX10_pullAt_23 : decode cX10_pullAt 23 = .ok (.iadd, 1) := by decide +kernel
theorem dX10_pullAt_24 : decode cX10_pullAt 24 = .ok (.istore_n 3, 1) := by decide +kernel
theorem dX10_pullAt_25 : decode cX10_pullAt 25 = .ok (.iinc 4 1, 3) := by decide +kernel
theorem dX10_pullAt_28 : decode cX10_pullAt 28 = .ok (.goto (-23), 3) := by decide +kernel
theorem dX10_pullAt_31 : decode cX10_pullAt 31 = .ok (.iload_n 3, 1) := by decide +kernel
theorem dX10_pullAt_32 : decode cX10_pullAt 32 = .ok (.ireturn, 1) := by decide +kernel
theorem dX10_stiffOf_0 : decode cX10_stiffOf 0 = .ok (.aload_n 0, 1) := by decide +kernel
theorem dX10_stiffOf_1 : decode cX10_stiffOf 1 = .ok (.getfield 13, 3) := by decide +kernel
theorem dX10_stiffOf_4 : decode cX10_stiffOf 4 = .ok (.iload_n 1, 1) := by decide +kernel
theorem dX10_stiffOf_5 : decode cX10_stiffOf 5 = .ok (.iaload, 1) := by decide +kernel
theorem dX10_stiffOf_6 : decode cX10_stiffOf 6 = .ok (.aload_n 0, 1) := by decide +kernel
theorem dX10_stiffOf_7 : decode cX10_stiffOf 7 = .ok (.getfield 62, 3) := by decide +kernel
theorem dX10_stiffOf_10 : decode cX10_stiffOf 10 = .ok (.iload_n 1, 1) := by decide +kernel
theorem dX10_stiffOf_11 : decode cX10_stiffOf 11 = .ok (.iaload, 1) := by decide +kernel
theorem dX10_stiffOf_12 : decode cX10_stiffOf 12 = .ok (.bipush 10, 2) := by decide +kernel
theorem dX10_stiffOf_14 : decode cX10_stiffOf 14 = .ok (.idiv, 1) := by decide +kernel
theorem dX10_stiffOf_15 : decode cX10_stiffOf 15 = .ok (.isub, 1) := by decide +kernel
theorem dX10_stiffOf_16 : decode cX10_stiffOf 16 = .ok (.istore_n 2, 1) := by decide +kernel
theorem dX10_stiffOf_17 : decode cX10_stiffOf 17 = .ok (.iload_n 2, 1) := by decide +kernel
theorem dX10_stiffOf_18 : decode cX10_stiffOf 18 = .ok (.ifCond .ge 7, 3) := by decide +kernel
theorem dX10_stiffOf_21 : decode cX10_stiffOf 21 = .ok (.iconst 0, 1) := by decide +kernel
theorem dX10_stiffOf_22 : decode cX10_stiffOf 22 = .ok (.goto 4, 3) := by decide +kernel
theorem dX10_stiffOf_25 : decode cX10_stiffOf 25 = .ok (.iload_n 2, 1) := by decide +kernel
theorem dX10_stiffOf_26 : decode cX10_stiffOf 26 = .ok (.ireturn, 1) := by decide +kernel
theorem dX10_heightAt_0 : decode cX10_heightAt 0 = .ok (.aload_n 0, 1) := by decide +kernel
theorem dX10_heightAt_1 : decode cX10_heightAt 1 = .ok (.getfield 7, 3) := by decide +kernel
theorem dX10_heightAt_4 : decode cX10_heightAt 4 = .ok (.iload_n 1, 1) := by decide +kernel
theorem dX10_heightAt_5 : decode cX10_heightAt 5 = .ok (.iaload, 1) := by decide +kernel
theorem dX10_heightAt_6 : decode cX10_heightAt 6 = .ok (.aload_n 0, 1) := by decide +kernel
theorem dX10_heightAt_7 : decode cX10_heightAt 7 = .ok (.iload_n 1, 1) := by decide +kernel
theorem dX10_heightAt_8 : decode cX10_heightAt 8 = .ok (.invokevirtual 313, 3) := by decide +kernel
theorem dX10_heightAt_11 : decode cX10_heightAt 11 = .ok (.aload_n 0, 1) := by decide +kernel
theorem dX10_heightAt_12 : decode cX10_heightAt 12 = .ok (.iload_n 1, 1) := by decide +kernel
theorem dX10_heightAt_13 : decode cX10_heightAt 13 = .ok (.iload_n 2, 1) := by decide +kernel
theorem dX10_heightAt_14 : decode cX10_heightAt 14 = .ok (.invokevirtual 317, 3) := by decide +kernel
theorem dX10_heightAt_17 : decode cX10_heightAt 17 = .ok (.imul, 1) := by decide +kernel
theorem dX10_heightAt_18 : decode cX10_heightAt 18 = .ok (.iadd, 1) := by decide +kernel
theorem dX10_heightAt_19 : decode cX10_heightAt 19 = .ok (.ireturn, 1) := by decide +kernel
theorem dX10_beside_0 : decode cX10_beside 0 = .ok (.iload_n 1, 1) := by decide +kernel
theorem dX10_beside_1 : decode cX10_beside 1 = .ok (.aload_n 0, 1) := by decide +kernel
theorem dX10_beside_2 : decode cX10_beside 2 = .ok (.getfield 159, 3) := by decide +kernel
theorem dX10_beside_5 : decode cX10_beside 5 = .ok (.irem, 1) := by decide +kernel
theorem dX10_beside_6 : decode cX10_beside 6 = .ok (.iload_n 2, 1) := by decide +kernel
theorem dX10_beside_7 : decode cX10_beside 7 = .ok (.iconst 2, 1) := by decide +kernel
theorem dX10_beside_8 : decode cX10_beside 8 = .ok (.if_icmp .ne 7, 3) := by decide +kernel
theorem dX10_beside_11 : decode cX10_beside 11 = .ok (.iconst 1, 1) := by decide +kernel
theorem dX10_beside_12 : decode cX10_beside 12 = .ok (.goto 13, 3) := by decide +kernel
theorem dX10_beside_15 : decode cX10_beside 15 = .ok (.iload_n 2, 1) := by decide +kernel
theorem dX10_beside_16 : decode cX10_beside 16 = .ok (.iconst 4, 1) := by decide +kernel
theorem dX10_beside_17 : decode cX10_beside 17 = .ok (.if_icmp .ne 7, 3) := by decide +kernel
theorem dX10_beside_20 : decode cX10_beside 20 = .ok (.iconst (-1), 1) := by decide +kernel
theorem dX10_beside_21 : decode cX10_beside 21 = .ok (.goto 4, 3) := by decide +kernel
theorem dX10_beside_24 : decode cX10_beside 24 = .ok (.iconst 0, 1) := by decide +kernel
theorem dX10_beside_25 : decode cX10_beside 25 = .ok (.iadd, 1) := by decide +kernel
theorem dX10_beside_26 : decode cX10_beside 26 = .ok (.istore_n 3, 1) := by decide +kernel
theorem dX10_beside_27 : decode cX10_beside 27 = .ok (.iload_n 1, 1) := by decide +kernel
theorem dX10_beside_28 : decode cX10_beside 28 = .ok (.aload_n 0, 1) := by decide +kernel
theorem dX10_beside_29 : decode cX10_beside 29 = .ok (.getfield 159, 3) := by decide +kernel
theorem dX10_beside_32 : decode cX10_beside 32 = .ok (.idiv, 1) := by decide +kernel
theorem dX10_beside_33 : decode cX10_beside 33 = .ok (.iload_n 2, 1) := by decide +kernel
theorem dX10_beside_34 : decode cX10_beside 34 = .ok (.iconst 3, 1) := by decide +kernel
theorem dX10_beside_35 : decode cX10_beside 35 = .ok (.if_icmp .ne 7, 3) := by decide +kernel
theorem dX10_beside_38 : decode cX10_beside 38 = .ok (.iconst 1, 1) := by decide +kernel
theorem dX10_beside_39 : decode cX10_beside 39 = .ok (.goto 13, 3) := by decide +kernel
theorem dX10_beside_42 : decode cX10_beside 42 = .ok (.iload_n 2, 1) := by decide +kernel
theorem dX10_beside_43 : decode cX10_beside 43 = .ok (.iconst 1, 1) := by decide +kernel
theorem dX10_beside_44 : decode cX10_beside 44 = .ok (.if_icmp .ne 7, 3) := by decide +kernel
theorem dX10_beside_47 : decode cX10_beside 47 = .ok (.iconst (-1), 1) := by decide +kernel
theorem dX10_beside_48 : decode cX10_beside 48 = .ok (.goto 4, 3) := by decide +kernel
theorem dX10_beside_51 : decode cX10_beside 51 = .ok (.iconst 0, 1) := by decide +kernel
theorem dX10_beside_52 : decode cX10_beside 52 = .ok (.iadd, 1) := by decide +kernel
theorem dX10_beside_53 : decode cX10_beside 53 = .ok (.istore 4, 2) := by decide +kernel
theorem dX10_beside_55 : decode cX10_beside 55 = .ok (.aload_n 0, 1) := by decide +kernel
theorem dX10_beside_56 : decode cX10_beside 56 = .ok (.iload_n 3, 1) := by decide +kernel
theorem dX10_beside_57 : decode cX10_beside 57 = .ok (.iload 4, 2) := by decide +kernel
theorem dX10_beside_59 : decode cX10_beside 59 = .ok (.invokevirtual 169, 3) := by decide +kernel
theorem dX10_beside_62 : decode cX10_beside 62 = .ok (.ifCond .eq 15, 3) := by decide +kernel
theorem dX10_beside_65 : decode cX10_beside 65 = .ok (.aload_n 0, 1) := by decide +kernel
theorem dX10_beside_66 : decode cX10_beside 66 = .ok (.getfield 159, 3) := by decide +kernel
theorem dX10_beside_69 : decode cX10_beside 69 = .ok (.iload 4, 2) := by decide +kernel
theorem dX10_beside_71 : decode cX10_beside 71 = .ok (.imul, 1) := by decide +kernel
theorem dX10_beside_72 : decode cX10_beside 72 = .ok (.iload_n 3, 1) := by decide +kernel
theorem dX10_beside_73 : decode cX10_beside 73 = .ok (.iadd, 1) := by decide +kernel
theorem dX10_beside_74 : decode cX10_beside 74 = .ok (.goto 4, 3) := by decide +kernel
theorem dX10_beside_77 : decode cX10_beside 77 = .ok (.iconst (-1), 1) := by decide +kernel
theorem dX10_beside_78 : decode cX10_beside 78 = .ok (.ireturn, 1) := by decide +kernel
theorem dX10_leanAt_0 : decode cX10_leanAt 0 = .ok (.iconst 0, 1) := by decide +kernel
theorem dX10_leanAt_1 : decode cX10_leanAt 1 = .ok (.istore_n 3, 1) := by decide +kernel
theorem dX10_leanAt_2 : decode cX10_leanAt 2 = .ok (.iconst 1, 1) := by decide +kernel
theorem dX10_leanAt_3 : decode cX10_leanAt 3 = .ok (.istore 4, 2) := by decide +kernel
theorem dX10_leanAt_5 : decode cX10_leanAt 5 = .ok (.iload 4, 2) := by decide +kernel
theorem dX10_leanAt_7 : decode cX10_leanAt 7 = .ok (.iconst 5, 1) := by decide +kernel
theorem dX10_leanAt_8 : decode cX10_leanAt 8 = .ok (.if_icmp .ge 71, 3) := by decide +kernel
theorem dX10_leanAt_11 : decode cX10_leanAt 11 = .ok (.aload_n 0, 1) := by decide +kernel
theorem dX10_leanAt_12 : decode cX10_leanAt 12 = .ok (.iload_n 1, 1) := by decide +kernel
theorem dX10_leanAt_13 : decode cX10_leanAt 13 = .ok (.iload 4, 2) := by decide +kernel
theorem dX10_leanAt_15 : decode cX10_leanAt 15 = .ok (.invokevirtual 320, 3) := by decide +kernel
theorem dX10_leanAt_18 : decode cX10_leanAt 18 = .ok (.istore 5, 2) := by decide +kernel
theorem dX10_leanAt_20 : decode cX10_leanAt 20 = .ok (.iload 5, 2) := by decide +kernel
theorem dX10_leanAt_22 : decode cX10_leanAt 22 = .ok (.ifCond .ge 7, 3) := by decide +kernel
theorem dX10_leanAt_25 : decode cX10_leanAt 25 = .ok (.iconst 0, 1) := by decide +kernel
theorem dX10_leanAt_26 : decode cX10_leanAt 26 = .ok (.goto 17, 3) := by decide +kernel
theorem dX10_leanAt_29 : decode cX10_leanAt 29 = .ok (.aload_n 0, 1) := by decide +kernel
theorem dX10_leanAt_30 : decode cX10_leanAt 30 = .ok (.iload 5, 2) := by decide +kernel
theorem dX10_leanAt_32 : decode cX10_leanAt 32 = .ok (.iload_n 2, 1) := by decide +kernel
theorem dX10_leanAt_33 : decode cX10_leanAt 33 = .ok (.invokevirtual 323, 3) := by decide +kernel
theorem dX10_leanAt_36 : decode cX10_leanAt 36 = .ok (.aload_n 0, 1) := by decide +kernel
theorem dX10_leanAt_37 : decode cX10_leanAt 37 = .ok (.iload_n 1, 1) := by decide +kernel
theorem dX10_leanAt_38 : decode cX10_leanAt 38 = .ok (.iload_n 2, 1) := by decide +kernel
theorem dX10_leanAt_39 : decode cX10_leanAt 39 = .ok (.invokevirtual 323, 3) := by decide +kernel
theorem dX10_leanAt_42 : decode cX10_leanAt 42 = .ok (.isub, 1) := by decide +kernel
theorem dX10_leanAt_43 : decode cX10_leanAt 43 = .ok (.istore 6, 2) := by decide +kernel
theorem dX10_leanAt_45 : decode cX10_leanAt 45 = .ok (.iload 6, 2) := by decide +kernel
theorem dX10_leanAt_47 : decode cX10_leanAt 47 = .ok (.ifCond .ge 9, 3) := by decide +kernel
theorem dX10_leanAt_50 : decode cX10_leanAt 50 = .ok (.iload 6, 2) := by decide +kernel
theorem dX10_leanAt_52 : decode cX10_leanAt 52 = .ok (.ineg, 1) := by decide +kernel
theorem dX10_leanAt_53 : decode cX10_leanAt 53 = .ok (.goto 5, 3) := by decide +kernel
theorem dX10_leanAt_56 : decode cX10_leanAt 56 = .ok (.iload 6, 2) := by decide +kernel
theorem dX10_leanAt_58 : decode cX10_leanAt 58 = .ok (.istore 6, 2) := by decide +kernel
theorem dX10_leanAt_60 : decode cX10_leanAt 60 = .ok (.iload 6, 2) := by decide +kernel
theorem dX10_leanAt_62 : decode cX10_leanAt 62 = .ok (.iload_n 3, 1) := by decide +kernel
theorem dX10_leanAt_63 : decode cX10_leanAt 63 = .ok (.if_icmp .le 8, 3) := by decide +kernel
theorem dX10_leanAt_66 : decode cX10_leanAt 66 = .ok (.iload 6, 2) := by decide +kernel
theorem dX10_leanAt_68 : decode cX10_leanAt 68 = .ok (.goto 4, 3) := by decide +kernel
theorem dX10_leanAt_71 : decode cX10_leanAt 71 = .ok (.iload_n 3, 1) := by decide +kernel
theorem dX10_leanAt_72 : decode cX10_leanAt 72 = .ok (.istore_n 3, 1) := by decide +kernel
theorem dX10_leanAt_73 : decode cX10_leanAt 73 = .ok (.iinc 4 1, 3) := by decide +kernel
theorem dX10_leanAt_76 : decode cX10_leanAt 76 = .ok (.goto (-71), 3) := by decide +kernel
theorem dX10_leanAt_79 : decode cX10_leanAt 79 = .ok (.iload_n 3, 1) := by decide +kernel
theorem dX10_leanAt_80 : decode cX10_leanAt 80 = .ok (.ireturn, 1) := by decide +kernel
theorem dX10_told_0 : decode cX10_told 0 = .ok (.iload_n 1, 1) := by decide +kernel
theorem dX10_told_1 : decode cX10_told 1 = .ok (.tableswitch 165 0 14 #[75, 80, 85, 90, 95, 100, 105, 110, 115, 120, 125, 145, 150, 155, 160], 75) := by decide +kernel
theorem dX10_told_76 : decode cX10_told 76 = .ok (.aload_n 0, 1) := by decide +kernel
theorem dX10_told_77 : decode cX10_told 77 = .ok (.getfield 159, 3) := by decide +kernel
theorem dX10_told_80 : decode cX10_told 80 = .ok (.ireturn, 1) := by decide +kernel
theorem dX10_told_81 : decode cX10_told 81 = .ok (.aload_n 0, 1) := by decide +kernel
theorem dX10_told_82 : decode cX10_told 82 = .ok (.getfield 162, 3) := by decide +kernel
theorem dX10_told_85 : decode cX10_told 85 = .ok (.ireturn, 1) := by decide +kernel
theorem dX10_told_86 : decode cX10_told 86 = .ok (.aload_n 0, 1) := by decide +kernel
theorem dX10_told_87 : decode cX10_told 87 = .ok (.getfield 267, 3) := by decide +kernel
theorem dX10_told_90 : decode cX10_told 90 = .ok (.ireturn, 1) := by decide +kernel
theorem dX10_told_91 : decode cX10_told 91 = .ok (.aload_n 0, 1) := by decide +kernel
theorem dX10_told_92 : decode cX10_told 92 = .ok (.getfield 270, 3) := by decide +kernel
theorem dX10_told_95 : decode cX10_told 95 = .ok (.ireturn, 1) := by decide +kernel
theorem dX10_told_96 : decode cX10_told 96 = .ok (.aload_n 0, 1) := by decide +kernel
theorem dX10_told_97 : decode cX10_told 97 = .ok (.getfield 273, 3) := by decide +kernel
theorem dX10_told_100 : decode cX10_told 100 = .ok (.ireturn, 1) := by decide +kernel
theorem dX10_told_101 : decode cX10_told 101 = .ok (.aload_n 0, 1) := by decide +kernel
theorem dX10_told_102 : decode cX10_told 102 = .ok (.getfield 276, 3) := by decide +kernel
theorem dX10_told_105 : decode cX10_told 105 = .ok (.ireturn, 1) := by decide +kernel
theorem dX10_told_106 : decode cX10_told 106 = .ok (.aload_n 0, 1) := by decide +kernel
theorem dX10_told_107 : decode cX10_told 107 = .ok (.getfield 279, 3) := by decide +kernel
theorem dX10_told_110 : decode cX10_told 110 = .ok (.ireturn, 1) := by decide +kernel
theorem dX10_told_111 : decode cX10_told 111 = .ok (.aload_n 0, 1) := by decide +kernel
theorem dX10_told_112 : decode cX10_told 112 = .ok (.getfield 176, 3) := by decide +kernel
theorem dX10_told_115 : decode cX10_told 115 = .ok (.ireturn, 1) := by decide +kernel
theorem dX10_told_116 : decode cX10_told 116 = .ok (.aload_n 0, 1) := by decide +kernel
theorem dX10_told_117 : decode cX10_told 117 = .ok (.getfield 291, 3) := by decide +kernel
theorem dX10_told_120 : decode cX10_told 120 = .ok (.ireturn, 1) := by decide +kernel
theorem dX10_told_121 : decode cX10_told 121 = .ok (.aload_n 0, 1) := by decide +kernel
theorem dX10_told_122 : decode cX10_told 122 = .ok (.getfield 55, 3) := by decide +kernel
theorem dX10_told_125 : decode cX10_told 125 = .ok (.ireturn, 1) := by decide +kernel
theorem dX10_told_126 : decode cX10_told 126 = .ok (.aload_n 0, 1) := by decide +kernel
theorem dX10_told_127 : decode cX10_told 127 = .ok (.getfield 159, 3) := by decide +kernel
theorem dX10_told_130 : decode cX10_told 130 = .ok (.ifCond .ne 7, 3) := by decide +kernel
theorem dX10_told_133 : decode cX10_told 133 = .ok (.iconst 0, 1) := by decide +kernel
theorem dX10_told_134 : decode cX10_told 134 = .ok (.goto 11, 3) := by decide +kernel
theorem dX10_told_137 : decode cX10_told 137 = .ok (.aload_n 0, 1) := by decide +kernel
theorem dX10_told_138 : decode cX10_told 138 = .ok (.aload_n 0, 1) := by decide +kernel
theorem dX10_told_139 : decode cX10_told 139 = .ok (.getfield 294, 3) := by decide +kernel
theorem dX10_told_142 : decode cX10_told 142 = .ok (.invokevirtual 326, 3) := by decide +kernel
theorem dX10_told_145 : decode cX10_told 145 = .ok (.ireturn, 1) := by decide +kernel
theorem dX10_told_146 : decode cX10_told 146 = .ok (.aload_n 0, 1) := by decide +kernel
theorem dX10_told_147 : decode cX10_told 147 = .ok (.getfield 297, 3) := by decide +kernel
theorem dX10_told_150 : decode cX10_told 150 = .ok (.ireturn, 1) := by decide +kernel
theorem dX10_told_151 : decode cX10_told 151 = .ok (.aload_n 0, 1) := by decide +kernel
theorem dX10_told_152 : decode cX10_told 152 = .ok (.getfield 68, 3) := by decide +kernel
theorem dX10_told_155 : decode cX10_told 155 = .ok (.ireturn, 1) := by decide +kernel
theorem dX10_told_156 : decode cX10_told 156 = .ok (.aload_n 0, 1) := by decide +kernel
theorem dX10_told_157 : decode cX10_told 157 = .ok (.getfield 300, 3) := by decide +kernel
theorem dX10_told_160 : decode cX10_told 160 = .ok (.ireturn, 1) := by decide +kernel
theorem dX10_told_161 : decode cX10_told 161 = .ok (.aload_n 0, 1) := by decide +kernel
theorem dX10_told_162 : decode cX10_told 162 = .ok (.getfield 303, 3) := by decide +kernel
theorem dX10_told_165 : decode cX10_told 165 = .ok (.ireturn, 1) := by decide +kernel
theorem dX10_told_166 : decode cX10_told 166 = .ok (.ldc 175, 2) := by decide +kernel
theorem dX10_told_168 : decode cX10_told 168 = .ok (.ireturn, 1) := by decide +kernel
theorem dX10_cell_0 : decode cX10_cell 0 = .ok (.aload_n 0, 1) := by decide +kernel
theorem dX10_cell_1 : decode cX10_cell 1 = .ok (.iload_n 1, 1) := by decide +kernel
theorem dX10_cell_2 : decode cX10_cell 2 = .ok (.iload_n 2, 1) := by decide +kernel
theorem dX10_cell_3 : decode cX10_cell 3 = .ok (.invokevirtual 169, 3) := by decide +kernel
theorem dX10_cell_6 : decode cX10_cell 6 = .ok (.ifCond .ne 7, 3) := by decide +kernel
theorem dX10_cell_9 : decode cX10_cell 9 = .ok (.ldc_w 329, 3) := by decide +kernel
theorem dX10_cell_12 : decode cX10_cell 12 = .ok (.ireturn, 1) := by decide +kernel
theorem dX10_cell_13 : decode cX10_cell 13 = .ok (.aload_n 0, 1) := by decide +kernel
theorem dX10_cell_14 : decode cX10_cell 14 = .ok (.getfield 159, 3) := by decide +kernel
theorem dX10_cell_17 : decode cX10_cell 17 = .ok (.iload_n 2, 1) := by decide +kernel
theorem dX10_cell_18 : decode cX10_cell 18 = .ok (.imul, 1) := by decide +kernel
theorem dX10_cell_19 : decode cX10_cell 19 = .ok (.iload_n 1, 1) := by decide +kernel
theorem dX10_cell_20 : decode cX10_cell 20 = .ok (.iadd, 1) := by decide +kernel
theorem dX10_cell_21 : decode cX10_cell 21 = .ok (.istore 4, 2) := by decide +kernel
theorem dX10_cell_23 : decode cX10_cell 23 = .ok (.iload_n 3, 1) := by decide +kernel
theorem dX10_cell_24 : decode cX10_cell 24 = .ok (.tableswitch 108 0 6 #[44, 52, 60, 68, 75, 86, 97], 44) := by decide +kernel
theorem dX10_cell_68 : decode cX10_cell 68 = .ok (.aload_n 0, 1) := by decide +kernel
theorem dX10_cell_69 : decode cX10_cell 69 = .ok (.getfield 7, 3) := by decide +kernel
theorem dX10_cell_72 : decode cX10_cell 72 = .ok (.iload 4, 2) := by decide +kernel
theorem dX10_cell_74 : decode cX10_cell 74 = .ok (.iaload, 1) := by decide +kernel
theorem dX10_cell_75 : decode cX10_cell 75 = .ok (.ireturn, 1) := by decide +kernel
theorem dX10_cell_76 : decode cX10_cell 76 = .ok (.aload_n 0, 1) := by decide +kernel
theorem dX10_cell_77 : decode cX10_cell 77 = .ok (.getfield 13, 3) := by decide +kernel
theorem dX10_cell_80 : decode cX10_cell 80 = .ok (.iload 4, 2) := by decide +kernel
theorem dX10_cell_82 : decode cX10_cell 82 = .ok (.iaload, 1) := by decide +kernel
theorem dX10_cell_83 : decode cX10_cell 83 = .ok (.ireturn, 1) := by decide +kernel
theorem dX10_cell_84 : decode cX10_cell 84 = .ok (.aload_n 0, 1) := by decide +kernel
theorem dX10_cell_85 : decode cX10_cell 85 = .ok (.getfield 62, 3) := by decide +kernel
theorem dX10_cell_88 : decode cX10_cell 88 = .ok (.iload 4, 2) := by decide +kernel
theorem dX10_cell_90 : decode cX10_cell 90 = .ok (.iaload, 1) := by decide +kernel
theorem dX10_cell_91 : decode cX10_cell 91 = .ok (.ireturn, 1) := by decide +kernel
theorem dX10_cell_92 : decode cX10_cell 92 = .ok (.aload_n 0, 1) := by decide +kernel
theorem dX10_cell_93 : decode cX10_cell 93 = .ok (.iload 4, 2) := by decide +kernel
theorem dX10_cell_95 : decode cX10_cell 95 = .ok (.invokevirtual 313, 3) := by decide +kernel
theorem dX10_cell_98 : decode cX10_cell 98 = .ok (.ireturn, 1) := by decide +kernel
theorem dX10_cell_99 : decode cX10_cell 99 = .ok (.aload_n 0, 1) := by decide +kernel
theorem dX10_cell_100 : decode cX10_cell 100 = .ok (.iload 4, 2) := by decide +kernel
theorem dX10_cell_102 : decode cX10_cell 102 = .ok (.aload_n 0, 1) := by decide +kernel
theorem dX10_cell_103 : decode cX10_cell 103 = .ok (.getfield 291, 3) := by decide +kernel
theorem dX10_cell_106 : decode cX10_cell 106 = .ok (.invokevirtual 317, 3) := by decide +kernel
theorem dX10_cell_109 : decode cX10_cell 109 = .ok (.ireturn, 1) := by decide +kernel
theorem dX10_cell_110 : decode cX10_cell 110 = .ok (.aload_n 0, 1) := by decide +kernel
theorem dX10_cell_111 : decode cX10_cell 111 = .ok (.iload 4, 2) := by decide +kernel
theorem dX10_cell_113 : decode cX10_cell 113 = .ok (.aload_n 0, 1) := by decide +kernel
theorem dX10_cell_114 : decode cX10_cell 114 = .ok (.getfield 291, 3) := by decide +kernel
theorem dX10_cell_117 : decode cX10_cell 117 = .ok (.invokevirtual 323, 3) := by decide +kernel
theorem dX10_cell_120 : decode cX10_cell 120 = .ok (.ireturn, 1) := by decide +kernel
theorem dX10_cell_121 : decode cX10_cell 121 = .ok (.aload_n 0, 1) := by decide +kernel
theorem dX10_cell_122 : decode cX10_cell 122 = .ok (.iload 4, 2) := by decide +kernel
theorem dX10_cell_124 : decode cX10_cell 124 = .ok (.aload_n 0, 1) := by decide +kernel
theorem dX10_cell_125 : decode cX10_cell 125 = .ok (.getfield 291, 3) := by decide +kernel
theorem dX10_cell_128 : decode cX10_cell 128 = .ok (.invokevirtual 330, 3) := by decide +kernel
theorem dX10_cell_131 : decode cX10_cell 131 = .ok (.ireturn, 1) := by decide +kernel
theorem dX10_cell_132 : decode cX10_cell 132 = .ok (.ldc 175, 2) := by decide +kernel
theorem dX10_cell_134 : decode cX10_cell 134 = .ok (.ireturn, 1) := by decide +kernel
theorem dX10_height_0 : decode cX10_height 0 = .ok (.aload_n 0, 1) := by decide +kernel
theorem dX10_height_1 : decode cX10_height 1 = .ok (.iload_n 1, 1) := by decide +kernel
theorem dX10_height_2 : decode cX10_height 2 = .ok (.iload_n 2, 1) := by decide +kernel
theorem dX10_height_3 : decode cX10_height 3 = .ok (.invokevirtual 169, 3) := by decide +kernel
theorem dX10_height_6 : decode cX10_height 6 = .ok (.ifCond .ne 7, 3) := by decide +kernel
theorem dX10_height_9 : decode cX10_height 9 = .ok (.ldc_w 329, 3) := by decide +kernel
theorem dX10_height_12 : decode cX10_height 12 = .ok (.ireturn, 1) := by decide +kernel
theorem dX10_height_13 : decode cX10_height 13 = .ok (.iload_n 3, 1) := by decide +kernel
theorem dX10_height_14 : decode cX10_height 14 = .ok (.i2l, 1) := by decide +kernel
theorem dX10_height_15 : decode cX10_height 15 = .ok (.lconst 0, 1) := by decide +kernel
theorem dX10_height_16 : decode cX10_height 16 = .ok (.ldc2_w 333, 3) := by decide +kernel
theorem dX10_height_19 : decode cX10_height 19 = .ok (.invokestatic 165, 3) := by decide +kernel
theorem dX10_height_22 : decode cX10_height 22 = .ok (.ifCond .eq 19, 3) := by decide +kernel
theorem dX10_height_25 : decode cX10_height 25 = .ok (.aload_n 0, 1) := by decide +kernel
theorem dX10_height_26 : decode cX10_height 26 = .ok (.aload_n 0, 1) := by decide +kernel
theorem dX10_height_27 : decode cX10_height 27 = .ok (.getfield 159, 3) := by decide +kernel
theorem dX10_height_30 : decode cX10_height 30 = .ok (.iload_n 2, 1) := by decide +kernel
theorem dX10_height_31 : decode cX10_height 31 = .ok (.imul, 1) := by decide +kernel
theorem dX10_height_32 : decode cX10_height 32 = .ok (.iload_n 1, 1) := by decide +kernel
theorem dX10_height_33 : decode cX10_height 33 = .ok (.iadd, 1) := by decide +kernel
theorem dX10_height_34 : decode cX10_height 34 = .ok (.iload_n 3, 1) := by decide +kernel
theorem dX10_height_35 : decode cX10_height 35 = .ok (.invokevirtual 323, 3) := by decide +kernel
theorem dX10_height_38 : decode cX10_height 38 = .ok (.goto 5, 3) := by decide +kernel
theorem dX10_height_41 : decode cX10_height 41 = .ok (.ldc 175, 2) := by decide +kernel
theorem dX10_height_43 : decode cX10_height 43 = .ok (.ireturn, 1) := by decide +kernel
theorem dX10_moon_0 : decode cX10_moon 0 = .ok (.iload_n 1, 1) := by decide +kernel
theorem dX10_moon_1 : decode cX10_moon 1 = .ok (.i2l, 1) := by decide +kernel
theorem dX10_moon_2 : decode cX10_moon 2 = .ok (.lconst 0, 1) := by decide +kernel
theorem dX10_moon_3 : decode cX10_moon 3 = .ok (.aload_n 0, 1) := by decide +kernel
theorem dX10_moon_4 : decode cX10_moon 4 = .ok (.getfield 267, 3) := by decide +kernel
theorem dX10_moon_7 : decode cX10_moon 7 = .ok (.iconst 1, 1) := by decide +kernel
theorem dX10_moon_8 : decode cX10_moon 8 = .ok (.isub, 1) := by decide +kernel
theorem dX10_moon_9 : decode cX10_moon 9 = .ok (.i2l, 1) := by decide +kernel
theorem dX10_moon_10 : decode cX10_moon 10 = .ok (.invokestatic 165, 3) := by decide +kernel
theorem dX10_moon_13 : decode cX10_moon 13 = .ok (.ifCond .ne 7, 3) := by decide +kernel
theorem dX10_moon_16 : decode cX10_moon 16 = .ok (.ldc_w 329, 3) := by decide +kernel
theorem dX10_moon_19 : decode cX10_moon 19 = .ok (.ireturn, 1) := by decide +kernel
theorem dX10_moon_20 : decode cX10_moon 20 = .ok (.iload_n 2, 1) := by decide +kernel
theorem dX10_moon_21 : decode cX10_moon 21 = .ok (.tableswitch 74 0 4 #[35, 42, 49, 56, 63], 35) := by decide +kernel
theorem dX10_moon_56 : decode cX10_moon 56 = .ok (.aload_n 0, 1) := by decide +kernel
theorem dX10_moon_57 : decode cX10_moon 57 = .ok (.getfield 16, 3) := by decide +kernel
theorem dX10_moon_60 : decode cX10_moon 60 = .ok (.iload_n 1, 1) := by decide +kernel
theorem dX10_moon_61 : decode cX10_moon 61 = .ok (.iaload, 1) := by decide +kernel
theorem dX10_moon_62 : decode cX10_moon 62 = .ok (.ireturn, 1) := by decide +kernel
theorem dX10_moon_63 : decode cX10_moon 63 = .ok (.aload_n 0, 1) := by decide +kernel
theorem dX10_moon_64 : decode cX10_moon 64 = .ok (.getfield 19, 3) := by decide +kernel
theorem dX10_moon_67 : decode cX10_moon 67 = .ok (.iload_n 1, 1) := by decide +kernel
theorem dX10_moon_68 : decode cX10_moon 68 = .ok (.iaload, 1) := by decide +kernel
theorem dX10_moon_69 : decode cX10_moon 69 = .ok (.ireturn, 1) := by decide +kernel
theorem dX10_moon_70 : decode cX10_moon 70 = .ok (.aload_n 0, 1) := by decide +kernel
theorem dX10_moon_71 : decode cX10_moon 71 = .ok (.getfield 22, 3) := by decide +kernel
theorem dX10_moon_74 : decode cX10_moon 74 = .ok (.iload_n 1, 1) := by decide +kernel
theorem dX10_moon_75 : decode cX10_moon 75 = .ok (.iaload, 1) := by decide +kernel
theorem dX10_moon_76 : decode cX10_moon 76 = .ok (.ireturn, 1) := by decide +kernel
theorem dX10_moon_77 : decode cX10_moon 77 = .ok (.aload_n 0, 1) := by decide +kernel
theorem dX10_moon_78 : decode cX10_moon 78 = .ok (.getfield 59, 3) := by decide +kernel
theorem dX10_moon_81 : decode cX10_moon 81 = .ok (.iload_n 1, 1) := by decide +kernel
theorem dX10_moon_82 : decode cX10_moon 82 = .ok (.iaload, 1) := by decide +kernel
theorem dX10_moon_83 : decode cX10_moon 83 = .ok (.ireturn, 1) := by decide +kernel
theorem dX10_moon_84 : decode cX10_moon 84 = .ok (.aload_n 0, 1) := by decide +kernel
theorem dX10_moon_85 : decode cX10_moon 85 = .ok (.iload_n 1, 1) := by decide +kernel
theorem dX10_moon_86 : decode cX10_moon 86 = .ok (.iconst 0, 1) := by decide +kernel
theorem dX10_moon_87 : decode cX10_moon 87 = .ok (.aload_n 0, 1) := by decide +kernel
theorem dX10_moon_88 : decode cX10_moon 88 = .ok (.getfield 291, 3) := by decide +kernel
theorem dX10_moon_91 : decode cX10_moon 91 = .ok (.invokevirtual 309, 3) := by decide +kernel
theorem dX10_moon_94 : decode cX10_moon 94 = .ok (.ireturn, 1) := by decide +kernel
theorem dX10_moon_95 : decode cX10_moon 95 = .ok (.ldc 175, 2) := by decide +kernel
theorem dX10_moon_97 : decode cX10_moon 97 = .ok (.ireturn, 1) := by decide +kernel
theorem dX10_doesBreak_0 : decode cX10_doesBreak 0 = .ok (.aload_n 0, 1) := by decide +kernel
theorem dX10_doesBreak_1 : decode cX10_doesBreak 1 = .ok (.aload_n 0, 1) := by decide +kernel
theorem dX10_doesBreak_2 : decode cX10_doesBreak 2 = .ok (.getfield 28, 3) := by decide +kernel
theorem dX10_doesBreak_5 : decode cX10_doesBreak 5 = .ok (.iload_n 1, 1) := by decide +kernel
theorem dX10_doesBreak_6 : decode cX10_doesBreak 6 = .ok (.iaload, 1) := by decide +kernel
theorem dX10_doesBreak_7 : decode cX10_doesBreak 7 = .ok (.iload_n 2, 1) := by decide +kernel
theorem dX10_doesBreak_8 : decode cX10_doesBreak 8 = .ok (.invokevirtual 330, 3) := by decide +kernel
theorem dX10_doesBreak_11 : decode cX10_doesBreak 11 = .ok (.aload_n 0, 1) := by decide +kernel
theorem dX10_doesBreak_12 : decode cX10_doesBreak 12 = .ok (.getfield 31, 3) := by decide +kernel
theorem dX10_doesBreak_15 : decode cX10_doesBreak 15 = .ok (.iload_n 1, 1) := by decide +kernel
theorem dX10_doesBreak_16 : decode cX10_doesBreak 16 = .ok (.iaload, 1) := by decide +kernel
theorem dX10_doesBreak_17 : decode cX10_doesBreak 17 = .ok (.aload_n 0, 1) := by decide +kernel
theorem dX10_doesBreak_18 : decode cX10_doesBreak 18 = .ok (.getfield 65, 3) := by decide +kernel
theorem dX10_doesBreak_21 : decode cX10_doesBreak 21 = .ok (.iload_n 1, 1) := by decide +kernel
theorem dX10_doesBreak_22 : decode cX10_doesBreak 22 = .ok (.iaload, 1) := by decide +kernel
theorem dX10_doesBreak_23 : decode cX10_doesBreak 23 = .ok (.iadd, 1) := by decide +kernel
theorem dX10_doesBreak_24 : decode cX10_doesBreak 24 = .ok (.if_icmp .le 7, 3) := by decide +kernel
theorem dX10_doesBreak_27 : decode cX10_doesBreak 27 = .ok (.iconst 1, 1) := by decide +kernel
theorem dX10_doesBreak_28 : decode cX10_doesBreak 28 = .ok (.goto 4, 3) := by decide +kernel
theorem dX10_doesBreak_31 : decode cX10_doesBreak 31 = .ok (.iconst 0, 1) := by decide +kernel
theorem dX10_doesBreak_32 : decode cX10_doesBreak 32 = .ok (.ireturn, 1) := by decide +kernel
theorem dX10_needOf_0 : decode cX10_needOf 0 = .ok (.iconst 0, 1) := by decide +kernel
theorem dX10_needOf_1 : decode cX10_needOf 1 = .ok (.istore_n 2, 1) := by decide +kernel
theorem dX10_needOf_2 : decode cX10_needOf 2 = .ok (.iconst 0, 1) := by decide +kernel
theorem dX10_needOf_3 : decode cX10_needOf 3 = .ok (.istore_n 3, 1) := by decide +kernel
theorem dX10_needOf_4 : decode cX10_needOf 4 = .ok (.iload_n 3, 1) := by decide +kernel
theorem dX10_needOf_5 : decode cX10_needOf 5 = .ok (.aload_n 0, 1) := by decide +kernel
theorem dX10_needOf_6 : decode cX10_needOf 6 = .ok (.getfield 55, 3) := by decide +kernel
theorem dX10_needOf_9 : decode cX10_needOf 9 = .ok (.if_icmp .ge 42, 3) := by decide +kernel
theorem dX10_needOf_12 : decode cX10_needOf 12 = .ok (.aload_n 0, 1) := by decide +kernel
theorem dX10_needOf_13 : decode cX10_needOf 13 = .ok (.aload_n 0, 1) := by decide +kernel
theorem dX10_needOf_14 : decode cX10_needOf 14 = .ok (.getfield 28, 3) := by decide +kernel
theorem dX10_needOf_17 : decode cX10_needOf 17 = .ok (.iload_n 1, 1) := by decide +kernel
theorem dX10_needOf_18 : decode cX10_needOf 18 = .ok (.iaload, 1) := by decide +kernel
theorem dX10_needOf_19 : decode cX10_needOf 19 = .ok (.iload_n 3, 1) := by decide +kernel
theorem dX10_needOf_20 : decode cX10_needOf 20 = .ok (.invokevirtual 330, 3) := by decide +kernel
theorem dX10_needOf_23 : decode cX10_needOf 23 = .ok (.aload_n 0, 1) := by decide +kernel
theorem dX10_needOf_24 : decode cX10_needOf 24 = .ok (.getfield 31, 3) := by decide +kernel
theorem dX10_needOf_27 : decode cX10_needOf 27 = .ok (.iload_n 1, 1) := by decide +kernel
theorem dX10_needOf_28 : decode cX10_needOf 28 = .ok (.iaload, 1) := by decide +kernel
theorem dX10_needOf_29 : decode cX10_needOf 29 = .ok (.isub, 1) := by decide +kernel
theorem dX10_needOf_30 : decode cX10_needOf 30 = .ok (.istore 4, 2) := by decide +kernel
theorem dX10_needOf_32 : decode cX10_needOf 32 = .ok (.iload 4, 2) := by decide +kernel
theorem dX10_needOf_34 : decode cX10_needOf 34 = .ok (.iload_n 2, 1) := by decide +kernel
theorem dX10_needOf_35 : decode cX10_needOf 35 = .ok (.if_icmp .le 8, 3) := by decide +kernel
theorem dX10_needOf_38 : decode cX10_needOf 38 = .ok (.iload 4, 2) := by decide +kernel
theorem dX10_needOf_40 : decode cX10_needOf 40 = .ok (.goto 4, 3) := by decide +kernel
theorem dX10_needOf_43 : decode cX10_needOf 43 = .ok (.iload_n 2, 1) := by decide +kernel
theorem dX10_needOf_44 : decode cX10_needOf 44 = .ok (.istore_n 2, 1) := by decide +kernel
theorem dX10_needOf_45 : decode cX10_needOf 45 = .ok (.iinc 3 1, 3) := by decide +kernel
theorem dX10_needOf_48 : decode cX10_needOf 48 = .ok (.goto (-44), 3) := by decide +kernel
theorem dX10_needOf_51 : decode cX10_needOf 51 = .ok (.iload_n 2, 1) := by decide +kernel
theorem dX10_needOf_52 : decode cX10_needOf 52 = .ok (.ireturn, 1) := by decide +kernel
theorem dX10_house_0 : decode cX10_house 0 = .ok (.iload_n 1, 1) := by decide +kernel
theorem dX10_house_1 : decode cX10_house 1 = .ok (.i2l, 1) := by decide +kernel
theorem dX10_house_2 : decode cX10_house 2 = .ok (.lconst 0, 1) := by decide +kernel
theorem dX10_house_3 : decode cX10_house 3 = .ok (.aload_n 0, 1) := by decide +kernel
theorem dX10_house_4 : decode cX10_house 4 = .ok (.getfield 270, 3) := by decide +kernel
theorem dX10_house_7 : decode cX10_house 7 = .ok (.iconst 1, 1) := by decide +kernel
theorem dX10_house_8 : decode cX10_house 8 = .ok (.isub, 1) := by decide +kernel
theorem dX10_house_9 : decode cX10_house 9 = .ok (.i2l, 1) := by decide +kernel
theorem dX10_house_10 : decode cX10_house 10 = .ok (.invokestatic 165, 3) := by decide +kernel
theorem dX10_house_13 : decode cX10_house 13 = .ok (.ifCond .ne 7, 3) := by decide +kernel
theorem dX10_house_16 : decode cX10_house 16 = .ok (.ldc_w 329, 3) := by decide +kernel
theorem dX10_house_19 : decode cX10_house 19 = .ok (.ireturn, 1) := by decide +kernel
theorem dX10_house_20 : decode cX10_house 20 = .ok (.iload_n 2, 1) := by decide +kernel
theorem dX10_house_21 : decode cX10_house 21 = .ok (.tableswitch 84 0 4 #[35, 46, 53, 60, 78], 35) := by decide +kernel
theorem dX10_house_56 : decode cX10_house 56 = .ok (.aload_n 0, 1) := by decide +kernel
theorem dX10_house_57 : decode cX10_house 57 = .ok (.aload_n 0, 1) := by decide +kernel
theorem dX10_house_58 : decode cX10_house 58 = .ok (.getfield 28, 3) := by decide +kernel
theorem dX10_house_61 : decode cX10_house 61 = .ok (.iload_n 1, 1) := by decide +kernel
theorem dX10_house_62 : decode cX10_house 62 = .ok (.iaload, 1) := by decide +kernel
theorem dX10_house_63 : decode cX10_house 63 = .ok (.invokevirtual 326, 3) := by decide +kernel
theorem dX10_house_66 : decode cX10_house 66 = .ok (.ireturn, 1) := by decide +kernel
theorem dX10_house_67 : decode cX10_house 67 = .ok (.aload_n 0, 1) := by decide +kernel
theorem dX10_house_68 : decode cX10_house 68 = .ok (.getfield 31, 3) := by decide +kernel
theorem dX10_house_71 : decode cX10_house 71 = .ok (.iload_n 1, 1) := by decide +kernel
theorem dX10_house_72 : decode cX10_house 72 = .ok (.iaload, 1) := by decide +kernel
theorem dX10_house_73 : decode cX10_house 73 = .ok (.ireturn, 1) := by decide +kernel
theorem dX10_house_74 : decode cX10_house 74 = .ok (.aload_n 0, 1) := by decide +kernel
theorem dX10_house_75 : decode cX10_house 75 = .ok (.getfield 65, 3) := by decide +kernel
theorem dX10_house_78 : decode cX10_house 78 = .ok (.iload_n 1, 1) := by decide +kernel
theorem dX10_house_79 : decode cX10_house 79 = .ok (.iaload, 1) := by decide +kernel
theorem dX10_house_80 : decode cX10_house 80 = .ok (.ireturn, 1) := by decide +kernel
theorem dX10_house_81 : decode cX10_house 81 = .ok (.aload_n 0, 1) := by decide +kernel
theorem dX10_house_82 : decode cX10_house 82 = .ok (.iload_n 1, 1) := by decide +kernel
theorem dX10_house_83 : decode cX10_house 83 = .ok (.aload_n 0, 1) := by decide +kernel
theorem dX10_house_84 : decode cX10_house 84 = .ok (.getfield 291, 3) := by decide +kernel
theorem dX10_house_87 : decode cX10_house 87 = .ok (.invokevirtual 335, 3) := by decide +kernel
theorem dX10_house_90 : decode cX10_house 90 = .ok (.ifCond .eq 7, 3) := by decide +kernel
theorem dX10_house_93 : decode cX10_house 93 = .ok (.iconst 1, 1) := by decide +kernel
theorem dX10_house_94 : decode cX10_house 94 = .ok (.goto 4, 3) := by decide +kernel
theorem dX10_house_97 : decode cX10_house 97 = .ok (.iconst 0, 1) := by decide +kernel
theorem dX10_house_98 : decode cX10_house 98 = .ok (.ireturn, 1) := by decide +kernel
theorem dX10_house_99 : decode cX10_house 99 = .ok (.aload_n 0, 1) := by decide +kernel
theorem dX10_house_100 : decode cX10_house 100 = .ok (.iload_n 1, 1) := by decide +kernel
theorem dX10_house_101 : decode cX10_house 101 = .ok (.invokevirtual 338, 3) := by decide +kernel
theorem dX10_house_104 : decode cX10_house 104 = .ok (.ireturn, 1) := by decide +kernel
theorem dX10_house_105 : decode cX10_house 105 = .ok (.ldc 175, 2) := by decide +kernel
theorem dX10_house_107 : decode cX10_house 107 = .ok (.ireturn, 1) := by decide +kernel
theorem dX10_isOpen_0 : decode cX10_isOpen 0 = .ok (.aload_n 0, 1) := by decide +kernel
theorem dX10_isOpen_1 : decode cX10_isOpen 1 = .ok (.aload_n 0, 1) := by decide +kernel
theorem dX10_isOpen_2 : decode cX10_isOpen 2 = .ok (.getfield 34, 3) := by decide +kernel
theorem dX10_isOpen_5 : decode cX10_isOpen 5 = .ok (.iload_n 1, 1) := by decide +kernel
theorem dX10_isOpen_6 : decode cX10_isOpen 6 = .ok (.iaload, 1) := by decide +kernel
theorem dX10_isOpen_7 : decode cX10_isOpen 7 = .ok (.iload_n 2, 1) := by decide +kernel
theorem dX10_isOpen_8 : decode cX10_isOpen 8 = .ok (.invokevirtual 317, 3) := by decide +kernel
theorem dX10_isOpen_11 : decode cX10_isOpen 11 = .ok (.aload_n 0, 1) := by decide +kernel
theorem dX10_isOpen_12 : decode cX10_isOpen 12 = .ok (.getfield 40, 3) := by decide +kernel
theorem dX10_isOpen_15 : decode cX10_isOpen 15 = .ok (.iload_n 1, 1) := by decide +kernel
theorem dX10_isOpen_16 : decode cX10_isOpen 16 = .ok (.iaload, 1) := by decide +kernel
theorem dX10_isOpen_17 : decode cX10_isOpen 17 = .ok (.if_icmp .le 7, 3) := by decide +kernel
theorem dX10_isOpen_20 : decode cX10_isOpen 20 = .ok (.iconst 1, 1) := by decide +kernel
theorem dX10_isOpen_21 : decode cX10_isOpen 21 = .ok (.goto 4, 3) := by decide +kernel
theorem dX10_isOpen_24 : decode cX10_isOpen 24 = .ok (.iconst 0, 1) := by decide +kernel
theorem dX10_isOpen_25 : decode cX10_isOpen 25 = .ok (.ireturn, 1) := by decide +kernel
theorem dX10_crack_0 : decode cX10_crack 0 = .ok (.iload_n 1, 1) := by decide +kernel
theorem dX10_crack_1 : decode cX10_crack 1 = .ok (.i2l, 1) := by decide +kernel
theorem dX10_crack_2 : decode cX10_crack 2 = .ok (.lconst 0, 1) := by decide +kernel
theorem dX10_crack_3 : decode cX10_crack 3 = .ok (.aload_n 0, 1) := by decide +kernel
theorem dX10_crack_4 : decode cX10_crack 4 = .ok (.getfield 273, 3) := by decide +kernel
theorem dX10_crack_7 : decode cX10_crack 7 = .ok (.iconst 1, 1) := by decide +kernel
theorem dX10_crack_8 : decode cX10_crack 8 = .ok (.isub, 1) := by decide +kernel
theorem dX10_crack_9 : decode cX10_crack 9 = .ok (.i2l, 1) := by decide +kernel
theorem dX10_crack_10 : decode cX10_crack 10 = .ok (.invokestatic 165, 3) := by decide +kernel
theorem dX10_crack_13 : decode cX10_crack 13 = .ok (.ifCond .ne 7, 3) := by decide +kernel
theorem dX10_crack_16 : decode cX10_crack 16 = .ok (.ldc_w 329, 3) := by decide +kernel
theorem dX10_crack_19 : decode cX10_crack 19 = .ok (.ireturn, 1) := by decide +kernel
theorem dX10_crack_20 : decode cX10_crack 20 = .ok (.iload_n 2, 1) := by decide +kernel
theorem dX10_crack_21 : decode cX10_crack 21 = .ok (.i2l, 1) := by decide +kernel
theorem dX10_crack_22 : decode cX10_crack 22 = .ok (.lconst 0, 1) := by decide +kernel
theorem dX10_crack_23 : decode cX10_crack 23 = .ok (.ldc2_w 333, 3) := by decide +kernel
theorem dX10_crack_26 : decode cX10_crack 26 = .ok (.invokestatic 165, 3) := by decide +kernel
theorem dX10_crack_29 : decode cX10_crack 29 = .ok (.ifCond .ne 8, 3) := by decide +kernel
theorem dX10_crack_32 : decode cX10_crack 32 = .ok (.ldc 175, 2) := by decide +kernel
theorem dX10_crack_34 : decode cX10_crack 34 = .ok (.goto 17, 3) := by decide +kernel
theorem dX10_crack_37 : decode cX10_crack 37 = .ok (.aload_n 0, 1) := by decide +kernel
theorem dX10_crack_38 : decode cX10_crack 38 = .ok (.iload_n 1, 1) := by decide +kernel
theorem dX10_crack_39 : decode cX10_crack 39 = .ok (.iload_n 2, 1) := by decide +kernel
theorem dX10_crack_40 : decode cX10_crack 40 = .ok (.invokevirtual 341, 3) := by decide +kernel
theorem dX10_crack_43 : decode cX10_crack 43 = .ok (.ifCond .eq 7, 3) := by decide +kernel
theorem dX10_crack_46 : decode cX10_crack 46 = .ok (.iconst 1, 1) := by decide +kernel
theorem dX10_crack_47 : decode cX10_crack 47 = .ok (.goto 4, 3) := by decide +kernel
theorem dX10_crack_50 : decode cX10_crack 50 = .ok (.iconst 0, 1) := by decide +kernel
theorem dX10_crack_51 : decode cX10_crack 51 = .ok (.ireturn, 1) := by decide +kernel
theorem dX10_isBarred_0 : decode cX10_isBarred 0 = .ok (.iconst 0, 1) := by decide +kernel
theorem dX10_isBarred_1 : decode cX10_isBarred 1 = .ok (.istore 4, 2) := by decide +kernel
theorem dX10_isBarred_3 : decode cX10_isBarred 3 = .ok (.iconst 0, 1) := by decide +kernel
theorem dX10_isBarred_4 : decode cX10_isBarred 4 = .ok (.istore 5, 2) := by decide +kernel
theorem dX10_isBarred_6 : decode cX10_isBarred 6 = .ok (.iload 5, 2) := by decide +kernel
theorem dX10_isBarred_8 : decode cX10_isBarred 8 = .ok (.aload_n 0, 1) := by decide +kernel
theorem dX10_isBarred_9 : decode cX10_isBarred 9 = .ok (.getfield 273, 3) := by decide +kernel
theorem dX10_isBarred_12 : decode cX10_isBarred 12 = .ok (.if_icmp .ge 105, 3) := by decide +kernel
theorem dX10_isBarred_15 : decode cX10_isBarred 15 = .ok (.aload_n 0, 1) := by decide +kernel
theorem dX10_isBarred_16 : decode cX10_isBarred 16 = .ok (.aload_n 0, 1) := by decide +kernel
theorem dX10_isBarred_17 : decode cX10_isBarred 17 = .ok (.getfield 34, 3) := by decide +kernel
theorem dX10_isBarred_20 : decode cX10_isBarred 20 = .ok (.iload 5, 2) := by decide +kernel
theorem dX10_isBarred_22 : decode cX10_isBarred 22 = .ok (.iaload, 1) := by decide +kernel
theorem dX10_isBarred_23 : decode cX10_isBarred 23 = .ok (.aload_n 0, 1) := by decide +kernel
theorem dX10_isBarred_24 : decode cX10_isBarred 24 = .ok (.getfield 37, 3) := by decide +kernel
theorem dX10_isBarred_27 : decode cX10_isBarred 27 = .ok (.iload 5, 2) := by decide +kernel
theorem dX10_isBarred_29 : decode cX10_isBarred 29 = .ok (.iaload, 1) := by decide +kernel
theorem dX10_isBarred_30 : decode cX10_isBarred 30 = .ok (.ifCond .ne 7, 3) := by decide +kernel
theorem dX10_isBarred_33 : decode cX10_isBarred 33 = .ok (.iconst 2, 1) := by decide +kernel
theorem dX10_isBarred_34 : decode cX10_isBarred 34 = .ok (.goto 4, 3) := by decide +kernel
theorem dX10_isBarred_37 : decode cX10_isBarred 37 = .ok (.iconst 3, 1) := by decide +kernel
theorem dX10_isBarred_38 : decode cX10_isBarred 38 = .ok (.invokevirtual 320, 3) := by decide +kernel
theorem dX10_isBarred_41 : decode cX10_isBarred 41 = .ok (.istore 6, 2) := by decide +kernel
theorem dX10_isBarred_43 : decode cX10_isBarred 43 = .ok (.aload_n 0, 1) := by decide +kernel
theorem dX10_isBarred_44 : decode cX10_isBarred 44 = .ok (.getfield 34, 3) := by decide +kernel
theorem dX10_isBarred_47 : decode cX10_isBarred 47 = .ok (.iload 5, 2) := by decide +kernel
theorem dX10_isBarred_49 : decode cX10_isBarred 49 = .ok (.iaload, 1) := by decide +kernel
theorem dX10_isBarred_50 : decode cX10_isBarred 50 = .ok (.iload_n 1, 1) := by decide +kernel
theorem dX10_isBarred_51 : decode cX10_isBarred 51 = .ok (.if_icmp .ne 9, 3) := by decide +kernel
theorem dX10_isBarred_54 : decode cX10_isBarred 54 = .ok (.iload 6, 2) := by decide +kernel
theorem dX10_isBarred_56 : decode cX10_isBarred 56 = .ok (.iload_n 2, 1) := by decide +kernel
theorem dX10_isBarred_57 : decode cX10_isBarred 57 = .ok (.if_icmp .eq 20, 3) := by decide +kernel
theorem dX10_isBarred_60 : decode cX10_isBarred 60 = .ok (.aload_n 0, 1) := by decide +kernel
theorem dX10_isBarred_61 : decode cX10_isBarred 61 = .ok (.getfield 34, 3) := by decide +kernel
theorem dX10_isBarred_64 : decode cX10_isBarred 64 = .ok (.iload 5, 2) := by decide +kernel
theorem dX10_isBarred_66 : decode cX10_isBarred 66 = .ok (.iaload, 1) := by decide +kernel
theorem dX10_isBarred_67 : decode cX10_isBarred 67 = .ok (.iload_n 2, 1) := by decide +kernel
theorem dX10_isBarred_68 : decode cX10_isBarred 68 = .ok (.if_icmp .ne 13, 3) := by decide +kernel
theorem dX10_isBarred_71 : decode cX10_isBarred 71 = .ok (.iload 6, 2) := by decide +kernel
theorem dX10_isBarred_73 : decode cX10_isBarred 73 = .ok (.iload_n 1, 1) := by decide +kernel
theorem dX10_isBarred_74 : decode cX10_isBarred 74 = .ok (.if_icmp .ne 7, 3) := by decide +kernel
theorem dX10_isBarred_77 : decode cX10_isBarred 77 = .ok (.iconst 1, 1) := by decide +kernel
theorem dX10_isBarred_78 : decode cX10_isBarred 78 = .ok (.goto 4, 3) := by decide +kernel
theorem dX10_isBarred_81 : decode cX10_isBarred 81 = .ok (.iconst 0, 1) := by decide +kernel
theorem dX10_isBarred_82 : decode cX10_isBarred 82 = .ok (.istore 7, 2) := by decide +kernel
theorem dX10_isBarred_84 : decode cX10_isBarred 84 = .ok (.iload 4, 2) := by decide +kernel
theorem dX10_isBarred_86 : decode cX10_isBarred 86 = .ok (.ifCond .ne 18, 3) := by decide +kernel
theorem dX10_isBarred_89 : decode cX10_isBarred 89 = .ok (.iload 7, 2) := by decide +kernel
theorem dX10_isBarred_91 : decode cX10_isBarred 91 = .ok (.ifCond .eq 17, 3) := by decide +kernel
theorem dX10_isBarred_94 : decode cX10_isBarred 94 = .ok (.aload_n 0, 1) := by decide +kernel
theorem dX10_isBarred_95 : decode cX10_isBarred 95 = .ok (.iload 5, 2) := by decide +kernel
theorem dX10_isBarred_97 : decode cX10_isBarred 97 = .ok (.iload_n 3, 1) := by decide +kernel
theorem dX10_isBarred_98 : decode cX10_isBarred 98 = .ok (.invokevirtual 341, 3) := by decide +kernel
theorem dX10_isBarred_101 : decode cX10_isBarred 101 = .ok (.ifCond .eq 7, 3) := by decide +kernel
theorem dX10_isBarred_104 : decode cX10_isBarred 104 = .ok (.iconst 1, 1) := by decide +kernel
theorem dX10_isBarred_105 : decode cX10_isBarred 105 = .ok (.goto 4, 3) := by decide +kernel
theorem dX10_isBarred_108 : decode cX10_isBarred 108 = .ok (.iconst 0, 1) := by decide +kernel
theorem dX10_isBarred_109 : decode cX10_isBarred 109 = .ok (.istore 4, 2) := by decide +kernel
theorem dX10_isBarred_111 : decode cX10_isBarred 111 = .ok (.iinc 5 1, 3) := by decide +kernel
theorem dX10_isBarred_114 : decode cX10_isBarred 114 = .ok (.goto (-108), 3) := by decide +kernel
theorem dX10_isBarred_117 : decode cX10_isBarred 117 = .ok (.iload 4, 2) := by decide +kernel
theorem dX10_isBarred_119 : decode cX10_isBarred 119 = .ok (.ireturn, 1) := by decide +kernel
theorem dX10_slopeAt_0 : decode cX10_slopeAt 0 = .ok (.aload_n 0, 1) := by decide +kernel
theorem dX10_slopeAt_1 : decode cX10_slopeAt 1 = .ok (.iload_n 2, 1) := by decide +kernel
theorem dX10_slopeAt_2 : decode cX10_slopeAt 2 = .ok (.iload_n 3, 1) := by decide +kernel
theorem dX10_slopeAt_3 : decode cX10_slopeAt 3 = .ok (.invokevirtual 323, 3) := by decide +kernel
theorem dX10_slopeAt_6 : decode cX10_slopeAt 6 = .ok (.aload_n 0, 1) := by decide +kernel
theorem dX10_slopeAt_7 : decode cX10_slopeAt 7 = .ok (.iload_n 1, 1) := by decide +kernel
theorem dX10_slopeAt_8 : decode cX10_slopeAt 8 = .ok (.iload_n 3, 1) := by decide +kernel
theorem dX10_slopeAt_9 : decode cX10_slopeAt 9 = .ok (.invokevirtual 323, 3) := by decide +kernel
theorem dX10_slopeAt_12 : decode cX10_slopeAt 12 = .ok (.isub, 1) := by decide +kernel
theorem dX10_slopeAt_13 : decode cX10_slopeAt 13 = .ok (.ireturn, 1) := by decide +kernel
theorem dX10_goes_0 : decode cX10_goes 0 = .ok (.iload_n 2, 1) := by decide +kernel
theorem dX10_goes_1 : decode cX10_goes 1 = .ok (.ifCond .ne 7, 3) := by decide +kernel
theorem dX10_goes_4 : decode cX10_goes 4 = .ok (.iload_n 1, 1) := by decide +kernel
theorem dX10_goes_5 : decode cX10_goes 5 = .ok (.goto 9, 3) := by decide +kernel
theorem dX10_goes_8 : decode cX10_goes 8 = .ok (.aload_n 0, 1) := by decide +kernel
theorem dX10_goes_9 : decode cX10_goes 9 = .ok (.iload_n 1, 1) := by decide +kernel
theorem dX10_goes_10 : decode cX10_goes 10 = .ok (.iload_n 2, 1) := by decide +kernel
theorem dX10_goes_11 : decode cX10_goes 11 = .ok (.invokevirtual 320, 3) := by decide +kernel
theorem dX10_goes_14 : decode cX10_goes 14 = .ok (.istore 4, 2) := by decide +kernel
theorem dX10_goes_16 : decode cX10_goes 16 = .ok (.iload_n 2, 1) := by decide +kernel
theorem dX10_goes_17 : decode cX10_goes 17 = .ok (.ifCond .eq 8, 3) := by decide +kernel
theorem dX10_goes_20 : decode cX10_goes 20 = .ok (.iload 4, 2) := by decide +kernel
theorem dX10_goes_22 : decode cX10_goes 22 = .ok (.ifCond .ge 6, 3) := by decide +kernel
theorem dX10_goes_25 : decode cX10_goes 25 = .ok (.iload 4, 2) := by decide +kernel
theorem dX10_goes_27 : decode cX10_goes 27 = .ok (.ireturn, 1) := by decide +kernel
theorem dX10_goes_28 : decode cX10_goes 28 = .ok (.aload_n 0, 1) := by decide +kernel
theorem dX10_goes_29 : decode cX10_goes 29 = .ok (.iload_n 1, 1) := by decide +kernel
theorem dX10_goes_30 : decode cX10_goes 30 = .ok (.iload 4, 2) := by decide +kernel
theorem dX10_goes_32 : decode cX10_goes 32 = .ok (.iload_n 3, 1) := by decide +kernel
theorem dX10_goes_33 : decode cX10_goes 33 = .ok (.invokevirtual 344, 3) := by decide +kernel
theorem dX10_goes_36 : decode cX10_goes 36 = .ok (.ifCond .ne 18, 3) := by decide +kernel
theorem dX10_goes_39 : decode cX10_goes 39 = .ok (.aload_n 0, 1) := by decide +kernel
theorem dX10_goes_40 : decode cX10_goes 40 = .ok (.iload_n 1, 1) := by decide +kernel
theorem dX10_goes_41 : decode cX10_goes 41 = .ok (.iload 4, 2) := by decide +kernel
theorem dX10_goes_43 : decode cX10_goes 43 = .ok (.iload_n 3, 1) := by decide +kernel
theorem dX10_goes_44 : decode cX10_goes 44 = .ok (.invokevirtual 348, 3) := by decide +kernel
theorem dX10_goes_47 : decode cX10_goes 47 = .ok (.aload_n 0, 1) := by decide +kernel
theorem dX10_goes_48 : decode cX10_goes 48 = .ok (.getfield 68, 3) := by decide +kernel
theorem dX10_goes_51 : decode cX10_goes 51 = .ok (.if_icmp .le 7, 3) := by decide +kernel
theorem dX10_goes_54 : decode cX10_goes 54 = .ok (.iconst (-1), 1) := by decide +kernel
theorem dX10_goes_55 : decode cX10_goes 55 = .ok (.goto 5, 3) := by decide +kernel
theorem dX10_goes_58 : decode cX10_goes 58 = .ok (.iload 4, 2) := by decide +kernel
theorem dX10_goes_60 : decode cX10_goes 60 = .ok (.ireturn, 1) := by decide +kernel
theorem dX10_costOf_0 : decode cX10_costOf 0 = .ok (.iload_n 1, 1) := by decide +kernel
theorem dX10_costOf_1 : decode cX10_costOf 1 = .ok (.iload_n 2, 1) := by decide +kernel
theorem dX10_costOf_2 : decode cX10_costOf 2 = .ok (.if_icmp .ne 7, 3) := by decide +kernel
theorem dX10_costOf_5 : decode cX10_costOf 5 = .ok (.iconst 0, 1) := by decide +kernel
theorem dX10_costOf_6 : decode cX10_costOf 6 = .ok (.goto 10, 3) := by decide +kernel
theorem dX10_costOf_9 : decode cX10_costOf 9 = .ok (.aload_n 0, 1) := by decide +kernel
theorem dX10_costOf_10 : decode cX10_costOf 10 = .ok (.iload_n 1, 1) := by decide +kernel
theorem dX10_costOf_11 : decode cX10_costOf 11 = .ok (.iload_n 2, 1) := by decide +kernel
theorem dX10_costOf_12 : decode cX10_costOf 12 = .ok (.iload_n 3, 1) := by decide +kernel
theorem dX10_costOf_13 : decode cX10_costOf 13 = .ok (.invokevirtual 348, 3) := by decide +kernel
theorem dX10_costOf_16 : decode cX10_costOf 16 = .ok (.istore 4, 2) := by decide +kernel
theorem dX10_costOf_18 : decode cX10_costOf 18 = .ok (.iload 4, 2) := by decide +kernel
theorem dX10_costOf_20 : decode cX10_costOf 20 = .ok (.ifCond .ge 7, 3) := by decide +kernel
theorem dX10_costOf_23 : decode cX10_costOf 23 = .ok (.iconst 0, 1) := by decide +kernel
theorem dX10_costOf_24 : decode cX10_costOf 24 = .ok (.goto 5, 3) := by decide +kernel
theorem dX10_costOf_27 : decode cX10_costOf 27 = .ok (.iload 4, 2) := by decide +kernel
theorem dX10_costOf_29 : decode cX10_costOf 29 = .ok (.ireturn, 1) := by decide +kernel
theorem dX10_pass_0 : decode cX10_pass 0 = .ok (.iload_n 1, 1) := by decide +kernel
theorem dX10_pass_1 : decode cX10_pass 1 = .ok (.i2l, 1) := by decide +kernel
theorem dX10_pass_2 : decode cX10_pass 2 = .ok (.lconst 1, 1) := by decide +kernel
theorem dX10_pass_3 : decode cX10_pass 3 = .ok (.ldc2_w 351, 3) := by decide +kernel
theorem dX10_pass_6 : decode cX10_pass 6 = .ok (.invokestatic 165, 3) := by decide +kernel
theorem dX10_pass_9 : decode cX10_pass 9 = .ok (.ifCond .ne 6, 3) := by decide +kernel
theorem dX10_pass_12 : decode cX10_pass 12 = .ok (.ldc 175, 2) := by decide +kernel
theorem dX10_pass_14 : decode cX10_pass 14 = .ok (.ireturn, 1) := by decide +kernel
theorem dX10_pass_15 : decode cX10_pass 15 = .ok (.aload_n 0, 1) := by decide +kernel
theorem dX10_pass_16 : decode cX10_pass 16 = .ok (.getfield 291, 3) := by decide +kernel
theorem dX10_pass_19 : decode cX10_pass 19 = .ok (.iload_n 1, 1) := by decide +kernel
theorem dX10_pass_20 : decode cX10_pass 20 = .ok (.iadd, 1) := by decide +kernel
theorem dX10_pass_21 : decode cX10_pass 21 = .ok (.ldc_w 353, 3) := by decide +kernel
theorem dX10_pass_24 : decode cX10_pass 24 = .ok (.if_icmp .le 6, 3) := by decide +kernel
theorem dX10_pass_27 : decode cX10_pass 27 = .ok (.ldc 179, 2) := by decide +kernel
theorem dX10_pass_29 : decode cX10_pass 29 = .ok (.ireturn, 1) := by decide +kernel
theorem dX10_pass_30 : decode cX10_pass 30 = .ok (.aload_n 0, 1) := by decide +kernel
theorem dX10_pass_31 : decode cX10_pass 31 = .ok (.dup, 1) := by decide +kernel
theorem dX10_pass_32 : decode cX10_pass 32 = .ok (.getfield 291, 3) := by decide +kernel
theorem dX10_pass_35 : decode cX10_pass 35 = .ok (.iload_n 1, 1) := by decide +kernel
theorem dX10_pass_36 : decode cX10_pass 36 = .ok (.iadd, 1) := by decide +kernel
theorem dX10_pass_37 : decode cX10_pass 37 = .ok (.putfield 291, 3) := by decide +kernel
theorem dX10_pass_40 : decode cX10_pass 40 = .ok (.aload_n 0, 1) := by decide +kernel
theorem dX10_pass_41 : decode cX10_pass 41 = .ok (.getfield 291, 3) := by decide +kernel
