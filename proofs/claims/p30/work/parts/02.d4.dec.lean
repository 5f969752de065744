theorem dL_alike_0 : decode cL_alike 0 = .ok (.aload_n 0, 1) := by decide +kernel
theorem dL_alike_1 : decode cL_alike 1 = .ok (.invokevirtual 190, 3) := by decide +kernel
theorem dL_alike_4 : decode cL_alike 4 = .ok (.aload_n 1, 1) := by decide +kernel
theorem dL_alike_5 : decode cL_alike 5 = .ok (.invokevirtual 190, 3) := by decide +kernel
theorem dL_alike_8 : decode cL_alike 8 = .ok (.if_icmp .ne 7, 3) := by decide +kernel
theorem dL_alike_11 : decode cL_alike 11 = .ok (.iconst 1, 1) := by decide +kernel
theorem dL_alike_12 : decode cL_alike 12 = .ok (.goto 4, 3) := by decide +kernel
theorem dL_alike_15 : decode cL_alike 15 = .ok (.iconst 0, 1) := by decide +kernel
theorem dL_alike_16 : decode cL_alike 16 = .ok (.istore_n 3, 1) := by decide +kernel
theorem dL_alike_17 : decode cL_alike 17 = .ok (.iconst 0, 1) := by decide +kernel
theorem dL_alike_18 : decode cL_alike 18 = .ok (.istore 4, 2) := by decide +kernel
theorem dL_alike_20 : decode cL_alike 20 = .ok (.iload 4, 2) := by decide +kernel
theorem dL_alike_22 : decode cL_alike 22 = .ok (.bipush 6, 2) := by decide +kernel
theorem dL_alike_24 : decode cL_alike 24 = .ok (.if_icmp .ge 40, 3) := by decide +kernel
theorem dL_alike_27 : decode cL_alike 27 = .ok (.iload_n 3, 1) := by decide +kernel
theorem dL_alike_28 : decode cL_alike 28 = .ok (.ifCond .eq 36, 3) := by decide +kernel
theorem dL_alike_31 : decode cL_alike 31 = .ok (.aload_n 0, 1) := by decide +kernel
theorem dL_alike_32 : decode cL_alike 32 = .ok (.iconst 1, 1) := by decide +kernel
theorem dL_alike_33 : decode cL_alike 33 = .ok (.iload 4, 2) := by decide +kernel
theorem dL_alike_35 : decode cL_alike 35 = .ok (.iconst 0, 1) := by decide +kernel
theorem dL_alike_36 : decode cL_alike 36 = .ok (.iconst 0, 1) := by decide +kernel
theorem dL_alike_37 : decode cL_alike 37 = .ok (.invokestatic 166, 3) := by decide +kernel
theorem dL_alike_40 : decode cL_alike 40 = .ok (.aload_n 1, 1) := by decide +kernel
theorem dL_alike_41 : decode cL_alike 41 = .ok (.iconst 1, 1) := by decide +kernel
theorem dL_alike_42 : decode cL_alike 42 = .ok (.iload 4, 2) := by decide +kernel
theorem dL_alike_44 : decode cL_alike 44 = .ok (.iconst 0, 1) := by decide +kernel
theorem dL_alike_45 : decode cL_alike 45 = .ok (.iconst 0, 1) := by decide +kernel
theorem dL_alike_46 : decode cL_alike 46 = .ok (.invokestatic 166, 3) := by decide +kernel
theorem dL_alike_49 : decode cL_alike 49 = .ok (.if_icmp .ne 7, 3) := by decide +kernel
theorem dL_alike_52 : decode cL_alike 52 = .ok (.iconst 1, 1) := by decide +kernel
theorem dL_alike_53 : decode cL_alike 53 = .ok (.goto 4, 3) := by decide +kernel
theorem dL_alike_56 : decode cL_alike 56 = .ok (.iconst 0, 1) := by decide +kernel
theorem dL_alike_57 : decode cL_alike 57 = .ok (.istore_n 3, 1) := by decide +kernel
theorem dL_alike_58 : decode cL_alike 58 = .ok (.iinc 4 1, 3) := by decide +kernel
theorem dL_alike_61 : decode cL_alike 61 = .ok (.goto (-41), 3) := by decide +kernel
theorem dL_alike_64 : decode cL_alike 64 = .ok (.aload_n 0, 1) := by decide +kernel
theorem dL_alike_65 : decode cL_alike 65 = .ok (.iconst 1, 1) := by decide +kernel
theorem dL_alike_66 : decode cL_alike 66 = .ok (.iconst 0, 1) := by decide +kernel
theorem dL_alike_67 : decode cL_alike 67 = .ok (.iconst 0, 1) := by decide +kernel
theorem dL_alike_68 : decode cL_alike 68 = .ok (.iconst 0, 1) := by decide +kernel
theorem dL_alike_69 : decode cL_alike 69 = .ok (.invokestatic 166, 3) := by decide +kernel
theorem dL_alike_72 : decode cL_alike 72 = .ok (.istore 4, 2) := by decide +kernel
theorem dL_alike_74 : decode cL_alike 74 = .ok (.iconst 0, 1) := by decide +kernel
theorem dL_alike_75 : decode cL_alike 75 = .ok (.istore 5, 2) := by decide +kernel
theorem dL_alike_77 : decode cL_alike 77 = .ok (.iload 5, 2) := by decide +kernel
theorem dL_alike_79 : decode cL_alike 79 = .ok (.iload 4, 2) := by decide +kernel
theorem dL_alike_81 : decode cL_alike 81 = .ok (.if_icmp .ge 150, 3) := by decide +kernel
theorem dL_alike_84 : decode cL_alike 84 = .ok (.iload_n 3, 1) := by decide +kernel
theorem dL_alike_85 : decode cL_alike 85 = .ok (.ifCond .eq 146, 3) := by decide +kernel
theorem dL_alike_88 : decode cL_alike 88 = .ok (.aload_n 0, 1) := by decide +kernel
theorem dL_alike_89 : decode cL_alike 89 = .ok (.iconst 2, 1) := by decide +kernel
theorem dL_alike_90 : decode cL_alike 90 = .ok (.iload 5, 2) := by decide +kernel
theorem dL_alike_92 : decode cL_alike 92 = .ok (.iload_n 2, 1) := by decide +kernel
theorem dL_alike_93 : decode cL_alike 93 = .ok (.iload 4, 2) := by decide +kernel
theorem dL_alike_95 : decode cL_alike 95 = .ok (.irem, 1) := by decide +kernel
theorem dL_alike_96 : decode cL_alike 96 = .ok (.iconst 0, 1) := by decide +kernel
theorem dL_alike_97 : decode cL_alike 97 = .ok (.invokestatic 166, 3) := by decide +kernel
theorem dL_alike_100 : decode cL_alike 100 = .ok (.aload_n 1, 1) := by decide +kernel
theorem dL_alike_101 : decode cL_alike 101 = .ok (.iconst 2, 1) := by decide +kernel
theorem dL_alike_102 : decode cL_alike 102 = .ok (.iload 5, 2) := by decide +kernel
theorem dL_alike_104 : decode cL_alike 104 = .ok (.iload_n 2, 1) := by decide +kernel
theorem dL_alike_105 : decode cL_alike 105 = .ok (.iload 4, 2) := by decide +kernel
theorem dL_alike_107 : decode cL_alike 107 = .ok (.irem, 1) := by decide +kernel
theorem dL_alike_108 : decode cL_alike 108 = .ok (.iconst 0, 1) := by decide +kernel
theorem dL_alike_109 : decode cL_alike 109 = .ok (.invokestatic 166, 3) := by decide +kernel
theorem dL_alike_112 : decode cL_alike 112 = .ok (.if_icmp .ne 111, 3) := by decide +kernel
theorem dL_alike_115 : decode cL_alike 115 = .ok (.aload_n 0, 1) := by decide +kernel
theorem dL_alike_116 : decode cL_alike 116 = .ok (.iconst 3, 1) := by decide +kernel
theorem dL_alike_117 : decode cL_alike 117 = .ok (.iload 5, 2) := by decide +kernel
theorem dL_alike_119 : decode cL_alike 119 = .ok (.iload_n 2, 1) := by decide +kernel
theorem dL_alike_120 : decode cL_alike 120 = .ok (.iconst 4, 1) := by decide +kernel
theorem dL_alike_121 : decode cL_alike 121 = .ok (.irem, 1) := by decide +kernel
theorem dL_alike_122 : decode cL_alike 122 = .ok (.iconst 0, 1) := by decide +kernel
theorem dL_alike_123 : decode cL_alike 123 = .ok (.invokestatic 166, 3) := by decide +kernel
theorem dL_alike_126 : decode cL_alike 126 = .ok (.aload_n 1, 1) := by decide +kernel
theorem dL_alike_127 : decode cL_alike 127 = .ok (.iconst 3, 1) := by decide +kernel
theorem dL_alike_128 : decode cL_alike 128 = .ok (.iload 5, 2) := by decide +kernel
theorem dL_alike_130 : decode cL_alike 130 = .ok (.iload_n 2, 1) := by decide +kernel
theorem dL_alike_131 : decode cL_alike 131 = .ok (.iconst 4, 1) := by decide +kernel
theorem dL_alike_132 : decode cL_alike 132 = .ok (.irem, 1) := by decide +kernel
theorem dL_alike_133 : decode cL_alike 133 = .ok (.iconst 0, 1) := by decide +kernel
theorem dL_alike_134 : decode cL_alike 134 = .ok (.invokestatic 166, 3) := by decide +kernel
theorem dL_alike_137 : decode cL_alike 137 = .ok (.if_icmp .ne 86, 3) := by decide +kernel
theorem dL_alike_140 : decode cL_alike 140 = .ok (.aload_n 0, 1) := by decide +kernel
theorem dL_alike_141 : decode cL_alike 141 = .ok (.iload 5, 2) := by decide +kernel
theorem dL_alike_143 : decode cL_alike 143 = .ok (.iload_n 2, 1) := by decide +kernel
theorem dL_alike_144 : decode cL_alike 144 = .ok (.bipush 6, 2) := by decide +kernel
theorem dL_alike_146 : decode cL_alike 146 = .ok (.irem, 1) := by decide +kernel
theorem dL_alike_147 : decode cL_alike 147 = .ok (.iconst 1, 1) := by decide +kernel
theorem dL_alike_148 : decode cL_alike 148 = .ok (.invokestatic 170, 3) := by decide +kernel
theorem dL_alike_151 : decode cL_alike 151 = .ok (.aload_n 1, 1) := by decide +kernel
theorem dL_alike_152 : decode cL_alike 152 = .ok (.iload 5, 2) := by decide +kernel
theorem dL_alike_154 : decode cL_alike 154 = .ok (.iload_n 2, 1) := by decide +kernel
theorem dL_alike_155 : decode cL_alike 155 = .ok (.bipush 6, 2) := by decide +kernel
theorem dL_alike_157 : decode cL_alike 157 = .ok (.irem, 1) := by decide +kernel
theorem dL_alike_158 : decode cL_alike 158 = .ok (.iconst 1, 1) := by decide +kernel
theorem dL_alike_159 : decode cL_alike 159 = .ok (.invokestatic 170, 3) := by decide +kernel
theorem dL_alike_162 : decode cL_alike 162 = .ok (.if_icmp .ne 61, 3) := by decide +kernel
theorem dL_alike_165 : decode cL_alike 165 = .ok (.aload_n 0, 1) := by decide +kernel
theorem dL_alike_166 : decode cL_alike 166 = .ok (.iload 5, 2) := by decide +kernel
theorem dL_alike_168 : decode cL_alike 168 = .ok (.iload_n 2, 1) := by decide +kernel
theorem dL_alike_169 : decode cL_alike 169 = .ok (.bipush 6, 2) := by decide +kernel
theorem dL_alike_171 : decode cL_alike 171 = .ok (.irem, 1) := by decide +kernel
theorem dL_alike_172 : decode cL_alike 172 = .ok (.iconst 0, 1) := by decide +kernel
theorem dL_alike_173 : decode cL_alike 173 = .ok (.invokestatic 170, 3) := by decide +kernel
theorem dL_alike_176 : decode cL_alike 176 = .ok (.aload_n 1, 1) := by decide +kernel
theorem dL_alike_177 : decode cL_alike 177 = .ok (.iload 5, 2) := by decide +kernel
theorem dL_alike_179 : decode cL_alike 179 = .ok (.iload_n 2, 1) := by decide +kernel
theorem dL_alike_180 : decode cL_alike 180 = .ok (.bipush 6, 2) := by decide +kernel
theorem dL_alike_182 : decode cL_alike 182 = .ok (.irem, 1) := by decide +kernel
theorem dL_alike_183 : decode cL_alike 183 = .ok (.iconst 0, 1) := by decide +kernel
theorem dL_alike_184 : decode cL_alike 184 = .ok (.invokestatic 170, 3) := by decide +kernel
theorem dL_alike_187 : decode cL_alike 187 = .ok (.if_icmp .ne 36, 3) := by decide +kernel
theorem dL_alike_190 : decode cL_alike 190 = .ok (.aload_n 0, 1) := by decide +kernel
theorem dL_alike_191 : decode cL_alike 191 = .ok (.bipush 13, 2) := by decide +kernel
theorem dL_alike_193 : decode cL_alike 193 = .ok (.iload 5, 2) := by decide +kernel
theorem dL_alike_195 : decode cL_alike 195 = .ok (.iload_n 2, 1) := by decide +kernel
theorem dL_alike_196 : decode cL_alike 196 = .ok (.bipush 6, 2) := by decide +kernel
theorem dL_alike_198 : decode cL_alike 198 = .ok (.irem, 1) := by decide +kernel
theorem dL_alike_199 : decode cL_alike 199 = .ok (.iconst 0, 1) := by decide +kernel
theorem dL_alike_200 : decode cL_alike 200 = .ok (.invokestatic 166, 3) := by decide +kernel
theorem dL_alike_203 : decode cL_alike 203 = .ok (.aload_n 1, 1) := by decide +kernel
theorem dL_alike_204 : decode cL_alike 204 = .ok (.bipush 13, 2) := by decide +kernel
theorem dL_alike_206 : decode cL_alike 206 = .ok (.iload 5, 2) := by decide +kernel
theorem dL_alike_208 : decode cL_alike 208 = .ok (.iload_n 2, 1) := by decide +kernel
theorem dL_alike_209 : decode cL_alike 209 = .ok (.bipush 6, 2) := by decide +kernel
theorem dL_alike_211 : decode cL_alike 211 = .ok (.irem, 1) := by decide +kernel
theorem dL_alike_212 : decode cL_alike 212 = .ok (.iconst 0, 1) := by decide +kernel
theorem dL_alike_213 : decode cL_alike 213 = .ok (.invokestatic 166, 3) := by decide +kernel
theorem dL_alike_216 : decode cL_alike 216 = .ok (.if_icmp .ne 7, 3) := by decide +kernel
theorem dL_alike_219 : decode cL_alike 219 = .ok (.iconst 1, 1) := by decide +kernel
theorem dL_alike_220 : decode cL_alike 220 = .ok (.goto 4, 3) := by decide +kernel
theorem dL_alike_223 : decode cL_alike 223 = .ok (.iconst 0, 1) := by decide +kernel
theorem dL_alike_224 : decode cL_alike 224 = .ok (.istore_n 3, 1) := by decide +kernel
theorem dL_alike_225 : decode cL_alike 225 = .ok (.iinc 5 1, 3) := by decide +kernel
theorem dL_alike_228 : decode cL_alike 228 = .ok (.goto (-151), 3) := by decide +kernel
theorem dL_alike_231 : decode cL_alike 231 = .ok (.iload_n 3, 1) := by decide +kernel
theorem dL_alike_232 : decode cL_alike 232 = .ok (.ifCond .eq 158, 3) := by decide +kernel
theorem dL_alike_235 : decode cL_alike 235 = .ok (.aload_n 0, 1) := by decide +kernel
theorem dL_alike_236 : decode cL_alike 236 = .ok (.bipush 11, 2) := by decide +kernel
theorem dL_alike_238 : decode cL_alike 238 = .ok (.iload_n 2, 1) := by decide +kernel
theorem dL_alike_239 : decode cL_alike 239 = .ok (.bipush 8, 2) := by decide +kernel
theorem dL_alike_241 : decode cL_alike 241 = .ok (.idiv, 1) := by decide +kernel
theorem dL_alike_242 : decode cL_alike 242 = .ok (.bipush 6, 2) := by decide +kernel
theorem dL_alike_244 : decode cL_alike 244 = .ok (.irem, 1) := by decide +kernel
theorem dL_alike_245 : decode cL_alike 245 = .ok (.iload_n 2, 1) := by decide +kernel
theorem dL_alike_246 : decode cL_alike 246 = .ok (.iconst 3, 1) := by decide +kernel
theorem dL_alike_247 : decode cL_alike 247 = .ok (.irem, 1) := by decide +kernel
theorem dL_alike_248 : decode cL_alike 248 = .ok (.iconst 0, 1) := by decide +kernel
theorem dL_alike_249 : decode cL_alike 249 = .ok (.invokestatic 166, 3) := by decide +kernel
theorem dL_alike_252 : decode cL_alike 252 = .ok (.aload_n 1, 1) := by decide +kernel
theorem dL_alike_253 : decode cL_alike 253 = .ok (.bipush 11, 2) := by decide +kernel
theorem dL_alike_255 : decode cL_alike 255 = .ok (.iload_n 2, 1) := by decide +kernel
theorem dL_alike_256 : decode cL_alike 256 = .ok (.bipush 8, 2) := by decide +kernel
theorem dL_alike_258 : decode cL_alike 258 = .ok (.idiv, 1) := by decide +kernel
theorem dL_alike_259 : decode cL_alike 259 = .ok (.bipush 6, 2) := by decide +kernel
theorem dL_alike_261 : decode cL_alike 261 = .ok (.irem, 1) := by decide +kernel
theorem dL_alike_262 : decode cL_alike 262 = .ok (.iload_n 2, 1) := by decide +kernel
theorem dL_alike_263 : decode cL_alike 263 = .ok (.iconst 3, 1) := by decide +kernel
theorem dL_alike_264 : decode cL_alike 264 = .ok (.irem, 1) := by decide +kernel
theorem dL_alike_265 : decode cL_alike 265 = .ok (.iconst 0, 1) := by decide +kernel
theorem dL_alike_266 : decode cL_alike 266 = .ok (.invokestatic 166, 3) := by decide +kernel
theorem dL_alike_269 : decode cL_alike 269 = .ok (.if_icmp .ne 121, 3) := by decide +kernel
theorem dL_alike_272 : decode cL_alike 272 = .ok (.aload_n 0, 1) := by decide +kernel
theorem dL_alike_273 : decode cL_alike 273 = .ok (.bipush 12, 2) := by decide +kernel
theorem dL_alike_275 : decode cL_alike 275 = .ok (.iload_n 2, 1) := by decide +kernel
theorem dL_alike_276 : decode cL_alike 276 = .ok (.bipush 6, 2) := by decide +kernel
theorem dL_alike_278 : decode cL_alike 278 = .ok (.irem, 1) := by decide +kernel
theorem dL_alike_279 : decode cL_alike 279 = .ok (.iconst 0, 1) := by decide +kernel
theorem dL_alike_280 : decode cL_alike 280 = .ok (.iconst 0, 1) := by decide +kernel
theorem dL_alike_281 : decode cL_alike 281 = .ok (.invokestatic 166, 3) := by decide +kernel
theorem dL_alike_284 : decode cL_alike 284 = .ok (.aload_n 1, 1) := by decide +kernel
theorem dL_alike_285 : decode cL_alike 285 = .ok (.bipush 12, 2) := by decide +kernel
theorem dL_alike_287 : decode cL_alike 287 = .ok (.iload_n 2, 1) := by decide +kernel
theorem dL_alike_288 : decode cL_alike 288 = .ok (.bipush 6, 2) := by decide +kernel
theorem dL_alike_290 : decode cL_alike 290 = .ok (.irem, 1) := by decide +kernel
theorem dL_alike_291 : decode cL_alike 291 = .ok (.iconst 0, 1) := by decide +kernel
theorem dL_alike_292 : decode cL_alike 292 = .ok (.iconst 0, 1) := by decide +kernel
theorem dL_alike_293 : decode cL_alike 293 = .ok (.invokestatic 166, 3) := by decide +kernel
theorem dL_alike_296 : decode cL_alike 296 = .ok (.if_icmp .ne 94, 3) := by decide +kernel
theorem dL_alike_299 : decode cL_alike 299 = .ok (.aload_n 0, 1) := by decide +kernel
theorem dL_alike_300 : decode cL_alike 300 = .ok (.bipush 14, 2) := by decide +kernel
theorem dL_alike_302 : decode cL_alike 302 = .ok (.iload_n 2, 1) := by decide +kernel
theorem dL_alike_303 : decode cL_alike 303 = .ok (.bipush 6, 2) := by decide +kernel
theorem dL_alike_305 : decode cL_alike 305 = .ok (.irem, 1) := by decide +kernel
theorem dL_alike_306 : decode cL_alike 306 = .ok (.iload_n 2, 1) := by decide +kernel
theorem dL_alike_307 : decode cL_alike 307 = .ok (.bipush 16, 2) := by decide +kernel
theorem dL_alike_309 : decode cL_alike 309 = .ok (.idiv, 1) := by decide +kernel
theorem dL_alike_310 : decode cL_alike 310 = .ok (.iconst 4, 1) := by decide +kernel
theorem dL_alike_311 : decode cL_alike 311 = .ok (.irem, 1) := by decide +kernel
theorem dL_alike_312 : decode cL_alike 312 = .ok (.iconst 0, 1) := by decide +kernel
theorem dL_alike_313 : decode cL_alike 313 = .ok (.invokestatic 166, 3) := by decide +kernel
theorem dL_alike_316 : decode cL_alike 316 = .ok (.aload_n 1, 1) := by decide +kernel
theorem dL_alike_317 : decode cL_alike 317 = .ok (.bipush 14, 2) := by decide +kernel
theorem dL_alike_319 : decode cL_alike 319 = .ok (.iload_n 2, 1) := by decide +kernel
theorem dL_alike_320 : decode cL_alike 320 = .ok (.bipush 6, 2) := by decide +kernel
theorem dL_alike_322 : decode cL_alike 322 = .ok (.irem, 1) := by decide +kernel
theorem dL_alike_323 : decode cL_alike 323 = .ok (.iload_n 2, 1) := by decide +kernel
theorem dL_alike_324 : decode cL_alike 324 = .ok (.bipush 16, 2) := by decide +kernel
theorem dL_alike_326 : decode cL_alike 326 = .ok (.idiv, 1) := by decide +kernel
theorem dL_alike_327 : decode cL_alike 327 = .ok (.iconst 4, 1) := by decide +kernel
theorem dL_alike_328 : decode cL_alike 328 = .ok (.irem, 1) := by decide +kernel
theorem dL_alike_329 : decode cL_alike 329 = .ok (.iconst 0, 1) := by decide +kernel
theorem dL_alike_330 : decode cL_alike 330 = .ok (.invokestatic 166, 3) := by decide +kernel
theorem dL_alike_333 : decode cL_alike 333 = .ok (.if_icmp .ne 57, 3) := by decide +kernel
theorem dL_alike_336 : decode cL_alike 336 = .ok (.iload 4, 2) := by decide +kernel
theorem dL_alike_338 : decode cL_alike 338 = .ok (.ifCond .eq 48, 3) := by decide +kernel
theorem dL_alike_341 : decode cL_alike 341 = .ok (.aload_n 0, 1) := by decide +kernel
theorem dL_alike_342 : decode cL_alike 342 = .ok (.bipush 15, 2) := by decide +kernel
theorem dL_alike_344 : decode cL_alike 344 = .ok (.iload_n 2, 1) := by decide +kernel
theorem dL_alike_345 : decode cL_alike 345 = .ok (.iload 4, 2) := by decide +kernel
theorem dL_alike_347 : decode cL_alike 347 = .ok (.irem, 1) := by decide +kernel
theorem dL_alike_348 : decode cL_alike 348 = .ok (.iload_n 2, 1) := by decide +kernel
theorem dL_alike_349 : decode cL_alike 349 = .ok (.bipush 16, 2) := by decide +kernel
theorem dL_alike_351 : decode cL_alike 351 = .ok (.idiv, 1) := by decide +kernel
theorem dL_alike_352 : decode cL_alike 352 = .ok (.iload 4, 2) := by decide +kernel
theorem dL_alike_354 : decode cL_alike 354 = .ok (.irem, 1) := by decide +kernel
theorem dL_alike_355 : decode cL_alike 355 = .ok (.iload_n 2, 1) := by decide +kernel
theorem dL_alike_356 : decode cL_alike 356 = .ok (.bipush 6, 2) := by decide +kernel
theorem dL_alike_358 : decode cL_alike 358 = .ok (.irem, 1) := by decide +kernel
theorem dL_alike_359 : decode cL_alike 359 = .ok (.invokestatic 166, 3) := by decide +kernel
theorem dL_alike_362 : decode cL_alike 362 = .ok (.aload_n 1, 1) := by decide +kernel
theorem dL_alike_363 : decode cL_alike 363 = .ok (.bipush 15, 2) := by decide +kernel
theorem dL_alike_365 : decode cL_alike 365 = .ok (.iload_n 2, 1) := by decide +kernel
theorem dL_alike_366 : decode cL_alike 366 = .ok (.iload 4, 2) := by decide +kernel
theorem dL_alike_368 : decode cL_alike 368 = .ok (.irem, 1) := by decide +kernel
theorem dL_alike_369 : decode cL_alike 369 = .ok (.iload_n 2, 1) := by decide +kernel
theorem dL_alike_370 : decode cL_alike 370 = .ok (.bipush 16, 2) := by decide +kernel
theorem dL_alike_372 : decode cL_alike 372 = .ok (.idiv, 1) := by decide +kernel
theorem dL_alike_373 : decode cL_alike 373 = .ok (.iload 4, 2) := by decide +kernel
theorem dL_alike_375 : decode cL_alike 375 = .ok (.irem, 1) := by decide +kernel
theorem dL_alike_376 : decode cL_alike 376 = .ok (.iload_n 2, 1) := by decide +kernel
theorem dL_alike_377 : decode cL_alike 377 = .ok (.bipush 6, 2) := by decide +kernel
theorem dL_alike_379 : decode cL_alike 379 = .ok (.irem, 1) := by decide +kernel
theorem dL_alike_380 : decode cL_alike 380 = .ok (.invokestatic 166, 3) := by decide +kernel
theorem dL_alike_383 : decode cL_alike 383 = .ok (.if_icmp .ne 7, 3) := by decide +kernel
theorem dL_alike_386 : decode cL_alike 386 = .ok (.iconst 1, 1) := by decide +kernel
theorem dL_alike_387 : decode cL_alike 387 = .ok (.goto 4, 3) := by decide +kernel
theorem dL_alike_390 : decode cL_alike 390 = .ok (.iconst 0, 1) := by decide +kernel
theorem dL_alike_391 : decode cL_alike 391 = .ok (.ireturn, 1) := by decide +kernel
theorem dL_holds_0 : decode cL_holds 0 = .ok (.aload_n 0, 1) := by decide +kernel
theorem dL_holds_1 : decode cL_holds 1 = .ok (.iconst 1, 1) := by decide +kernel
theorem dL_holds_2 : decode cL_holds 2 = .ok (.iconst 0, 1) := by decide +kernel
theorem dL_holds_3 : decode cL_holds 3 = .ok (.iconst 0, 1) := by decide +kernel
theorem dL_holds_4 : decode cL_holds 4 = .ok (.iconst 0, 1) := by decide +kernel
theorem dL_holds_5 : decode cL_holds 5 = .ok (.invokestatic 166, 3) := by decide +kernel
theorem dL_holds_8 : decode cL_holds 8 = .ok (.istore_n 2, 1) := by decide +kernel
theorem dL_holds_9 : decode cL_holds 9 = .ok (.aload_n 0, 1) := by decide +kernel
theorem dL_holds_10 : decode cL_holds 10 = .ok (.iconst 1, 1) := by decide +kernel
theorem dL_holds_11 : decode cL_holds 11 = .ok (.iconst 5, 1) := by decide +kernel
theorem dL_holds_12 : decode cL_holds 12 = .ok (.iconst 0, 1) := by decide +kernel
theorem dL_holds_13 : decode cL_holds 13 = .ok (.iconst 0, 1) := by decide +kernel
theorem dL_holds_14 : decode cL_holds 14 = .ok (.invokestatic 166, 3) := by decide +kernel
theorem dL_holds_17 : decode cL_holds 17 = .ok (.istore_n 3, 1) := by decide +kernel
theorem dL_holds_18 : decode cL_holds 18 = .ok (.iconst 0, 1) := by decide +kernel
theorem dL_holds_19 : decode cL_holds 19 = .ok (.istore 4, 2) := by decide +kernel
theorem dL_holds_21 : decode cL_holds 21 = .ok (.iconst 1, 1) := by decide +kernel
theorem dL_holds_22 : decode cL_holds 22 = .ok (.istore 5, 2) := by decide +kernel
theorem dL_holds_24 : decode cL_holds 24 = .ok (.iconst 0, 1) := by decide +kernel
theorem dL_holds_25 : decode cL_holds 25 = .ok (.istore 6, 2) := by decide +kernel
theorem dL_holds_27 : decode cL_holds 27 = .ok (.iload 6, 2) := by decide +kernel
theorem dL_holds_29 : decode cL_holds 29 = .ok (.bipush 6, 2) := by decide +kernel
theorem dL_holds_31 : decode cL_holds 31 = .ok (.if_icmp .ge 416, 3) := by decide +kernel
theorem dL_holds_34 : decode cL_holds 34 = .ok (.iload 5, 2) := by decide +kernel
theorem dL_holds_36 : decode cL_holds 36 = .ok (.ifCond .eq 411, 3) := by decide +kernel
theorem dL_holds_39 : decode cL_holds 39 = .ok (.aload_n 0, 1) := by decide +kernel
theorem dL_holds_40 : decode cL_holds 40 = .ok (.bipush 10, 2) := by decide +kernel
theorem dL_holds_42 : decode cL_holds 42 = .ok (.iload 6, 2) := by decide +kernel
theorem dL_holds_44 : decode cL_holds 44 = .ok (.iconst 0, 1) := by decide +kernel
theorem dL_holds_45 : decode cL_holds 45 = .ok (.iconst 0, 1) := by decide +kernel
theorem dL_holds_46 : decode cL_holds 46 = .ok (.invokestatic 166, 3) := by decide +kernel
theorem dL_holds_49 : decode cL_holds 49 = .ok (.istore 7, 2) := by decide +kernel
theorem dL_holds_51 : decode cL_holds 51 = .ok (.aload_n 0, 1) := by decide +kernel
theorem dL_holds_52 : decode cL_holds 52 = .ok (.bipush 11, 2) := by decide +kernel
theorem dL_holds_54 : decode cL_holds 54 = .ok (.iload 6, 2) := by decide +kernel
theorem dL_holds_56 : decode cL_holds 56 = .ok (.iconst 0, 1) := by decide +kernel
theorem dL_holds_57 : decode cL_holds 57 = .ok (.iconst 0, 1) := by decide +kernel
theorem dL_holds_58 : decode cL_holds 58 = .ok (.invokestatic 166, 3) := by decide +kernel
theorem dL_holds_61 : decode cL_holds 61 = .ok (.istore 8, 2) := by decide +kernel
theorem dL_holds_63 : decode cL_holds 63 = .ok (.aload_n 0, 1) := by decide +kernel
theorem dL_holds_64 : decode cL_holds 64 = .ok (.bipush 11, 2) := by decide +kernel
theorem dL_holds_66 : decode cL_holds 66 = .ok (.iload 6, 2) := by decide +kernel
theorem dL_holds_68 : decode cL_holds 68 = .ok (.iconst 1, 1) := by decide +kernel
theorem dL_holds_69 : decode cL_holds 69 = .ok (.iconst 0, 1) := by decide +kernel
theorem dL_holds_70 : decode cL_holds 70 = .ok (.invokestatic 166, 3) := by decide +kernel
theorem dL_holds_73 : decode cL_holds 73 = .ok (.istore 9, 2) := by decide +kernel
theorem dL_holds_75 : decode cL_holds 75 = .ok (.aload_n 0, 1) := by decide +kernel
theorem dL_holds_76 : decode cL_holds 76 = .ok (.bipush 11, 2) := by decide +kernel
theorem dL_holds_78 : decode cL_holds 78 = .ok (.iload 6, 2) := by decide +kernel
theorem dL_holds_80 : decode cL_holds 80 = .ok (.iconst 2, 1) := by decide +kernel
theorem dL_holds_81 : decode cL_holds 81 = .ok (.iconst 0, 1) := by decide +kernel
theorem dL_holds_82 : decode cL_holds 82 = .ok (.invokestatic 166, 3) := by decide +kernel
theorem dL_holds_85 : decode cL_holds 85 = .ok (.istore 10, 2) := by decide +kernel
theorem dL_holds_87 : decode cL_holds 87 = .ok (.aload_n 0, 1) := by decide +kernel
theorem dL_holds_88 : decode cL_holds 88 = .ok (.bipush 12, 2) := by decide +kernel
theorem dL_holds_90 : decode cL_holds 90 = .ok (.iload 6, 2) := by decide +kernel
theorem dL_holds_92 : decode cL_holds 92 = .ok (.iconst 0, 1) := by decide +kernel
theorem dL_holds_93 : decode cL_holds 93 = .ok (.iconst 0, 1) := by decide +kernel
theorem dL_holds_94 : decode cL_holds 94 = .ok (.invokestatic 166, 3) := by decide +kernel
theorem dL_holds_97 : decode cL_holds 97 = .ok (.istore 11, 2) := by decide +kernel
theorem dL_holds_99 : decode cL_holds 99 = .ok (.iconst 0, 1) := by decide +kernel
theorem dL_holds_100 : decode cL_holds 100 = .ok (.istore 12, 2) := by decide +kernel
theorem dL_holds_102 : decode cL_holds 102 = .ok (.iconst 0, 1) := by decide +kernel
theorem dL_holds_103 : decode cL_holds 103 = .ok (.istore 13, 2) := by decide +kernel
theorem dL_holds_105 : decode cL_holds 105 = .ok (.iconst 0, 1) := by decide +kernel
theorem dL_holds_106 : decode cL_holds 106 = .ok (.istore 14, 2) := by decide +kernel
theorem dL_holds_108 : decode cL_holds 108 = .ok (.iconst 0, 1) := by decide +kernel
theorem dL_holds_109 : decode cL_holds 109 = .ok (.istore 15, 2) := by decide +kernel
theorem dL_holds_111 : decode cL_holds 111 = .ok (.iload 15, 2) := by decide +kernel
theorem dL_holds_113 : decode cL_holds 113 = .ok (.iload_n 2, 1) := by decide +kernel
theorem dL_holds_114 : decode cL_holds 114 = .ok (.if_icmp .ge 167, 3) := by decide +kernel
theorem dL_holds_117 : decode cL_holds 117 = .ok (.aload_n 0, 1) := by decide +kernel
theorem dL_holds_118 : decode cL_holds 118 = .ok (.iload 15, 2) := by decide +kernel
theorem dL_holds_120 : decode cL_holds 120 = .ok (.iload 6, 2) := by decide +kernel
theorem dL_holds_122 : decode cL_holds 122 = .ok (.iconst 1, 1) := by decide +kernel
theorem dL_holds_123 : decode cL_holds 123 = .ok (.invokestatic 170, 3) := by decide +kernel
theorem dL_holds_126 : decode cL_holds 126 = .ok (.istore 16, 2) := by decide +kernel
theorem dL_holds_128 : decode cL_holds 128 = .ok (.aload_n 0, 1) := by decide +kernel
theorem dL_holds_129 : decode cL_holds 129 = .ok (.iload 15, 2) := by decide +kernel
theorem dL_holds_131 : decode cL_holds 131 = .ok (.iload 6, 2) := by decide +kernel
theorem dL_holds_133 : decode cL_holds 133 = .ok (.iconst 0, 1) := by decide +kernel
theorem dL_holds_134 : decode cL_holds 134 = .ok (.invokestatic 170, 3) := by decide +kernel
theorem dL_holds_137 : decode cL_holds 137 = .ok (.istore 17, 2) := by decide +kernel
theorem dL_holds_139 : decode cL_holds 139 = .ok (.aload_n 0, 1) := by decide +kernel
theorem dL_holds_140 : decode cL_holds 140 = .ok (.bipush 13, 2) := by decide +kernel
theorem dL_holds_142 : decode cL_holds 142 = .ok (.iload 15, 2) := by decide +kernel
theorem dL_holds_144 : decode cL_holds 144 = .ok (.iload 6, 2) := by decide +kernel
theorem dL_holds_146 : decode cL_holds 146 = .ok (.iconst 0, 1) := by decide +kernel
theorem dL_holds_147 : decode cL_holds 147 = .ok (.invokestatic 166, 3) := by decide +kernel
theorem dL_holds_150 : decode cL_holds 150 = .ok (.istore 18, 2) := by decide +kernel
theorem dL_holds_152 : decode cL_holds 152 = .ok (.iload 12, 2) := by decide +kernel
theorem dL_holds_154 : decode cL_holds 154 = .ok (.iload 8, 2) := by decide +kernel
theorem dL_holds_156 : decode cL_holds 156 = .ok (.ifCond .le 13, 3) := by decide +kernel
theorem dL_holds_159 : decode cL_holds 159 = .ok (.iload 8, 2) := by decide +kernel
theorem dL_holds_161 : decode cL_holds 161 = .ok (.iload 15, 2) := by decide +kernel
theorem dL_holds_163 : decode cL_holds 163 = .ok (.ishr, 1) := by decide +kernel
theorem dL_holds_164 : decode cL_holds 164 = .ok (.iconst 1, 1) := by decide +kernel
theorem dL_holds_165 : decode cL_holds 165 = .ok (.iand, 1) := by decide +kernel
theorem dL_holds_166 : decode cL_holds 166 = .ok (.goto 4, 3) := by decide +kernel
theorem dL_holds_169 : decode cL_holds 169 = .ok (.iconst 0, 1) := by decide +kernel
theorem dL_holds_170 : decode cL_holds 170 = .ok (.iadd, 1) := by decide +kernel
theorem dL_holds_171 : decode cL_holds 171 = .ok (.istore 12, 2) := by decide +kernel
theorem dL_holds_173 : decode cL_holds 173 = .ok (.iload 13, 2) := by decide +kernel
theorem dL_holds_175 : decode cL_holds 175 = .ok (.iload 16, 2) := by decide +kernel
theorem dL_holds_177 : decode cL_holds 177 = .ok (.iconst (-1), 1) := by decide +kernel
theorem dL_holds_178 : decode cL_holds 178 = .ok (.if_icmp .ne 7, 3) := by decide +kernel
theorem dL_holds_181 : decode cL_holds 181 = .ok (.iconst 0, 1) := by decide +kernel
theorem dL_holds_182 : decode cL_holds 182 = .ok (.goto 4, 3) := by decide +kernel
theorem dL_holds_185 : decode cL_holds 185 = .ok (.iconst 1, 1) := by decide +kernel
theorem dL_holds_186 : decode cL_holds 186 = .ok (.iadd, 1) := by decide +kernel
theorem dL_holds_187 : decode cL_holds 187 = .ok (.istore 13, 2) := by decide +kernel
theorem dL_holds_189 : decode cL_holds 189 = .ok (.iload 14, 2) := by decide +kernel
theorem dL_holds_191 : decode cL_holds 191 = .ok (.ifCond .ne 16, 3) := by decide +kernel
theorem dL_holds_194 : decode cL_holds 194 = .ok (.iload 16, 2) := by decide +kernel
theorem dL_holds_196 : decode cL_holds 196 = .ok (.iconst (-1), 1) := by decide +kernel
theorem dL_holds_197 : decode cL_holds 197 = .ok (.if_icmp .eq 14, 3) := by decide +kernel
theorem dL_holds_200 : decode cL_holds 200 = .ok (.iload 16, 2) := by decide +kernel
theorem dL_holds_202 : decode cL_holds 202 = .ok (.iload 17, 2) := by decide +kernel
theorem dL_holds_204 : decode cL_holds 204 = .ok (.if_icmp .gt 7, 3) := by decide +kernel
theorem dL_holds_207 : decode cL_holds 207 = .ok (.iconst 1, 1) := by decide +kernel
theorem dL_holds_208 : decode cL_holds 208 = .ok (.goto 4, 3) := by decide +kernel
theorem dL_holds_211 : decode cL_holds 211 = .ok (.iconst 0, 1) := by decide +kernel
theorem dL_holds_212 : decode cL_holds 212 = .ok (.istore 14, 2) := by decide +kernel
theorem dL_holds_214 : decode cL_holds 214 = .ok (.iload 5, 2) := by decide +kernel
theorem dL_holds_216 : decode cL_holds 216 = .ok (.ifCond .eq 56, 3) := by decide +kernel
theorem dL_holds_219 : decode cL_holds 219 = .ok (.iload 18, 2) := by decide +kernel
theorem dL_holds_221 : decode cL_holds 221 = .ok (.iconst (-1), 1) := by decide +kernel
theorem dL_holds_222 : decode cL_holds 222 = .ok (.if_icmp .eq 10, 3) := by decide +kernel
theorem dL_holds_225 : decode cL_holds 225 = .ok (.iload 18, 2) := by decide +kernel
theorem dL_holds_227 : decode cL_holds 227 = .ok (.iload 17, 2) := by decide +kernel
theorem dL_holds_229 : decode cL_holds 229 = .ok (.if_icmp .le 43, 3) := by decide +kernel
theorem dL_holds_232 : decode cL_holds 232 = .ok (.iload 7, 2) := by decide +kernel
theorem dL_holds_234 : decode cL_holds 234 = .ok (.iconst (-1), 1) := by decide +kernel
theorem dL_holds_235 : decode cL_holds 235 = .ok (.if_icmp .eq 22, 3) := by decide +kernel
theorem dL_holds_238 : decode cL_holds 238 = .ok (.iload 16, 2) := by decide +kernel
theorem dL_holds_240 : decode cL_holds 240 = .ok (.iconst (-1), 1) := by decide +kernel
theorem dL_holds_241 : decode cL_holds 241 = .ok (.if_icmp .eq 16, 3) := by decide +kernel
theorem dL_holds_244 : decode cL_holds 244 = .ok (.iload 18, 2) := by decide +kernel
theorem dL_holds_246 : decode cL_holds 246 = .ok (.iconst (-1), 1) := by decide +kernel
theorem dL_holds_247 : decode cL_holds 247 = .ok (.if_icmp .eq 25, 3) := by decide +kernel
theorem dL_holds_250 : decode cL_holds 250 = .ok (.iload 18, 2) := by decide +kernel
theorem dL_holds_252 : decode cL_holds 252 = .ok (.iload 16, 2) := by decide +kernel
theorem dL_holds_254 : decode cL_holds 254 = .ok (.if_icmp .gt 18, 3) := by decide +kernel
theorem dL_holds_257 : decode cL_holds 257 = .ok (.iload 7, 2) := by decide +kernel
theorem dL_holds_259 : decode cL_holds 259 = .ok (.ifCond .ne 9, 3) := by decide +kernel
theorem dL_holds_262 : decode cL_holds 262 = .ok (.iload 18, 2) := by decide +kernel
theorem dL_holds_264 : decode cL_holds 264 = .ok (.iconst (-1), 1) := by decide +kernel
theorem dL_holds_265 : decode cL_holds 265 = .ok (.if_icmp .ne 7, 3) := by decide +kernel
theorem dL_holds_268 : decode cL_holds 268 = .ok (.iconst 1, 1) := by decide +kernel
theorem dL_holds_269 : decode cL_holds 269 = .ok (.goto 4, 3) := by decide +kernel
theorem dL_holds_272 : decode cL_holds 272 = .ok (.iconst 0, 1) := by decide +kernel
theorem dL_holds_273 : decode cL_holds 273 = .ok (.istore 5, 2) := by decide +kernel
theorem dL_holds_275 : decode cL_holds 275 = .ok (.iinc 15 1, 3) := by decide +kernel
theorem dL_holds_278 : decode cL_holds 278 = .ok (.goto (-167), 3) := by decide +kernel
theorem dL_holds_281 : decode cL_holds 281 = .ok (.iload 4, 2) := by decide +kernel
theorem dL_holds_283 : decode cL_holds 283 = .ok (.iload 7, 2) := by decide +kernel
theorem dL_holds_285 : decode cL_holds 285 = .ok (.ifCond .le 8, 3) := by decide +kernel
theorem dL_holds_288 : decode cL_holds 288 = .ok (.iload 7, 2) := by decide +kernel
theorem dL_holds_290 : decode cL_holds 290 = .ok (.goto 4, 3) := by decide +kernel
theorem dL_holds_293 : decode cL_holds 293 = .ok (.iconst 0, 1) := by decide +kernel
theorem dL_holds_294 : decode cL_holds 294 = .ok (.iadd, 1) := by decide +kernel
theorem dL_holds_295 : decode cL_holds 295 = .ok (.istore 4, 2) := by decide +kernel
theorem dL_holds_297 : decode cL_holds 297 = .ok (.iload 5, 2) := by decide +kernel
theorem dL_holds_299 : decode cL_holds 299 = .ok (.ifCond .eq 139, 3) := by decide +kernel
theorem dL_holds_302 : decode cL_holds 302 = .ok (.iload 14, 2) := by decide +kernel
theorem dL_holds_304 : decode cL_holds 304 = .ok (.iload 7, 2) := by decide +kernel
theorem dL_holds_306 : decode cL_holds 306 = .ok (.iconst (-1), 1) := by decide +kernel
theorem dL_holds_307 : decode cL_holds 307 = .ok (.if_icmp .ne 7, 3) := by decide +kernel
theorem dL_holds_310 : decode cL_holds 310 = .ok (.iconst 1, 1) := by decide +kernel
theorem dL_holds_311 : decode cL_holds 311 = .ok (.goto 4, 3) := by decide +kernel
theorem dL_holds_314 : decode cL_holds 314 = .ok (.iconst 0, 1) := by decide +kernel
theorem dL_holds_315 : decode cL_holds 315 = .ok (.if_icmp .ne 123, 3) := by decide +kernel
theorem dL_holds_318 : decode cL_holds 318 = .ok (.iload 7, 2) := by decide +kernel
theorem dL_holds_320 : decode cL_holds 320 = .ok (.iconst (-1), 1) := by decide +kernel
theorem dL_holds_321 : decode cL_holds 321 = .ok (.if_icmp .ne 30, 3) := by decide +kernel
theorem dL_holds_324 : decode cL_holds 324 = .ok (.iload 8, 2) := by decide +kernel
theorem dL_holds_326 : decode cL_holds 326 = .ok (.iconst (-1), 1) := by decide +kernel
theorem dL_holds_327 : decode cL_holds 327 = .ok (.if_icmp .ne 111, 3) := by decide +kernel
theorem dL_holds_330 : decode cL_holds 330 = .ok (.iload 9, 2) := by decide +kernel
theorem dL_holds_332 : decode cL_holds 332 = .ok (.iconst (-1), 1) := by decide +kernel
theorem dL_holds_333 : decode cL_holds 333 = .ok (.if_icmp .ne 105, 3) := by decide +kernel
theorem dL_holds_336 : decode cL_holds 336 = .ok (.iload 10, 2) := by decide +kernel
theorem dL_holds_338 : decode cL_holds 338 = .ok (.iconst (-1), 1) := by decide +kernel
theorem dL_holds_339 : decode cL_holds 339 = .ok (.if_icmp .ne 99, 3) := by decide +kernel
theorem dL_holds_342 : decode cL_holds 342 = .ok (.iload 11, 2) := by decide +kernel
theorem dL_holds_344 : decode cL_holds 344 = .ok (.iconst (-1), 1) := by decide +kernel
theorem dL_holds_345 : decode cL_holds 345 = .ok (.if_icmp .ne 93, 3) := by decide +kernel
theorem dL_holds_348 : decode cL_holds 348 = .ok (.goto 86, 3) := by decide +kernel
theorem dL_holds_351 : decode cL_holds 351 = .ok (.iload 12, 2) := by decide +kernel
theorem dL_holds_353 : decode cL_holds 353 = .ok (.iload 7, 2) := by decide +kernel
theorem dL_holds_355 : decode cL_holds 355 = .ok (.if_icmp .ne 83, 3) := by decide +kernel
theorem dL_holds_358 : decode cL_holds 358 = .ok (.iload 7, 2) := by decide +kernel
theorem dL_holds_360 : decode cL_holds 360 = .ok (.iload 13, 2) := by decide +kernel
theorem dL_holds_362 : decode cL_holds 362 = .ok (.if_icmp .gt 76, 3) := by decide +kernel
theorem dL_holds_365 : decode cL_holds 365 = .ok (.iload 7, 2) := by decide +kernel
theorem dL_holds_367 : decode cL_holds 367 = .ok (.ifCond .ne 7, 3) := by decide +kernel
theorem dL_holds_370 : decode cL_holds 370 = .ok (.iconst 1, 1) := by decide +kernel
theorem dL_holds_371 : decode cL_holds 371 = .ok (.goto 4, 3) := by decide +kernel
theorem dL_holds_374 : decode cL_holds 374 = .ok (.iconst 0, 1) := by decide +kernel
theorem dL_holds_375 : decode cL_holds 375 = .ok (.iload 13, 2) := by decide +kernel
theorem dL_holds_377 : decode cL_holds 377 = .ok (.ifCond .ne 7, 3) := by decide +kernel
theorem dL_holds_380 : decode cL_holds 380 = .ok (.iconst 1, 1) := by decide +kernel
theorem dL_holds_381 : decode cL_holds 381 = .ok (.goto 4, 3) := by decide +kernel
theorem dL_holds_384 : decode cL_holds 384 = .ok (.iconst 0, 1) := by decide +kernel
theorem dL_holds_385 : decode cL_holds 385 = .ok (.if_icmp .ne 53, 3) := by decide +kernel
theorem dL_holds_388 : decode cL_holds 388 = .ok (.iload 9, 2) := by decide +kernel
theorem dL_holds_390 : decode cL_holds 390 = .ok (.iload 8, 2) := by decide +kernel
theorem dL_holds_392 : decode cL_holds 392 = .ok (.iand, 1) := by decide +kernel
theorem dL_holds_393 : decode cL_holds 393 = .ok (.iload 9, 2) := by decide +kernel
theorem dL_holds_395 : decode cL_holds 395 = .ok (.if_icmp .ne 43, 3) := by decide +kernel
theorem dL_holds_398 : decode cL_holds 398 = .ok (.iload 10, 2) := by decide +kernel
theorem dL_holds_400 : decode cL_holds 400 = .ok (.iload 8, 2) := by decide +kernel
theorem dL_holds_402 : decode cL_holds 402 = .ok (.iand, 1) := by decide +kernel
theorem dL_holds_403 : decode cL_holds 403 = .ok (.iload 8, 2) := by decide +kernel
theorem dL_holds_405 : decode cL_holds 405 = .ok (.if_icmp .ne 33, 3) := by decide +kernel
theorem dL_holds_408 : decode cL_holds 408 = .ok (.iload 11, 2) := by decide +kernel
theorem dL_holds_410 : decode cL_holds 410 = .ok (.iconst 1, 1) := by decide +kernel
theorem dL_holds_411 : decode cL_holds 411 = .ok (.if_icmp .lt 27, 3) := by decide +kernel
theorem dL_holds_414 : decode cL_holds 414 = .ok (.iload 11, 2) := by decide +kernel
theorem dL_holds_416 : decode cL_holds 416 = .ok (.iconst 1, 1) := by decide +kernel
theorem dL_holds_417 : decode cL_holds 417 = .ok (.if_icmp .gt 17, 3) := by decide +kernel
theorem dL_holds_420 : decode cL_holds 420 = .ok (.iload 9, 2) := by decide +kernel
theorem dL_holds_422 : decode cL_holds 422 = .ok (.iload 8, 2) := by decide +kernel
theorem dL_holds_424 : decode cL_holds 424 = .ok (.if_icmp .ne 14, 3) := by decide +kernel
theorem dL_holds_427 : decode cL_holds 427 = .ok (.iload 10, 2) := by decide +kernel
theorem dL_holds_429 : decode cL_holds 429 = .ok (.iload 8, 2) := by decide +kernel
theorem dL_holds_431 : decode cL_holds 431 = .ok (.if_icmp .ne 7, 3) := by decide +kernel
theorem dL_holds_434 : decode cL_holds 434 = .ok (.iconst 1, 1) := by decide +kernel
theorem dL_holds_435 : decode cL_holds 435 = .ok (.goto 4, 3) := by decide +kernel
theorem dL_holds_438 : decode cL_holds 438 = .ok (.iconst 0, 1) := by decide +kernel
theorem dL_holds_439 : decode cL_holds 439 = .ok (.istore 5, 2) := by decide +kernel
theorem dL_holds_441 : decode cL_holds 441 = .ok (.iinc 6 1, 3) := by decide +kernel
theorem dL_holds_444 : decode cL_holds 444 = .ok (.goto (-417), 3) := by decide +kernel
theorem dL_holds_447 : decode cL_holds 447 = .ok (.iload 5, 2) := by decide +kernel
theorem dL_holds_449 : decode cL_holds 449 = .ok (.ifCond .eq 13, 3) := by decide +kernel
theorem dL_holds_452 : decode cL_holds 452 = .ok (.iload 4, 2) := by decide +kernel
theorem dL_holds_454 : decode cL_holds 454 = .ok (.iload_n 3, 1) := by decide +kernel
theorem dL_holds_455 : decode cL_holds 455 = .ok (.if_icmp .ne 7, 3) := by decide +kernel
theorem dL_holds_458 : decode cL_holds 458 = .ok (.iconst 1, 1) := by decide +kernel
theorem dL_holds_459 : decode cL_holds 459 = .ok (.goto 4, 3) := by decide +kernel
theorem dL_holds_462 : decode cL_holds 462 = .ok (.iconst 0, 1) := by decide +kernel
theorem dL_holds_463 : decode cL_holds 463 = .ok (.istore 5, 2) := by decide +kernel
theorem dL_holds_465 : decode cL_holds 465 = .ok (.iconst 0, 1) := by decide +kernel
theorem dL_holds_466 : decode cL_holds 466 = .ok (.istore 6, 2) := by decide +kernel
theorem dL_holds_468 : decode cL_holds 468 = .ok (.iload_n 2, 1) := by decide +kernel
theorem dL_holds_469 : decode cL_holds 469 = .ok (.iconst 1, 1) := by decide +kernel
theorem dL_holds_470 : decode cL_holds 470 = .ok (.if_icmp .le 343, 3) := by decide +kernel
theorem dL_holds_473 : decode cL_holds 473 = .ok (.iload 5, 2) := by decide +kernel
theorem dL_holds_475 : decode cL_holds 475 = .ok (.ifCond .eq 338, 3) := by decide +kernel
theorem dL_holds_478 : decode cL_holds 478 = .ok (.iload_n 1, 1) := by decide +kernel
theorem dL_holds_479 : decode cL_holds 479 = .ok (.iload_n 2, 1) := by decide +kernel
theorem dL_holds_480 : decode cL_holds 480 = .ok (.irem, 1) := by decide +kernel
theorem dL_holds_481 : decode cL_holds 481 = .ok (.istore 7, 2) := by decide +kernel
theorem dL_holds_483 : decode cL_holds 483 = .ok (.iload 7, 2) := by decide +kernel
theorem dL_holds_485 : decode cL_holds 485 = .ok (.iconst 1, 1) := by decide +kernel
theorem dL_holds_486 : decode cL_holds 486 = .ok (.iadd, 1) := by decide +kernel
theorem dL_holds_487 : decode cL_holds 487 = .ok (.iload_n 1, 1) := by decide +kernel
theorem dL_holds_488 : decode cL_holds 488 = .ok (.bipush 16, 2) := by decide +kernel
theorem dL_holds_490 : decode cL_holds 490 = .ok (.idiv, 1) := by decide +kernel
theorem dL_holds_491 : decode cL_holds 491 = .ok (.iload_n 2, 1) := by decide +kernel
theorem dL_holds_492 : decode cL_holds 492 = .ok (.iconst 1, 1) := by decide +kernel
theorem dL_holds_493 : decode cL_holds 493 = .ok (.isub, 1) := by decide +kernel
theorem dL_holds_494 : decode cL_holds 494 = .ok (.irem, 1) := by decide +kernel
theorem dL_holds_495 : decode cL_holds 495 = .ok (.iadd, 1) := by decide +kernel
theorem dL_holds_496 : decode cL_holds 496 = .ok (.iload_n 2, 1) := by decide +kernel
theorem dL_holds_497 : decode cL_holds 497 = .ok (.irem, 1) := by decide +kernel
theorem dL_holds_498 : decode cL_holds 498 = .ok (.istore 8, 2) := by decide +kernel
theorem dL_holds_500 : decode cL_holds 500 = .ok (.iconst 1, 1) := by decide +kernel
theorem dL_holds_501 : decode cL_holds 501 = .ok (.iload_n 1, 1) := by decide +kernel
theorem dL_holds_502 : decode cL_holds 502 = .ok (.sipush 256, 3) := by decide +kernel
theorem dL_holds_505 : decode cL_holds 505 = .ok (.idiv, 1) := by decide +kernel
theorem dL_holds_506 : decode cL_holds 506 = .ok (.bipush 99, 2) := by decide +kernel
theorem dL_holds_508 : decode cL_holds 508 = .ok (.irem, 1) := by decide +kernel
theorem dL_holds_509 : decode cL_holds 509 = .ok (.iadd, 1) := by decide +kernel
theorem dL_holds_510 : decode cL_holds 510 = .ok (.istore 9, 2) := by decide +kernel
theorem dL_holds_512 : decode cL_holds 512 = .ok (.aload_n 0, 1) := by decide +kernel
theorem dL_holds_513 : decode cL_holds 513 = .ok (.iconst 2, 1) := by decide +kernel
theorem dL_holds_514 : decode cL_holds 514 = .ok (.iload 7, 2) := by decide +kernel
theorem dL_holds_516 : decode cL_holds 516 = .ok (.iload 8, 2) := by decide +kernel
theorem dL_holds_518 : decode cL_holds 518 = .ok (.iconst 0, 1) := by decide +kernel
theorem dL_holds_519 : decode cL_holds 519 = .ok (.invokestatic 166, 3) := by decide +kernel
theorem dL_holds_522 : decode cL_holds 522 = .ok (.istore 10, 2) := by decide +kernel
theorem dL_holds_524 : decode cL_holds 524 = .ok (.aload_n 0, 1) := by decide +kernel
theorem dL_holds_525 : decode cL_holds 525 = .ok (.bipush 16, 2) := by decide +kernel
theorem dL_holds_527 : decode cL_holds 527 = .ok (.iload 7, 2) := by decide +kernel
theorem dL_holds_529 : decode cL_holds 529 = .ok (.iload 8, 2) := by decide +kernel
theorem dL_holds_531 : decode cL_holds 531 = .ok (.iload 9, 2) := by decide +kernel
theorem dL_holds_533 : decode cL_holds 533 = .ok (.invokestatic 166, 3) := by decide +kernel
theorem dL_holds_536 : decode cL_holds 536 = .ok (.istore 11, 2) := by decide +kernel
theorem dL_holds_538 : decode cL_holds 538 = .ok (.aload_n 0, 1) := by decide +kernel
theorem dL_holds_539 : decode cL_holds 539 = .ok (.iconst 5, 1) := by decide +kernel
theorem dL_holds_540 : decode cL_holds 540 = .ok (.iload 7, 2) := by decide +kernel
theorem dL_holds_542 : decode cL_holds 542 = .ok (.iload 8, 2) := by decide +kernel
theorem dL_holds_544 : decode cL_holds 544 = .ok (.iload 9, 2) := by decide +kernel
theorem dL_holds_546 : decode cL_holds 546 = .ok (.invokestatic 166, 3) := by decide +kernel
theorem dL_holds_549 : decode cL_holds 549 = .ok (.istore 12, 2) := by decide +kernel
theorem dL_holds_551 : decode cL_holds 551 = .ok (.iload 11, 2) := by decide +kernel
theorem dL_holds_553 : decode cL_holds 553 = .ok (.ldc 37, 2) := by decide +kernel
theorem dL_holds_555 : decode cL_holds 555 = .ok (.if_icmp .ne 7, 3) := by decide +kernel
theorem dL_holds_558 : decode cL_holds 558 = .ok (.iconst 1, 1) := by decide +kernel
theorem dL_holds_559 : decode cL_holds 559 = .ok (.goto 4, 3) := by decide +kernel
theorem dL_holds_562 : decode cL_holds 562 = .ok (.iconst 0, 1) := by decide +kernel
theorem dL_holds_563 : decode cL_holds 563 = .ok (.iload 12, 2) := by decide +kernel
theorem dL_holds_565 : decode cL_holds 565 = .ok (.ldc 37, 2) := by decide +kernel
theorem dL_holds_567 : decode cL_holds 567 = .ok (.if_icmp .ne 7, 3) := by decide +kernel
theorem dL_holds_570 : decode cL_holds 570 = .ok (.iconst 1, 1) := by decide +kernel
theorem dL_holds_571 : decode cL_holds 571 = .ok (.goto 4, 3) := by decide +kernel
theorem dL_holds_574 : decode cL_holds 574 = .ok (.iconst 0, 1) := by decide +kernel
theorem dL_holds_575 : decode cL_holds 575 = .ok (.if_icmp .ne 62, 3) := by decide +kernel
theorem dL_holds_578 : decode cL_holds 578 = .ok (.iload 12, 2) := by decide +kernel
theorem dL_holds_580 : decode cL_holds 580 = .ok (.ifCond .lt 53, 3) := by decide +kernel
theorem dL_holds_583 : decode cL_holds 583 = .ok (.iload 11, 2) := by decide +kernel
theorem dL_holds_585 : decode cL_holds 585 = .ok (.aload_n 0, 1) := by decide +kernel
theorem dL_holds_586 : decode cL_holds 586 = .ok (.iconst 1, 1) := by decide +kernel
theorem dL_holds_587 : decode cL_holds 587 = .ok (.iconst 5, 1) := by decide +kernel
theorem dL_holds_588 : decode cL_holds 588 = .ok (.iconst 0, 1) := by decide +kernel
theorem dL_holds_589 : decode cL_holds 589 = .ok (.iconst 0, 1) := by decide +kernel
theorem dL_holds_590 : decode cL_holds 590 = .ok (.invokestatic 166, 3) := by decide +kernel
theorem dL_holds_593 : decode cL_holds 593 = .ok (.if_icmp .ne 44, 3) := by decide +kernel
theorem dL_holds_596 : decode cL_holds 596 = .ok (.iload 10, 2) := by decide +kernel
theorem dL_holds_598 : decode cL_holds 598 = .ok (.iconst (-1), 1) := by decide +kernel
theorem dL_holds_599 : decode cL_holds 599 = .ok (.if_icmp .ne 12, 3) := by decide +kernel
theorem dL_holds_602 : decode cL_holds 602 = .ok (.iload 11, 2) := by decide +kernel
theorem dL_holds_604 : decode cL_holds 604 = .ok (.iload_n 3, 1) := by decide +kernel
theorem dL_holds_605 : decode cL_holds 605 = .ok (.if_icmp .gt 32, 3) := by decide +kernel
theorem dL_holds_608 : decode cL_holds 608 = .ok (.goto 25, 3) := by decide +kernel
theorem dL_holds_611 : decode cL_holds 611 = .ok (.iload 9, 2) := by decide +kernel
theorem dL_holds_613 : decode cL_holds 613 = .ok (.iload 10, 2) := by decide +kernel
theorem dL_holds_615 : decode cL_holds 615 = .ok (.if_icmp .le 12, 3) := by decide +kernel
theorem dL_holds_618 : decode cL_holds 618 = .ok (.iload 11, 2) := by decide +kernel
theorem dL_holds_620 : decode cL_holds 620 = .ok (.iload_n 3, 1) := by decide +kernel
theorem dL_holds_621 : decode cL_holds 621 = .ok (.if_icmp .lt 16, 3) := by decide +kernel
theorem dL_holds_624 : decode cL_holds 624 = .ok (.goto 9, 3) := by decide +kernel
theorem dL_holds_627 : decode cL_holds 627 = .ok (.iload 11, 2) := by decide +kernel
theorem dL_holds_629 : decode cL_holds 629 = .ok (.iload_n 3, 1) := by decide +kernel
theorem dL_holds_630 : decode cL_holds 630 = .ok (.if_icmp .gt 7, 3) := by decide +kernel
theorem dL_holds_633 : decode cL_holds 633 = .ok (.iconst 1, 1) := by decide +kernel
theorem dL_holds_634 : decode cL_holds 634 = .ok (.goto 4, 3) := by decide +kernel
theorem dL_holds_637 : decode cL_holds 637 = .ok (.iconst 0, 1) := by decide +kernel
theorem dL_holds_638 : decode cL_holds 638 = .ok (.istore 5, 2) := by decide +kernel
theorem dL_holds_640 : decode cL_holds 640 = .ok (.iload 12, 2) := by decide +kernel
theorem dL_holds_642 : decode cL_holds 642 = .ok (.ifCond .ge 7, 3) := by decide +kernel
theorem dL_holds_645 : decode cL_holds 645 = .ok (.iconst 0, 1) := by decide +kernel
theorem dL_holds_646 : decode cL_holds 646 = .ok (.goto 4, 3) := by decide +kernel
theorem dL_holds_649 : decode cL_holds 649 = .ok (.iconst 1, 1) := by decide +kernel
theorem dL_holds_650 : decode cL_holds 650 = .ok (.istore 6, 2) := by decide +kernel
theorem dL_holds_652 : decode cL_holds 652 = .ok (.iload 10, 2) := by decide +kernel
theorem dL_holds_654 : decode cL_holds 654 = .ok (.iconst (-1), 1) := by decide +kernel
theorem dL_holds_655 : decode cL_holds 655 = .ok (.if_icmp .ne 22, 3) := by decide +kernel
theorem dL_holds_658 : decode cL_holds 658 = .ok (.iload 12, 2) := by decide +kernel
theorem dL_holds_660 : decode cL_holds 660 = .ok (.ifCond .le 17, 3) := by decide +kernel
theorem dL_holds_663 : decode cL_holds 663 = .ok (.aload_n 0, 1) := by decide +kernel
theorem dL_holds_664 : decode cL_holds 664 = .ok (.bipush 6, 2) := by decide +kernel
theorem dL_holds_666 : decode cL_holds 666 = .ok (.iload 8, 2) := by decide +kernel
theorem dL_holds_668 : decode cL_holds 668 = .ok (.iload 7, 2) := by decide +kernel
theorem dL_holds_670 : decode cL_holds 670 = .ok (.iconst 0, 1) := by decide +kernel
theorem dL_holds_671 : decode cL_holds 671 = .ok (.invokestatic 166, 3) := by decide +kernel
theorem dL_holds_674 : decode cL_holds 674 = .ok (.goto 4, 3) := by decide +kernel
theorem dL_holds_677 : decode cL_holds 677 = .ok (.iconst 0, 1) := by decide +kernel
theorem dL_holds_678 : decode cL_holds 678 = .ok (.istore 13, 2) := by decide +kernel
theorem dL_holds_680 : decode cL_holds 680 = .ok (.iload 5, 2) := by decide +kernel
theorem dL_holds_682 : decode cL_holds 682 = .ok (.ifCond .eq 31, 3) := by decide +kernel
theorem dL_holds_685 : decode cL_holds 685 = .ok (.iload 13, 2) := by decide +kernel
theorem dL_holds_687 : decode cL_holds 687 = .ok (.ifCond .eq 22, 3) := by decide +kernel
theorem dL_holds_690 : decode cL_holds 690 = .ok (.iload 13, 2) := by decide +kernel
theorem dL_holds_692 : decode cL_holds 692 = .ok (.iload 9, 2) := by decide +kernel
theorem dL_holds_694 : decode cL_holds 694 = .ok (.if_icmp .ne 19, 3) := by decide +kernel
theorem dL_holds_697 : decode cL_holds 697 = .ok (.aload_n 0, 1) := by decide +kernel
theorem dL_holds_698 : decode cL_holds 698 = .ok (.iconst 1, 1) := by decide +kernel
theorem dL_holds_699 : decode cL_holds 699 = .ok (.iconst 5, 1) := by decide +kernel
theorem dL_holds_700 : decode cL_holds 700 = .ok (.iconst 0, 1) := by decide +kernel
theorem dL_holds_701 : decode cL_holds 701 = .ok (.iconst 0, 1) := by decide +kernel
theorem dL_holds_702 : decode cL_holds 702 = .ok (.invokestatic 166, 3) := by decide +kernel
theorem dL_holds_705 : decode cL_holds 705 = .ok (.iload_n 3, 1) := by decide +kernel
theorem dL_holds_706 : decode cL_holds 706 = .ok (.if_icmp .ne 7, 3) := by decide +kernel
theorem dL_holds_709 : decode cL_holds 709 = .ok (.iconst 1, 1) := by decide +kernel
theorem dL_holds_710 : decode cL_holds 710 = .ok (.goto 4, 3) := by decide +kernel
theorem dL_holds_713 : decode cL_holds 713 = .ok (.iconst 0, 1) := by decide +kernel
theorem dL_holds_714 : decode cL_holds 714 = .ok (.istore 5, 2) := by decide +kernel
theorem dL_holds_716 : decode cL_holds 716 = .ok (.iload 6, 2) := by decide +kernel
theorem dL_holds_718 : decode cL_holds 718 = .ok (.iload 13, 2) := by decide +kernel
theorem dL_holds_720 : decode cL_holds 720 = .ok (.ifCond .le 7, 3) := by decide +kernel
theorem dL_holds_723 : decode cL_holds 723 = .ok (.iconst 1, 1) := by decide +kernel
theorem dL_holds_724 : decode cL_holds 724 = .ok (.goto 4, 3) := by decide +kernel
theorem dL_holds_727 : decode cL_holds 727 = .ok (.iconst 0, 1) := by decide +kernel
theorem dL_holds_728 : decode cL_holds 728 = .ok (.iadd, 1) := by decide +kernel
theorem dL_holds_729 : decode cL_holds 729 = .ok (.istore 6, 2) := by decide +kernel
theorem dL_holds_731 : decode cL_holds 731 = .ok (.aload_n 0, 1) := by decide +kernel
theorem dL_holds_732 : decode cL_holds 732 = .ok (.bipush 15, 2) := by decide +kernel
theorem dL_holds_734 : decode cL_holds 734 = .ok (.iload 7, 2) := by decide +kernel
theorem dL_holds_736 : decode cL_holds 736 = .ok (.iload 8, 2) := by decide +kernel
theorem dL_holds_738 : decode cL_holds 738 = .ok (.iload_n 1, 1) := by decide +kernel
theorem dL_holds_739 : decode cL_holds 739 = .ok (.bipush 6, 2) := by decide +kernel
theorem dL_holds_741 : decode cL_holds 741 = .ok (.irem, 1) := by decide +kernel
theorem dL_holds_742 : decode cL_holds 742 = .ok (.invokestatic 166, 3) := by decide +kernel
theorem dL_holds_745 : decode cL_holds 745 = .ok (.istore 14, 2) := by decide +kernel
theorem dL_holds_747 : decode cL_holds 747 = .ok (.iload 5, 2) := by decide +kernel
theorem dL_holds_749 : decode cL_holds 749 = .ok (.ifCond .eq 61, 3) := by decide +kernel
theorem dL_holds_752 : decode cL_holds 752 = .ok (.iload 14, 2) := by decide +kernel
theorem dL_holds_754 : decode cL_holds 754 = .ok (.ifCond .eq 52, 3) := by decide +kernel
theorem dL_holds_757 : decode cL_holds 757 = .ok (.aload_n 0, 1) := by decide +kernel
theorem dL_holds_758 : decode cL_holds 758 = .ok (.iconst 2, 1) := by decide +kernel
theorem dL_holds_759 : decode cL_holds 759 = .ok (.iload 7, 2) := by decide +kernel
theorem dL_holds_761 : decode cL_holds 761 = .ok (.iload 8, 2) := by decide +kernel
theorem dL_holds_763 : decode cL_holds 763 = .ok (.iconst 0, 1) := by decide +kernel
theorem dL_holds_764 : decode cL_holds 764 = .ok (.invokestatic 166, 3) := by decide +kernel
theorem dL_holds_767 : decode cL_holds 767 = .ok (.iconst (-1), 1) := by decide +kernel
theorem dL_holds_768 : decode cL_holds 768 = .ok (.if_icmp .eq 42, 3) := by decide +kernel
theorem dL_holds_771 : decode cL_holds 771 = .ok (.aload_n 0, 1) := by decide +kernel
theorem dL_holds_772 : decode cL_holds 772 = .ok (.iload 8, 2) := by decide +kernel
theorem dL_holds_774 : decode cL_holds 774 = .ok (.iload_n 1, 1) := by decide +kernel
theorem dL_holds_775 : decode cL_holds 775 = .ok (.bipush 6, 2) := by decide +kernel
theorem dL_holds_777 : decode cL_holds 777 = .ok (.irem, 1) := by decide +kernel
theorem dL_holds_778 : decode cL_holds 778 = .ok (.iconst 1, 1) := by decide +kernel
theorem dL_holds_779 : decode cL_holds 779 = .ok (.invokestatic 170, 3) := by decide +kernel
theorem dL_holds_782 : decode cL_holds 782 = .ok (.iconst (-1), 1) := by decide +kernel
theorem dL_holds_783 : decode cL_holds 783 = .ok (.if_icmp .eq 27, 3) := by decide +kernel
theorem dL_holds_786 : decode cL_holds 786 = .ok (.aload_n 0, 1) := by decide +kernel
theorem dL_holds_787 : decode cL_holds 787 = .ok (.bipush 11, 2) := by decide +kernel
theorem dL_holds_789 : decode cL_holds 789 = .ok (.iload_n 1, 1) := by decide +kernel
theorem dL_holds_790 : decode cL_holds 790 = .ok (.bipush 6, 2) := by decide +kernel
theorem dL_holds_792 : decode cL_holds 792 = .ok (.irem, 1) := by decide +kernel
theorem dL_holds_793 : decode cL_holds 793 = .ok (.iconst 1, 1) := by decide +kernel
theorem dL_holds_794 : decode cL_holds 794 = .ok (.iconst 0, 1) := by decide +kernel
theorem dL_holds_795 : decode cL_holds 795 = .ok (.invokestatic 166, 3) := by decide +kernel
theorem dL_holds_798 : decode cL_holds 798 = .ok (.iload 8, 2) := by decide +kernel
theorem dL_holds_800 : decode cL_holds 800 = .ok (.ishr, 1) := by decide +kernel
theorem dL_holds_801 : decode cL_holds 801 = .ok (.iconst 1, 1) := by decide +kernel
theorem dL_holds_802 : decode cL_holds 802 = .ok (.iand, 1) := by decide +kernel
theorem dL_holds_803 : decode cL_holds 803 = .ok (.ifCond .ne 7, 3) := by decide +kernel
theorem dL_holds_806 : decode cL_holds 806 = .ok (.iconst 1, 1) := by decide +kernel
theorem dL_holds_807 : decode cL_holds 807 = .ok (.goto 4, 3) := by decide +kernel
theorem dL_holds_810 : decode cL_holds 810 = .ok (.iconst 0, 1) := by decide +kernel
theorem dL_holds_811 : decode cL_holds 811 = .ok (.istore 5, 2) := by decide +kernel
theorem dL_holds_813 : decode cL_holds 813 = .ok (.iconst 0, 1) := by decide +kernel
theorem dL_holds_814 : decode cL_holds 814 = .ok (.istore 7, 2) := by decide +kernel
theorem dL_holds_816 : decode cL_holds 816 = .ok (.iload 7, 2) := by decide +kernel
theorem dL_holds_818 : decode cL_holds 818 = .ok (.iload 6, 2) := by decide +kernel
theorem dL_holds_820 : decode cL_holds 820 = .ok (.if_icmp .ge 33, 3) := by decide +kernel
theorem dL_holds_823 : decode cL_holds 823 = .ok (.iload 5, 2) := by decide +kernel
theorem dL_holds_825 : decode cL_holds 825 = .ok (.ifCond .eq 28, 3) := by decide +kernel
theorem dL_holds_828 : decode cL_holds 828 = .ok (.aload_n 0, 1) := by decide +kernel
theorem dL_holds_829 : decode cL_holds 829 = .ok (.bipush 9, 2) := by decide +kernel
theorem dL_holds_831 : decode cL_holds 831 = .ok (.iconst 0, 1) := by decide +kernel
theorem dL_holds_832 : decode cL_holds 832 = .ok (.iconst 0, 1) := by decide +kernel
theorem dL_holds_833 : decode cL_holds 833 = .ok (.iconst 0, 1) := by decide +kernel
theorem dL_holds_834 : decode cL_holds 834 = .ok (.invokestatic 166, 3) := by decide +kernel
theorem dL_holds_837 : decode cL_holds 837 = .ok (.ifCond .lt 7, 3) := by decide +kernel
theorem dL_holds_840 : decode cL_holds 840 = .ok (.iconst 1, 1) := by decide +kernel
theorem dL_holds_841 : decode cL_holds 841 = .ok (.goto 4, 3) := by decide +kernel
theorem dL_holds_844 : decode cL_holds 844 = .ok (.iconst 0, 1) := by decide +kernel
theorem dL_holds_845 : decode cL_holds 845 = .ok (.istore 5, 2) := by decide +kernel
theorem dL_holds_847 : decode cL_holds 847 = .ok (.iinc 7 1, 3) := by decide +kernel
theorem dL_holds_850 : decode cL_holds 850 = .ok (.goto (-34), 3) := by decide +kernel
theorem dL_holds_853 : decode cL_holds 853 = .ok (.iload 5, 2) := by decide +kernel
theorem dL_holds_855 : decode cL_holds 855 = .ok (.ifCond .eq 19, 3) := by decide +kernel
theorem dL_holds_858 : decode cL_holds 858 = .ok (.aload_n 0, 1) := by decide +kernel
theorem dL_holds_859 : decode cL_holds 859 = .ok (.iconst 1, 1) := by decide +kernel
theorem dL_holds_860 : decode cL_holds 860 = .ok (.iconst 5, 1) := by decide +kernel
theorem dL_holds_861 : decode cL_holds 861 = .ok (.iconst 0, 1) := by decide +kernel
theorem dL_holds_862 : decode cL_holds 862 = .ok (.iconst 0, 1) := by decide +kernel
theorem dL_holds_863 : decode cL_holds 863 = .ok (.invokestatic 166, 3) := by decide +kernel
theorem dL_holds_866 : decode cL_holds 866 = .ok (.iload_n 3, 1) := by decide +kernel
theorem dL_holds_867 : decode cL_holds 867 = .ok (.if_icmp .ne 7, 3) := by decide +kernel
theorem dL_holds_870 : decode cL_holds 870 = .ok (.iconst 1, 1) := by decide +kernel
theorem dL_holds_871 : decode cL_holds 871 = .ok (.goto 4, 3) := by decide +kernel
theorem dL_holds_874 : decode cL_holds 874 = .ok (.iconst 0, 1) := by decide +kernel
theorem dL_holds_875 : decode cL_holds 875 = .ok (.ireturn, 1) := by decide +kernel
