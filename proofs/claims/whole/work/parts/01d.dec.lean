theorem dX9_init_0 : decode cX9_init 0 = .ok (.aload_n 0, 1) := by decide +kernel
theorem dX9_init_1 : decode cX9_init 1 = .ok (.invokespecial 1, 3) := by decide +kernel
theorem dX9_init_4 : decode cX9_init 4 = .ok (.aload_n 0, 1) := by decide +kernel
theorem dX9_init_5 : decode cX9_init 5 = .ok (.bipush 7, 2) := by decide +kernel
theorem dX9_init_7 : decode cX9_init 7 = .ok (.newarray .int, 2) := by decide +kernel
theorem dX9_init_9 : decode cX9_init 9 = .ok (.putfield 7, 3) := by decide +kernel
theorem dX9_init_12 : decode cX9_init 12 = .ok (.aload_n 0, 1) := by decide +kernel
theorem dX9_init_13 : decode cX9_init 13 = .ok (.sipush 5578, 3) := by decide +kernel
theorem dX9_init_16 : decode cX9_init 16 = .ok (.newarray .int, 2) := by decide +kernel
theorem dX9_init_18 : decode cX9_init 18 = .ok (.putfield 13, 3) := by decide +kernel
theorem dX9_init_21 : decode cX9_init 21 = .ok (.aload_n 0, 1) := by decide +kernel
theorem dX9_init_22 : decode cX9_init 22 = .ok (.sipush 11156, 3) := by decide +kernel
theorem dX9_init_25 : decode cX9_init 25 = .ok (.newarray .int, 2) := by decide +kernel
theorem dX9_init_27 : decode cX9_init 27 = .ok (.putfield 16, 3) := by decide +kernel
theorem dX9_init_30 : decode cX9_init 30 = .ok (.aload_n 0, 1) := by decide +kernel
theorem dX9_init_31 : decode cX9_init 31 = .ok (.iconst 2, 1) := by decide +kernel
theorem dX9_init_32 : decode cX9_init 32 = .ok (.newarray .boolean, 2) := by decide +kernel
theorem dX9_init_34 : decode cX9_init 34 = .ok (.putfield 19, 3) := by decide +kernel
theorem dX9_init_37 : decode cX9_init 37 = .ok (.aload_n 0, 1) := by decide +kernel
theorem dX9_init_38 : decode cX9_init 38 = .ok (.sipush 414, 3) := by decide +kernel
theorem dX9_init_41 : decode cX9_init 41 = .ok (.newarray .int, 2) := by decide +kernel
theorem dX9_init_43 : decode cX9_init 43 = .ok (.putfield 23, 3) := by decide +kernel
theorem dX9_init_46 : decode cX9_init 46 = .ok (.aload_n 0, 1) := by decide +kernel
theorem dX9_init_47 : decode cX9_init 47 = .ok (.bipush 16, 2) := by decide +kernel
theorem dX9_init_49 : decode cX9_init 49 = .ok (.newarray .int, 2) := by decide +kernel
theorem dX9_init_51 : decode cX9_init 51 = .ok (.putfield 26, 3) := by decide +kernel
theorem dX9_init_54 : decode cX9_init 54 = .ok (.aload_n 0, 1) := by decide +kernel
theorem dX9_init_55 : decode cX9_init 55 = .ok (.sipush 368, 3) := by decide +kernel
theorem dX9_init_58 : decode cX9_init 58 = .ok (.newarray .int, 2) := by decide +kernel
theorem dX9_init_60 : decode cX9_init 60 = .ok (.putfield 29, 3) := by decide +kernel
theorem dX9_init_63 : decode cX9_init 63 = .ok (.aload_n 0, 1) := by decide +kernel
theorem dX9_init_64 : decode cX9_init 64 = .ok (.bipush 16, 2) := by decide +kernel
theorem dX9_init_66 : decode cX9_init 66 = .ok (.newarray .int, 2) := by decide +kernel
theorem dX9_init_68 : decode cX9_init 68 = .ok (.putfield 32, 3) := by decide +kernel
theorem dX9_init_71 : decode cX9_init 71 = .ok (.aload_n 0, 1) := by decide +kernel
theorem dX9_init_72 : decode cX9_init 72 = .ok (.sipush 400, 3) := by decide +kernel
theorem dX9_init_75 : decode cX9_init 75 = .ok (.newarray .int, 2) := by decide +kernel
theorem dX9_init_77 : decode cX9_init 77 = .ok (.putfield 35, 3) := by decide +kernel
theorem dX9_init_80 : decode cX9_init 80 = .ok (.aload_n 0, 1) := by decide +kernel
theorem dX9_init_81 : decode cX9_init 81 = .ok (.iconst (-1), 1) := by decide +kernel
theorem dX9_init_82 : decode cX9_init 82 = .ok (.putfield 38, 3) := by decide +kernel
theorem dX9_init_85 : decode cX9_init 85 = .ok (.aload_n 0, 1) := by decide +kernel
theorem dX9_init_86 : decode cX9_init 86 = .ok (.bipush 96, 2) := by decide +kernel
theorem dX9_init_88 : decode cX9_init 88 = .ok (.newarray .int, 2) := by decide +kernel
theorem dX9_init_90 : decode cX9_init 90 = .ok (.putfield 42, 3) := by decide +kernel
theorem dX9_init_93 : decode cX9_init 93 = .ok (.aload_n 0, 1) := by decide +kernel
theorem dX9_init_94 : decode cX9_init 94 = .ok (.sipush 400, 3) := by decide +kernel
theorem dX9_init_97 : decode cX9_init 97 = .ok (.newarray .int, 2) := by decide +kernel
theorem dX9_init_99 : decode cX9_init 99 = .ok (.putfield 45, 3) := by decide +kernel
theorem dX9_init_102 : decode cX9_init 102 = .ok (.aload_n 0, 1) := by decide +kernel
theorem dX9_init_103 : decode cX9_init 103 = .ok (.sipush 400, 3) := by decide +kernel
theorem dX9_init_106 : decode cX9_init 106 = .ok (.newarray .int, 2) := by decide +kernel
theorem dX9_init_108 : decode cX9_init 108 = .ok (.putfield 48, 3) := by decide +kernel
theorem dX9_init_111 : decode cX9_init 111 = .ok (.aload_n 0, 1) := by decide +kernel
theorem dX9_init_112 : decode cX9_init 112 = .ok (.sipush 400, 3) := by decide +kernel
theorem dX9_init_115 : decode cX9_init 115 = .ok (.newarray .int, 2) := by decide +kernel
theorem dX9_init_117 : decode cX9_init 117 = .ok (.putfield 51, 3) := by decide +kernel
theorem dX9_init_120 : decode cX9_init 120 = .ok (.aload_n 0, 1) := by decide +kernel
theorem dX9_init_121 : decode cX9_init 121 = .ok (.sipush 400, 3) := by decide +kernel
theorem dX9_init_124 : decode cX9_init 124 = .ok (.newarray .int, 2) := by decide +kernel
theorem dX9_init_126 : decode cX9_init 126 = .ok (.putfield 54, 3) := by decide +kernel
theorem dX9_init_129 : decode cX9_init 129 = .ok (.aload_n 0, 1) := by decide +kernel
theorem dX9_init_130 : decode cX9_init 130 = .ok (.bipush 9, 2) := by decide +kernel
theorem dX9_init_132 : decode cX9_init 132 = .ok (.newarray .long, 2) := by decide +kernel
theorem dX9_init_134 : decode cX9_init 134 = .ok (.dup, 1) := by decide +kernel
theorem dX9_init_135 : decode cX9_init 135 = .ok (.iconst 0, 1) := by decide +kernel
theorem dX9_init_136 : decode cX9_init 136 = .ok (.ldc2_w 57, 3) := by decide +kernel
theorem dX9_init_139 : decode cX9_init 139 = .ok (.lastore, 1) := by decide +kernel
theorem dX9_init_140 : decode cX9_init 140 = .ok (.dup, 1) := by decide +kernel
theorem dX9_init_141 : decode cX9_init 141 = .ok (.iconst 1, 1) := by decide +kernel
theorem dX9_init_142 : decode cX9_init 142 = .ok (.ldc2_w 59, 3) := by decide +kernel
theorem dX9_init_145 : decode cX9_init 145 = .ok (.lastore, 1) := by decide +kernel
theorem dX9_init_146 : decode cX9_init 146 = .ok (.dup, 1) := by decide +kernel
theorem dX9_init_147 : decode cX9_init 147 = .ok (.iconst 2, 1) := by decide +kernel
theorem dX9_init_148 : decode cX9_init 148 = .ok (.ldc2_w 61, 3) := by decide +kernel
theorem dX9_init_151 : decode cX9_init 151 = .ok (.lastore, 1) := by decide +kernel
theorem dX9_init_152 : decode cX9_init 152 = .ok (.dup, 1) := by decide +kernel
theorem dX9_init_153 : decode cX9_init 153 = .ok (.iconst 3, 1) := by decide +kernel
theorem dX9_init_154 : decode cX9_init 154 = .ok (.ldc2_w 63, 3) := by decide +kernel
theorem dX9_init_157 : decode cX9_init 157 = .ok (.lastore, 1) := by decide +kernel
theorem dX9_init_158 : decode cX9_init 158 = .ok (.dup, 1) := by decide +kernel
theorem dX9_init_159 : decode cX9_init 159 = .ok (.iconst 4, 1) := by decide +kernel
theorem dX9_init_160 : decode cX9_init 160 = .ok (.ldc2_w 65, 3) := by decide +kernel
theorem dX9_init_163 : decode cX9_init 163 = .ok (.lastore, 1) := by decide +kernel
theorem dX9_init_164 : decode cX9_init 164 = .ok (.dup, 1) := by decide +kernel
theorem dX9_init_165 : decode cX9_init 165 = .ok (.iconst 5, 1) := by decide +kernel
theorem dX9_init_166 : decode cX9_init 166 = .ok (.ldc2_w 67, 3) := by decide +kernel
theorem dX9_init_169 : decode cX9_init 169 = .ok (.lastore, 1) := by decide +kernel
theorem dX9_init_170 : decode cX9_init 170 = .ok (.dup, 1) := by decide +kernel
theorem dX9_init_171 : decode cX9_init 171 = .ok (.bipush 6, 2) := by decide +kernel
theorem dX9_init_173 : decode cX9_init 173 = .ok (.ldc2_w 69, 3) := by decide +kernel
theorem dX9_init_176 : decode cX9_init 176 = .ok (.lastore, 1) := by decide +kernel
theorem dX9_init_177 : decode cX9_init 177 = .ok (.dup, 1) := by decide +kernel
theorem dX9_init_178 : decode cX9_init 178 = .ok (.bipush 7, 2) := by decide +kernel
theorem dX9_init_180 : decode cX9_init 180 = .ok (.ldc2_w 71, 3) := by decide +kernel
theorem dX9_init_183 : decode cX9_init 183 = .ok (.lastore, 1) := by decide +kernel
theorem dX9_init_184 : decode cX9_init 184 = .ok (.dup, 1) := by decide +kernel
theorem dX9_init_185 : decode cX9_init 185 = .ok (.bipush 8, 2) := by decide +kernel
theorem dX9_init_187 : decode cX9_init 187 = .ok (.ldc2_w 73, 3) := by decide +kernel
theorem dX9_init_190 : decode cX9_init 190 = .ok (.lastore, 1) := by decide +kernel
theorem dX9_init_191 : decode cX9_init 191 = .ok (.putfield 75, 3) := by decide +kernel
theorem dX9_init_194 : decode cX9_init 194 = .ok (.aload_n 0, 1) := by decide +kernel
theorem dX9_init_195 : decode cX9_init 195 = .ok (.bipush 8, 2) := by decide +kernel
theorem dX9_init_197 : decode cX9_init 197 = .ok (.newarray .long, 2) := by decide +kernel
theorem dX9_init_199 : decode cX9_init 199 = .ok (.dup, 1) := by decide +kernel
theorem dX9_init_200 : decode cX9_init 200 = .ok (.iconst 0, 1) := by decide +kernel
theorem dX9_init_201 : decode cX9_init 201 = .ok (.ldc2_w 61, 3) := by decide +kernel
theorem dX9_init_204 : decode cX9_init 204 = .ok (.lastore, 1) := by decide +kernel
theorem dX9_init_205 : decode cX9_init 205 = .ok (.dup, 1) := by decide +kernel
theorem dX9_init_206 : decode cX9_init 206 = .ok (.iconst 1, 1) := by decide +kernel
theorem dX9_init_207 : decode cX9_init 207 = .ok (.ldc2_w 79, 3) := by decide +kernel
theorem dX9_init_210 : decode cX9_init 210 = .ok (.lastore, 1) := by decide +kernel
theorem dX9_init_211 : decode cX9_init 211 = .ok (.dup, 1) := by decide +kernel
theorem dX9_init_212 : decode cX9_init 212 = .ok (.iconst 2, 1) := by decide +kernel
theorem dX9_init_213 : decode cX9_init 213 = .ok (.ldc2_w 81, 3) := by decide +kernel
theorem dX9_init_216 : decode cX9_init 216 = .ok (.lastore, 1) := by decide +kernel
theorem dX9_init_217 : decode cX9_init 217 = .ok (.dup, 1) := by decide +kernel
theorem dX9_init_218 : decode cX9_init 218 = .ok (.iconst 3, 1) := by decide +kernel
theorem dX9_init_219 : decode cX9_init 219 = .ok (.ldc2_w 83, 3) := by decide +kernel
theorem dX9_init_222 : decode cX9_init 222 = .ok (.lastore, 1) := by decide +kernel
theorem dX9_init_223 : decode cX9_init 223 = .ok (.dup, 1) := by decide +kernel
theorem dX9_init_224 : decode cX9_init 224 = .ok (.iconst 4, 1) := by decide +kernel
theorem dX9_init_225 : decode cX9_init 225 = .ok (.ldc2_w 59, 3) := by decide +kernel
theorem dX9_init_228 : decode cX9_init 228 = .ok (.lastore, 1) := by decide +kernel
theorem dX9_init_229 : decode cX9_init 229 = .ok (.dup, 1) := by decide +kernel
theorem dX9_init_230 : decode cX9_init 230 = .ok (.iconst 5, 1) := by decide +kernel
theorem dX9_init_231 : decode cX9_init 231 = .ok (.ldc2_w 85, 3) := by decide +kernel
theorem dX9_init_234 : decode cX9_init 234 = .ok (.lastore, 1) := by decide +kernel
theorem dX9_init_235 : decode cX9_init 235 = .ok (.dup, 1) := by decide +kernel
theorem dX9_init_236 : decode cX9_init 236 = .ok (.bipush 6, 2) := by decide +kernel
theorem dX9_init_238 : decode cX9_init 238 = .ok (.ldc2_w 57, 3) := by decide +kernel
theorem dX9_init_241 : decode cX9_init 241 = .ok (.lastore, 1) := by decide +kernel
theorem dX9_init_242 : decode cX9_init 242 = .ok (.dup, 1) := by decide +kernel
theorem dX9_init_243 : decode cX9_init 243 = .ok (.bipush 7, 2) := by decide +kernel
theorem dX9_init_245 : decode cX9_init 245 = .ok (.ldc2_w 87, 3) := by decide +kernel
theorem dX9_init_248 : decode cX9_init 248 = .ok (.lastore, 1) := by decide +kernel
theorem dX9_init_249 : decode cX9_init 249 = .ok (.putfield 89, 3) := by decide +kernel
theorem dX9_init_252 : decode cX9_init 252 = .ok (.aload_n 0, 1) := by decide +kernel
theorem dX9_init_253 : decode cX9_init 253 = .ok (.iconst 3, 1) := by decide +kernel
theorem dX9_init_254 : decode cX9_init 254 = .ok (.newarray .long, 2) := by decide +kernel
theorem dX9_init_256 : decode cX9_init 256 = .ok (.dup, 1) := by decide +kernel
theorem dX9_init_257 : decode cX9_init 257 = .ok (.iconst 0, 1) := by decide +kernel
theorem dX9_init_258 : decode cX9_init 258 = .ok (.ldc2_w 92, 3) := by decide +kernel
theorem dX9_init_261 : decode cX9_init 261 = .ok (.lastore, 1) := by decide +kernel
theorem dX9_init_262 : decode cX9_init 262 = .ok (.dup, 1) := by decide +kernel
theorem dX9_init_263 : decode cX9_init 263 = .ok (.iconst 1, 1) := by decide +kernel
theorem dX9_init_264 : decode cX9_init 264 = .ok (.ldc2_w 94, 3) := by decide +kernel
theorem dX9_init_267 : decode cX9_init 267 = .ok (.lastore, 1) := by decide +kernel
theorem dX9_init_268 : decode cX9_init 268 = .ok (.dup, 1) := by decide +kernel
theorem dX9_init_269 : decode cX9_init 269 = .ok (.iconst 2, 1) := by decide +kernel
theorem dX9_init_270 : decode cX9_init 270 = .ok (.ldc2_w 96, 3) := by decide +kernel
theorem dX9_init_273 : decode cX9_init 273 = .ok (.lastore, 1) := by decide +kernel
theorem dX9_init_274 : decode cX9_init 274 = .ok (.putfield 98, 3) := by decide +kernel
theorem dX9_init_277 : decode cX9_init 277 = .ok (.aload_n 0, 1) := by decide +kernel
theorem dX9_init_278 : decode cX9_init 278 = .ok (.bipush 13, 2) := by decide +kernel
theorem dX9_init_280 : decode cX9_init 280 = .ok (.newarray .long, 2) := by decide +kernel
theorem dX9_init_282 : decode cX9_init 282 = .ok (.putfield 101, 3) := by decide +kernel
theorem dX9_init_285 : decode cX9_init 285 = .ok (.aload_n 0, 1) := by decide +kernel
theorem dX9_init_286 : decode cX9_init 286 = .ok (.bipush 13, 2) := by decide +kernel
theorem dX9_init_288 : decode cX9_init 288 = .ok (.newarray .long, 2) := by decide +kernel
theorem dX9_init_290 : decode cX9_init 290 = .ok (.putfield 104, 3) := by decide +kernel
theorem dX9_init_293 : decode cX9_init 293 = .ok (.aload_n 0, 1) := by decide +kernel
theorem dX9_init_294 : decode cX9_init 294 = .ok (.sipush 400, 3) := by decide +kernel
theorem dX9_init_297 : decode cX9_init 297 = .ok (.newarray .long, 2) := by decide +kernel
theorem dX9_init_299 : decode cX9_init 299 = .ok (.putfield 107, 3) := by decide +kernel
theorem dX9_init_302 : decode cX9_init 302 = .ok (.aload_n 0, 1) := by decide +kernel
theorem dX9_init_303 : decode cX9_init 303 = .ok (.iconst 3, 1) := by decide +kernel
theorem dX9_init_304 : decode cX9_init 304 = .ok (.newarray .int, 2) := by decide +kernel
theorem dX9_init_306 : decode cX9_init 306 = .ok (.putfield 110, 3) := by decide +kernel
theorem dX9_init_309 : decode cX9_init 309 = .ok (.aload_n 0, 1) := by decide +kernel
theorem dX9_init_310 : decode cX9_init 310 = .ok (.sipush 490, 3) := by decide +kernel
theorem dX9_init_313 : decode cX9_init 313 = .ok (.newarray .boolean, 2) := by decide +kernel
theorem dX9_init_315 : decode cX9_init 315 = .ok (.putfield 113, 3) := by decide +kernel
theorem dX9_init_318 : decode cX9_init 318 = .ok (.aload_n 0, 1) := by decide +kernel
theorem dX9_init_319 : decode cX9_init 319 = .ok (.sipush 490, 3) := by decide +kernel
theorem dX9_init_322 : decode cX9_init 322 = .ok (.newarray .boolean, 2) := by decide +kernel
theorem dX9_init_324 : decode cX9_init 324 = .ok (.putfield 116, 3) := by decide +kernel
theorem dX9_init_327 : decode cX9_init 327 = .ok (.aload_n 0, 1) := by decide +kernel
theorem dX9_init_328 : decode cX9_init 328 = .ok (.bipush 100, 2) := by decide +kernel
theorem dX9_init_330 : decode cX9_init 330 = .ok (.newarray .boolean, 2) := by decide +kernel
theorem dX9_init_332 : decode cX9_init 332 = .ok (.putfield 119, 3) := by decide +kernel
theorem dX9_init_335 : decode cX9_init 335 = .ok (.aload_n 0, 1) := by decide +kernel
theorem dX9_init_336 : decode cX9_init 336 = .ok (.sipush 183, 3) := by decide +kernel
theorem dX9_init_339 : decode cX9_init 339 = .ok (.newarray .int, 2) := by decide +kernel
theorem dX9_init_341 : decode cX9_init 341 = .ok (.putfield 122, 3) := by decide +kernel
theorem dX9_init_344 : decode cX9_init 344 = .ok (.aload_n 0, 1) := by decide +kernel
theorem dX9_init_345 : decode cX9_init 345 = .ok (.bipush 21, 2) := by decide +kernel
theorem dX9_init_347 : decode cX9_init 347 = .ok (.newarray .long, 2) := by decide +kernel
theorem dX9_init_349 : decode cX9_init 349 = .ok (.putfield 125, 3) := by decide +kernel
theorem dX9_init_352 : decode cX9_init 352 = .ok (.aload_n 0, 1) := by decide +kernel
theorem dX9_init_353 : decode cX9_init 353 = .ok (.iconst 4, 1) := by decide +kernel
theorem dX9_init_354 : decode cX9_init 354 = .ok (.newarray .long, 2) := by decide +kernel
theorem dX9_init_356 : decode cX9_init 356 = .ok (.dup, 1) := by decide +kernel
theorem dX9_init_357 : decode cX9_init 357 = .ok (.iconst 0, 1) := by decide +kernel
theorem dX9_init_358 : decode cX9_init 358 = .ok (.ldc2_w 128, 3) := by decide +kernel
theorem dX9_init_361 : decode cX9_init 361 = .ok (.lastore, 1) := by decide +kernel
theorem dX9_init_362 : decode cX9_init 362 = .ok (.dup, 1) := by decide +kernel
theorem dX9_init_363 : decode cX9_init 363 = .ok (.iconst 1, 1) := by decide +kernel
theorem dX9_init_364 : decode cX9_init 364 = .ok (.ldc2_w 130, 3) := by decide +kernel
theorem dX9_init_367 : decode cX9_init 367 = .ok (.lastore, 1) := by decide +kernel
theorem dX9_init_368 : decode cX9_init 368 = .ok (.dup, 1) := by decide +kernel
theorem dX9_init_369 : decode cX9_init 369 = .ok (.iconst 2, 1) := by decide +kernel
theorem dX9_init_370 : decode cX9_init 370 = .ok (.ldc2_w 132, 3) := by decide +kernel
theorem dX9_init_373 : decode cX9_init 373 = .ok (.lastore, 1) := by decide +kernel
theorem dX9_init_374 : decode cX9_init 374 = .ok (.dup, 1) := by decide +kernel
theorem dX9_init_375 : decode cX9_init 375 = .ok (.iconst 3, 1) := by decide +kernel
theorem dX9_init_376 : decode cX9_init 376 = .ok (.ldc2_w 134, 3) := by decide +kernel
theorem dX9_init_379 : decode cX9_init 379 = .ok (.lastore, 1) := by decide +kernel
theorem dX9_init_380 : decode cX9_init 380 = .ok (.putfield 136, 3) := by decide +kernel
theorem dX9_init_383 : decode cX9_init 383 = .ok (.aload_n 0, 1) := by decide +kernel
theorem dX9_init_384 : decode cX9_init 384 = .ok (.iconst 3, 1) := by decide +kernel
theorem dX9_init_385 : decode cX9_init 385 = .ok (.newarray .long, 2) := by decide +kernel
theorem dX9_init_387 : decode cX9_init 387 = .ok (.dup, 1) := by decide +kernel
theorem dX9_init_388 : decode cX9_init 388 = .ok (.iconst 0, 1) := by decide +kernel
theorem dX9_init_389 : decode cX9_init 389 = .ok (.ldc2_w 139, 3) := by decide +kernel
theorem dX9_init_392 : decode cX9_init 392 = .ok (.lastore, 1) := by decide +kernel
theorem dX9_init_393 : decode cX9_init 393 = .ok (.dup, 1) := by decide +kernel
theorem dX9_init_394 : decode cX9_init 394 = .ok (.iconst 1, 1) := by decide +kernel
theorem dX9_init_395 : decode cX9_init 395 = .ok (.ldc2_w 85, 3) := by decide +kernel
theorem dX9_init_398 : decode cX9_init 398 = .ok (.lastore, 1) := by decide +kernel
theorem dX9_init_399 : decode cX9_init 399 = .ok (.dup, 1) := by decide +kernel
theorem dX9_init_400 : decode cX9_init 400 = .ok (.iconst 2, 1) := by decide +kernel
theorem dX9_init_401 : decode cX9_init 401 = .ok (.ldc2_w 141, 3) := by decide +kernel
theorem dX9_init_404 : decode cX9_init 404 = .ok (.lastore, 1) := by decide +kernel
theorem dX9_init_405 : decode cX9_init 405 = .ok (.putfield 143, 3) := by decide +kernel
theorem dX9_init_408 : decode cX9_init 408 = .ok (.aload_n 0, 1) := by decide +kernel
theorem dX9_init_409 : decode cX9_init 409 = .ok (.bipush 96, 2) := by decide +kernel
theorem dX9_init_411 : decode cX9_init 411 = .ok (.newarray .int, 2) := by decide +kernel
theorem dX9_init_413 : decode cX9_init 413 = .ok (.putfield 146, 3) := by decide +kernel
theorem dX9_init_416 : decode cX9_init 416 = .ok (.aload_n 0, 1) := by decide +kernel
theorem dX9_init_417 : decode cX9_init 417 = .ok (.iconst (-1), 1) := by decide +kernel
theorem dX9_init_418 : decode cX9_init 418 = .ok (.putfield 149, 3) := by decide +kernel
theorem dX9_init_421 : decode cX9_init 421 = .ok (.aload_n 0, 1) := by decide +kernel
theorem dX9_init_422 : decode cX9_init 422 = .ok (.bipush 23, 2) := by decide +kernel
theorem dX9_init_424 : decode cX9_init 424 = .ok (.newarray .int, 2) := by decide +kernel
theorem dX9_init_426 : decode cX9_init 426 = .ok (.putfield 152, 3) := by decide +kernel
theorem dX9_init_429 : decode cX9_init 429 = .ok (.aload_n 0, 1) := by decide +kernel
theorem dX9_init_430 : decode cX9_init 430 = .ok (.iconst (-1), 1) := by decide +kernel
theorem dX9_init_431 : decode cX9_init 431 = .ok (.putfield 155, 3) := by decide +kernel
theorem dX9_init_434 : decode cX9_init 434 = .ok (.aload_n 0, 1) := by decide +kernel
theorem dX9_init_435 : decode cX9_init 435 = .ok (.iconst (-1), 1) := by decide +kernel
theorem dX9_init_436 : decode cX9_init 436 = .ok (.putfield 158, 3) := by decide +kernel
theorem dX9_init_439 : decode cX9_init 439 = .ok (.aload_n 0, 1) := by decide +kernel
theorem dX9_init_440 : decode cX9_init 440 = .ok (.getfield 13, 3) := by decide +kernel
theorem dX9_init_443 : decode cX9_init 443 = .ok (.bipush 6, 2) := by decide +kernel
theorem dX9_init_445 : decode cX9_init 445 = .ok (.iconst (-1), 1) := by decide +kernel
theorem dX9_init_446 : decode cX9_init 446 = .ok (.iastore, 1) := by decide +kernel
theorem dX9_init_447 : decode cX9_init 447 = .ok (.aload_n 0, 1) := by decide +kernel
theorem dX9_init_448 : decode cX9_init 448 = .ok (.getfield 13, 3) := by decide +kernel
theorem dX9_init_451 : decode cX9_init 451 = .ok (.bipush 8, 2) := by decide +kernel
theorem dX9_init_453 : decode cX9_init 453 = .ok (.iconst 1, 1) := by decide +kernel
theorem dX9_init_454 : decode cX9_init 454 = .ok (.iastore, 1) := by decide +kernel
theorem dX9_init_455 : decode cX9_init 455 = .ok (.return_, 1) := by decide +kernel
theorem dX9_in_0 : decode cX9_in 0 = .ok (.lload_n 0, 1) := by decide +kernel
theorem dX9_in_1 : decode cX9_in 1 = .ok (.lload_n 2, 1) := by decide +kernel
theorem dX9_in_2 : decode cX9_in 2 = .ok (.lcmp, 1) := by decide +kernel
theorem dX9_in_3 : decode cX9_in 3 = .ok (.ifCond .lt 14, 3) := by decide +kernel
theorem dX9_in_6 : decode cX9_in 6 = .ok (.lload_n 0, 1) := by decide +kernel
theorem dX9_in_7 : decode cX9_in 7 = .ok (.lload 4, 2) := by decide +kernel
theorem dX9_in_9 : decode cX9_in 9 = .ok (.lcmp, 1) := by decide +kernel
theorem dX9_in_10 : decode cX9_in 10 = .ok (.ifCond .gt 7, 3) := by decide +kernel
theorem dX9_in_13 : decode cX9_in 13 = .ok (.iconst 1, 1) := by decide +kernel
theorem dX9_in_14 : decode cX9_in 14 = .ok (.goto 4, 3) := by decide +kernel
theorem dX9_in_17 : decode cX9_in 17 = .ok (.iconst 0, 1) := by decide +kernel
theorem dX9_in_18 : decode cX9_in 18 = .ok (.ireturn, 1) := by decide +kernel
theorem dX9_is_0 : decode cX9_is 0 = .ok (.iload_n 0, 1) := by decide +kernel
theorem dX9_is_1 : decode cX9_is 1 = .ok (.iload_n 1, 1) := by decide +kernel
theorem dX9_is_2 : decode cX9_is 2 = .ok (.ishr, 1) := by decide +kernel
theorem dX9_is_3 : decode cX9_is 3 = .ok (.iconst 1, 1) := by decide +kernel
theorem dX9_is_4 : decode cX9_is 4 = .ok (.iand, 1) := by decide +kernel
theorem dX9_is_5 : decode cX9_is 5 = .ok (.iconst 1, 1) := by decide +kernel
theorem dX9_is_6 : decode cX9_is 6 = .ok (.if_icmp .ne 7, 3) := by decide +kernel
theorem dX9_is_9 : decode cX9_is 9 = .ok (.iconst 1, 1) := by decide +kernel
theorem dX9_is_10 : decode cX9_is 10 = .ok (.goto 4, 3) := by decide +kernel
theorem dX9_is_13 : decode cX9_is 13 = .ok (.iconst 0, 1) := by decide +kernel
theorem dX9_is_14 : decode cX9_is 14 = .ok (.ireturn, 1) := by decide +kernel
theorem dX9_ones_0 : decode cX9_ones 0 = .ok (.iconst 0, 1) := by decide +kernel
theorem dX9_ones_1 : decode cX9_ones 1 = .ok (.istore_n 1, 1) := by decide +kernel
theorem dX9_ones_2 : decode cX9_ones 2 = .ok (.iconst 0, 1) := by decide +kernel
theorem dX9_ones_3 : decode cX9_ones 3 = .ok (.istore_n 2, 1) := by decide +kernel
theorem dX9_ones_4 : decode cX9_ones 4 = .ok (.iload_n 2, 1) := by decide +kernel
theorem dX9_ones_5 : decode cX9_ones 5 = .ok (.bipush 10, 2) := by decide +kernel
theorem dX9_ones_7 : decode cX9_ones 7 = .ok (.if_icmp .ge 17, 3) := by decide +kernel
theorem dX9_ones_10 : decode cX9_ones 10 = .ok (.iload_n 1, 1) := by decide +kernel
theorem dX9_ones_11 : decode cX9_ones 11 = .ok (.iload_n 0, 1) := by decide +kernel
theorem dX9_ones_12 : decode cX9_ones 12 = .ok (.iload_n 2, 1) := by decide +kernel
theorem dX9_ones_13 : decode cX9_ones 13 = .ok (.ishr, 1) := by decide +kernel
theorem dX9_ones_14 : decode cX9_ones 14 = .ok (.iconst 1, 1) := by decide +kernel
theorem dX9_ones_15 : decode cX9_ones 15 = .ok (.iand, 1) := by decide +kernel
theorem dX9_ones_16 : decode cX9_ones 16 = .ok (.iadd, 1) := by decide +kernel
theorem dX9_ones_17 : decode cX9_ones 17 = .ok (.istore_n 1, 1) := by decide +kernel
theorem dX9_ones_18 : decode cX9_ones 18 = .ok (.iinc 2 1, 3) := by decide +kernel
theorem dX9_ones_21 : decode cX9_ones 21 = .ok (.goto (-17), 3) := by decide +kernel
theorem dX9_ones_24 : decode cX9_ones 24 = .ok (.iload_n 1, 1) := by decide +kernel
theorem dX9_ones_25 : decode cX9_ones 25 = .ok (.ireturn, 1) := by decide +kernel
theorem dX9_bounded_0 : decode cX9_bounded 0 = .ok (.lload_n 0, 1) := by decide +kernel
theorem dX9_bounded_1 : decode cX9_bounded 1 = .ok (.iload_n 2, 1) := by decide +kernel
theorem dX9_bounded_2 : decode cX9_bounded 2 = .ok (.i2l, 1) := by decide +kernel
theorem dX9_bounded_3 : decode cX9_bounded 3 = .ok (.lcmp, 1) := by decide +kernel
theorem dX9_bounded_4 : decode cX9_bounded 4 = .ok (.ifCond .ge 7, 3) := by decide +kernel
theorem dX9_bounded_7 : decode cX9_bounded 7 = .ok (.iload_n 2, 1) := by decide +kernel
theorem dX9_bounded_8 : decode cX9_bounded 8 = .ok (.goto 16, 3) := by decide +kernel
theorem dX9_bounded_11 : decode cX9_bounded 11 = .ok (.lload_n 0, 1) := by decide +kernel
theorem dX9_bounded_12 : decode cX9_bounded 12 = .ok (.iload_n 3, 1) := by decide +kernel
theorem dX9_bounded_13 : decode cX9_bounded 13 = .ok (.i2l, 1) := by decide +kernel
theorem dX9_bounded_14 : decode cX9_bounded 14 = .ok (.lcmp, 1) := by decide +kernel
theorem dX9_bounded_15 : decode cX9_bounded 15 = .ok (.ifCond .le 7, 3) := by decide +kernel
theorem dX9_bounded_18 : decode cX9_bounded 18 = .ok (.iload_n 3, 1) := by decide +kernel
theorem dX9_bounded_19 : decode cX9_bounded 19 = .ok (.goto 5, 3) := by decide +kernel
theorem dX9_bounded_22 : decode cX9_bounded 22 = .ok (.lload_n 0, 1) := by decide +kernel
theorem dX9_bounded_23 : decode cX9_bounded 23 = .ok (.l2i, 1) := by decide +kernel
theorem dX9_bounded_24 : decode cX9_bounded 24 = .ok (.ireturn, 1) := by decide +kernel
theorem dX9_tell_0 : decode cX9_tell 0 = .ok (.aload_n 0, 1) := by decide +kernel
theorem dX9_tell_1 : decode cX9_tell 1 = .ok (.iload_n 1, 1) := by decide +kernel
theorem dX9_tell_2 : decode cX9_tell 2 = .ok (.ifCond .ge 7, 3) := by decide +kernel
theorem dX9_tell_5 : decode cX9_tell 5 = .ok (.iload_n 1, 1) := by decide +kernel
theorem dX9_tell_6 : decode cX9_tell 6 = .ok (.goto 4, 3) := by decide +kernel
theorem dX9_tell_9 : decode cX9_tell 9 = .ok (.iconst 0, 1) := by decide +kernel
theorem dX9_tell_10 : decode cX9_tell 10 = .ok (.putfield 164, 3) := by decide +kernel
theorem dX9_tell_13 : decode cX9_tell 13 = .ok (.iload_n 1, 1) := by decide +kernel
theorem dX9_tell_14 : decode cX9_tell 14 = .ok (.ifCond .ge 14, 3) := by decide +kernel
theorem dX9_tell_17 : decode cX9_tell 17 = .ok (.aload_n 0, 1) := by decide +kernel
theorem dX9_tell_18 : decode cX9_tell 18 = .ok (.getfield 7, 3) := by decide +kernel
theorem dX9_tell_21 : decode cX9_tell 21 = .ok (.iload_n 1, 1) := by decide +kernel
theorem dX9_tell_22 : decode cX9_tell 22 = .ok (.ineg, 1) := by decide +kernel
theorem dX9_tell_23 : decode cX9_tell 23 = .ok (.dup2, 1) := by decide +kernel
theorem dX9_tell_24 : decode cX9_tell 24 = .ok (.iaload, 1) := by decide +kernel
theorem dX9_tell_25 : decode cX9_tell 25 = .ok (.iconst 1, 1) := by decide +kernel
theorem dX9_tell_26 : decode cX9_tell 26 = .ok (.iadd, 1) := by decide +kernel
theorem dX9_tell_27 : decode cX9_tell 27 = .ok (.iastore, 1) := by decide +kernel
theorem dX9_tell_28 : decode cX9_tell 28 = .ok (.iload_n 1, 1) := by decide +kernel
theorem dX9_tell_29 : decode cX9_tell 29 = .ok (.ireturn, 1) := by decide +kernel
theorem dX9_change_0 : decode cX9_change 0 = .ok (.aload_n 0, 1) := by decide +kernel
theorem dX9_change_1 : decode cX9_change 1 = .ok (.getfield 13, 3) := by decide +kernel
theorem dX9_change_4 : decode cX9_change 4 = .ok (.iload_n 1, 1) := by decide +kernel
theorem dX9_change_5 : decode cX9_change 5 = .ok (.iaload, 1) := by decide +kernel
theorem dX9_change_6 : decode cX9_change 6 = .ok (.istore_n 3, 1) := by decide +kernel
theorem dX9_change_7 : decode cX9_change 7 = .ok (.aload_n 0, 1) := by decide +kernel
theorem dX9_change_8 : decode cX9_change 8 = .ok (.getfield 13, 3) := by decide +kernel
theorem dX9_change_11 : decode cX9_change 11 = .ok (.iload_n 1, 1) := by decide +kernel
theorem dX9_change_12 : decode cX9_change 12 = .ok (.iload_n 2, 1) := by decide +kernel
theorem dX9_change_13 : decode cX9_change 13 = .ok (.iastore, 1) := by decide +kernel
theorem dX9_change_14 : decode cX9_change 14 = .ok (.aload_n 0, 1) := by decide +kernel
theorem dX9_change_15 : decode cX9_change 15 = .ok (.iconst 0, 1) := by decide +kernel
theorem dX9_change_16 : decode cX9_change 16 = .ok (.putfield 164, 3) := by decide +kernel
theorem dX9_change_19 : decode cX9_change 19 = .ok (.iload_n 3, 1) := by decide +kernel
theorem dX9_change_20 : decode cX9_change 20 = .ok (.ireturn, 1) := by decide +kernel
theorem dX9_lasting_0 : decode cX9_lasting 0 = .ok (.aload_n 0, 1) := by decide +kernel
theorem dX9_lasting_1 : decode cX9_lasting 1 = .ok (.iload_n 1, 1) := by decide +kernel
theorem dX9_lasting_2 : decode cX9_lasting 2 = .ok (.ifCond .ge 10, 3) := by decide +kernel
theorem dX9_lasting_5 : decode cX9_lasting 5 = .ok (.aload_n 0, 1) := by decide +kernel
theorem dX9_lasting_6 : decode cX9_lasting 6 = .ok (.getfield 167, 3) := by decide +kernel
theorem dX9_lasting_9 : decode cX9_lasting 9 = .ok (.goto 4, 3) := by decide +kernel
theorem dX9_lasting_12 : decode cX9_lasting 12 = .ok (.iconst 0, 1) := by decide +kernel
theorem dX9_lasting_13 : decode cX9_lasting 13 = .ok (.putfield 167, 3) := by decide +kernel
theorem dX9_lasting_16 : decode cX9_lasting 16 = .ok (.aload_n 0, 1) := by decide +kernel
theorem dX9_lasting_17 : decode cX9_lasting 17 = .ok (.iload_n 1, 1) := by decide +kernel
theorem dX9_lasting_18 : decode cX9_lasting 18 = .ok (.invokevirtual 170, 3) := by decide +kernel
theorem dX9_lasting_21 : decode cX9_lasting 21 = .ok (.ireturn, 1) := by decide +kernel
theorem dX9_keepAll_0 : decode cX9_keepAll 0 = .ok (.iconst 0, 1) := by decide +kernel
theorem dX9_keepAll_1 : decode cX9_keepAll 1 = .ok (.istore_n 2, 1) := by decide +kernel
theorem dX9_keepAll_2 : decode cX9_keepAll 2 = .ok (.iload_n 2, 1) := by decide +kernel
theorem dX9_keepAll_3 : decode cX9_keepAll 3 = .ok (.bipush 23, 2) := by decide +kernel
theorem dX9_keepAll_5 : decode cX9_keepAll 5 = .ok (.if_icmp .ge 29, 3) := by decide +kernel
theorem dX9_keepAll_8 : decode cX9_keepAll 8 = .ok (.aload_n 0, 1) := by decide +kernel
theorem dX9_keepAll_9 : decode cX9_keepAll 9 = .ok (.getfield 23, 3) := by decide +kernel
theorem dX9_keepAll_12 : decode cX9_keepAll 12 = .ok (.bipush 23, 2) := by decide +kernel
theorem dX9_keepAll_14 : decode cX9_keepAll 14 = .ok (.iload_n 1, 1) := by decide +kernel
theorem dX9_keepAll_15 : decode cX9_keepAll 15 = .ok (.imul, 1) := by decide +kernel
theorem dX9_keepAll_16 : decode cX9_keepAll 16 = .ok (.iload_n 2, 1) := by decide +kernel
theorem dX9_keepAll_17 : decode cX9_keepAll 17 = .ok (.iadd, 1) := by decide +kernel
theorem dX9_keepAll_18 : decode cX9_keepAll 18 = .ok (.aload_n 0, 1) := by decide +kernel
theorem dX9_keepAll_19 : decode cX9_keepAll 19 = .ok (.getfield 13, 3) := by decide +kernel
theorem dX9_keepAll_22 : decode cX9_keepAll 22 = .ok (.bipush 7, 2) := by decide +kernel
theorem dX9_keepAll_24 : decode cX9_keepAll 24 = .ok (.iload_n 2, 1) := by decide +kernel
theorem dX9_keepAll_25 : decode cX9_keepAll 25 = .ok (.iadd, 1) := by decide +kernel
theorem dX9_keepAll_26 : decode cX9_keepAll 26 = .ok (.iaload, 1) := by decide +kernel
theorem dX9_keepAll_27 : decode cX9_keepAll 27 = .ok (.iastore, 1) := by decide +kernel
theorem dX9_keepAll_28 : decode cX9_keepAll 28 = .ok (.iinc 2 1, 3) := by decide +kernel
theorem dX9_keepAll_31 : decode cX9_keepAll 31 = .ok (.goto (-29), 3) := by decide +kernel
theorem dX9_keepAll_34 : decode cX9_keepAll 34 = .ok (.return_, 1) := by decide +kernel
theorem dX9_putBack_0 : decode cX9_putBack 0 = .ok (.iconst 0, 1) := by decide +kernel
theorem dX9_putBack_1 : decode cX9_putBack 1 = .ok (.istore_n 2, 1) := by decide +kernel
theorem dX9_putBack_2 : decode cX9_putBack 2 = .ok (.iload_n 2, 1) := by decide +kernel
theorem dX9_putBack_3 : decode cX9_putBack 3 = .ok (.bipush 23, 2) := by decide +kernel
theorem dX9_putBack_5 : decode cX9_putBack 5 = .ok (.if_icmp .ge 29, 3) := by decide +kernel
theorem dX9_putBack_8 : decode cX9_putBack 8 = .ok (.aload_n 0, 1) := by decide +kernel
theorem dX9_putBack_9 : decode cX9_putBack 9 = .ok (.getfield 13, 3) := by decide +kernel
theorem dX9_putBack_12 : decode cX9_putBack 12 = .ok (.bipush 7, 2) := by decide +kernel
theorem dX9_putBack_14 : decode cX9_putBack 14 = .ok (.iload_n 2, 1) := by decide +kernel
theorem dX9_putBack_15 : decode cX9_putBack 15 = .ok (.iadd, 1) := by decide +kernel
theorem dX9_putBack_16 : decode cX9_putBack 16 = .ok (.aload_n 0, 1) := by decide +kernel
theorem dX9_putBack_17 : decode cX9_putBack 17 = .ok (.getfield 23, 3) := by decide +kernel
theorem dX9_putBack_20 : decode cX9_putBack 20 = .ok (.bipush 23, 2) := by decide +kernel
theorem dX9_putBack_22 : decode cX9_putBack 22 = .ok (.iload_n 1, 1) := by decide +kernel
theorem dX9_putBack_23 : decode cX9_putBack 23 = .ok (.imul, 1) := by decide +kernel
theorem dX9_putBack_24 : decode cX9_putBack 24 = .ok (.iload_n 2, 1) := by decide +kernel
theorem dX9_putBack_25 : decode cX9_putBack 25 = .ok (.iadd, 1) := by decide +kernel
theorem dX9_putBack_26 : decode cX9_putBack 26 = .ok (.iaload, 1) := by decide +kernel
theorem dX9_putBack_27 : decode cX9_putBack 27 = .ok (.iastore, 1) := by decide +kernel
theorem dX9_putBack_28 : decode cX9_putBack 28 = .ok (.iinc 2 1, 3) := by decide +kernel
theorem dX9_putBack_31 : decode cX9_putBack 31 = .ok (.goto (-29), 3) := by decide +kernel
theorem dX9_putBack_34 : decode cX9_putBack 34 = .ok (.return_, 1) := by decide +kernel
theorem dX9_remember_0 : decode cX9_remember 0 = .ok (.aload_n 0, 1) := by decide +kernel
theorem dX9_remember_1 : decode cX9_remember 1 = .ok (.getfield 167, 3) := by decide +kernel
theorem dX9_remember_4 : decode cX9_remember 4 = .ok (.bipush 16, 2) := by decide +kernel
theorem dX9_remember_6 : decode cX9_remember 6 = .ok (.if_icmp .ne 71, 3) := by decide +kernel
theorem dX9_remember_9 : decode cX9_remember 9 = .ok (.iconst 0, 1) := by decide +kernel
theorem dX9_remember_10 : decode cX9_remember 10 = .ok (.istore_n 2, 1) := by decide +kernel
theorem dX9_remember_11 : decode cX9_remember 11 = .ok (.iload_n 2, 1) := by decide +kernel
theorem dX9_remember_12 : decode cX9_remember 12 = .ok (.sipush 345, 3) := by decide +kernel
theorem dX9_remember_15 : decode cX9_remember 15 = .ok (.if_icmp .ge 24, 3) := by decide +kernel
theorem dX9_remember_18 : decode cX9_remember 18 = .ok (.aload_n 0, 1) := by decide +kernel
theorem dX9_remember_19 : decode cX9_remember 19 = .ok (.getfield 23, 3) := by decide +kernel
theorem dX9_remember_22 : decode cX9_remember 22 = .ok (.iload_n 2, 1) := by decide +kernel
theorem dX9_remember_23 : decode cX9_remember 23 = .ok (.aload_n 0, 1) := by decide +kernel
theorem dX9_remember_24 : decode cX9_remember 24 = .ok (.getfield 23, 3) := by decide +kernel
theorem dX9_remember_27 : decode cX9_remember 27 = .ok (.iload_n 2, 1) := by decide +kernel
theorem dX9_remember_28 : decode cX9_remember 28 = .ok (.bipush 23, 2) := by decide +kernel
theorem dX9_remember_30 : decode cX9_remember 30 = .ok (.iadd, 1) := by decide +kernel
theorem dX9_remember_31 : decode cX9_remember 31 = .ok (.iaload, 1) := by decide +kernel
theorem dX9_remember_32 : decode cX9_remember 32 = .ok (.iastore, 1) := by decide +kernel
theorem dX9_remember_33 : decode cX9_remember 33 = .ok (.iinc 2 1, 3) := by decide +kernel
theorem dX9_remember_36 : decode cX9_remember 36 = .ok (.goto (-25), 3) := by decide +kernel
theorem dX9_remember_39 : decode cX9_remember 39 = .ok (.iconst 0, 1) := by decide +kernel
theorem dX9_remember_40 : decode cX9_remember 40 = .ok (.istore_n 2, 1) := by decide +kernel
theorem dX9_remember_41 : decode cX9_remember 41 = .ok (.iload_n 2, 1) := by decide +kernel
theorem dX9_remember_42 : decode cX9_remember 42 = .ok (.bipush 15, 2) := by decide +kernel
theorem dX9_remember_44 : decode cX9_remember 44 = .ok (.if_icmp .ge 23, 3) := by decide +kernel
theorem dX9_remember_47 : decode cX9_remember 47 = .ok (.aload_n 0, 1) := by decide +kernel
theorem dX9_remember_48 : decode cX9_remember 48 = .ok (.getfield 26, 3) := by decide +kernel
theorem dX9_remember_51 : decode cX9_remember 51 = .ok (.iload_n 2, 1) := by decide +kernel
theorem dX9_remember_52 : decode cX9_remember 52 = .ok (.aload_n 0, 1) := by decide +kernel
theorem dX9_remember_53 : decode cX9_remember 53 = .ok (.getfield 26, 3) := by decide +kernel
theorem dX9_remember_56 : decode cX9_remember 56 = .ok (.iload_n 2, 1) := by decide +kernel
theorem dX9_remember_57 : decode cX9_remember 57 = .ok (.iconst 1, 1) := by decide +kernel
theorem dX9_remember_58 : decode cX9_remember 58 = .ok (.iadd, 1) := by decide +kernel
theorem dX9_remember_59 : decode cX9_remember 59 = .ok (.iaload, 1) := by decide +kernel
theorem dX9_remember_60 : decode cX9_remember 60 = .ok (.iastore, 1) := by decide +kernel
theorem dX9_remember_61 : decode cX9_remember 61 = .ok (.iinc 2 1, 3) := by decide +kernel
theorem dX9_remember_64 : decode cX9_remember 64 = .ok (.goto (-23), 3) := by decide +kernel
theorem dX9_remember_67 : decode cX9_remember 67 = .ok (.aload_n 0, 1) := by decide +kernel
theorem dX9_remember_68 : decode cX9_remember 68 = .ok (.dup, 1) := by decide +kernel
theorem dX9_remember_69 : decode cX9_remember 69 = .ok (.getfield 167, 3) := by decide +kernel
theorem dX9_remember_72 : decode cX9_remember 72 = .ok (.iconst 1, 1) := by decide +kernel
theorem dX9_remember_73 : decode cX9_remember 73 = .ok (.isub, 1) := by decide +kernel
theorem dX9_remember_74 : decode cX9_remember 74 = .ok (.putfield 167, 3) := by decide +kernel
theorem dX9_remember_77 : decode cX9_remember 77 = .ok (.aload_n 0, 1) := by decide +kernel
theorem dX9_remember_78 : decode cX9_remember 78 = .ok (.aload_n 0, 1) := by decide +kernel
theorem dX9_remember_79 : decode cX9_remember 79 = .ok (.getfield 167, 3) := by decide +kernel
theorem dX9_remember_82 : decode cX9_remember 82 = .ok (.invokevirtual 174, 3) := by decide +kernel
theorem dX9_remember_85 : decode cX9_remember 85 = .ok (.aload_n 0, 1) := by decide +kernel
theorem dX9_remember_86 : decode cX9_remember 86 = .ok (.getfield 26, 3) := by decide +kernel
theorem dX9_remember_89 : decode cX9_remember 89 = .ok (.aload_n 0, 1) := by decide +kernel
theorem dX9_remember_90 : decode cX9_remember 90 = .ok (.getfield 167, 3) := by decide +kernel
theorem dX9_remember_93 : decode cX9_remember 93 = .ok (.iload_n 1, 1) := by decide +kernel
theorem dX9_remember_94 : decode cX9_remember 94 = .ok (.iastore, 1) := by decide +kernel
theorem dX9_remember_95 : decode cX9_remember 95 = .ok (.aload_n 0, 1) := by decide +kernel
theorem dX9_remember_96 : decode cX9_remember 96 = .ok (.dup, 1) := by decide +kernel
theorem dX9_remember_97 : decode cX9_remember 97 = .ok (.getfield 167, 3) := by decide +kernel
theorem dX9_remember_100 : decode cX9_remember 100 = .ok (.iconst 1, 1) := by decide +kernel
theorem dX9_remember_101 : decode cX9_remember 101 = .ok (.iadd, 1) := by decide +kernel
theorem dX9_remember_102 : decode cX9_remember 102 = .ok (.putfield 167, 3) := by decide +kernel
theorem dX9_remember_105 : decode cX9_remember 105 = .ok (.return_, 1) := by decide +kernel
theorem dX9_undo_0 : decode cX9_undo 0 = .ok (.aload_n 0, 1) := by decide +kernel
theorem dX9_undo_1 : decode cX9_undo 1 = .ok (.iconst 0, 1) := by decide +kernel
theorem dX9_undo_2 : decode cX9_undo 2 = .ok (.putfield 161, 3) := by decide +kernel
theorem dX9_undo_5 : decode cX9_undo 5 = .ok (.aload_n 0, 1) := by decide +kernel
theorem dX9_undo_6 : decode cX9_undo 6 = .ok (.getfield 167, 3) := by decide +kernel
theorem dX9_undo_9 : decode cX9_undo 9 = .ok (.ifCond .ne 10, 3) := by decide +kernel
theorem dX9_undo_12 : decode cX9_undo 12 = .ok (.aload_n 0, 1) := by decide +kernel
theorem dX9_undo_13 : decode cX9_undo 13 = .ok (.bipush (-3), 2) := by decide +kernel
theorem dX9_undo_15 : decode cX9_undo 15 = .ok (.invokevirtual 170, 3) := by decide +kernel
theorem dX9_undo_18 : decode cX9_undo 18 = .ok (.ireturn, 1) := by decide +kernel
theorem dX9_undo_19 : decode cX9_undo 19 = .ok (.aload_n 0, 1) := by decide +kernel
theorem dX9_undo_20 : decode cX9_undo 20 = .ok (.dup, 1) := by decide +kernel
theorem dX9_undo_21 : decode cX9_undo 21 = .ok (.getfield 167, 3) := by decide +kernel
theorem dX9_undo_24 : decode cX9_undo 24 = .ok (.iconst 1, 1) := by decide +kernel
theorem dX9_undo_25 : decode cX9_undo 25 = .ok (.isub, 1) := by decide +kernel
theorem dX9_undo_26 : decode cX9_undo 26 = .ok (.putfield 167, 3) := by decide +kernel
theorem dX9_undo_29 : decode cX9_undo 29 = .ok (.aload_n 0, 1) := by decide +kernel
theorem dX9_undo_30 : decode cX9_undo 30 = .ok (.aload_n 0, 1) := by decide +kernel
theorem dX9_undo_31 : decode cX9_undo 31 = .ok (.getfield 167, 3) := by decide +kernel
theorem dX9_undo_34 : decode cX9_undo 34 = .ok (.invokevirtual 178, 3) := by decide +kernel
theorem dX9_undo_37 : decode cX9_undo 37 = .ok (.aload_n 0, 1) := by decide +kernel
theorem dX9_undo_38 : decode cX9_undo 38 = .ok (.aload_n 0, 1) := by decide +kernel
theorem dX9_undo_39 : decode cX9_undo 39 = .ok (.getfield 26, 3) := by decide +kernel
theorem dX9_undo_42 : decode cX9_undo 42 = .ok (.aload_n 0, 1) := by decide +kernel
theorem dX9_undo_43 : decode cX9_undo 43 = .ok (.getfield 167, 3) := by decide +kernel
theorem dX9_undo_46 : decode cX9_undo 46 = .ok (.iaload, 1) := by decide +kernel
theorem dX9_undo_47 : decode cX9_undo 47 = .ok (.invokevirtual 170, 3) := by decide +kernel
theorem dX9_undo_50 : decode cX9_undo 50 = .ok (.ireturn, 1) := by decide +kernel
theorem dX9_image_0 : decode cX9_image 0 = .ok (.aload_n 0, 1) := by decide +kernel
theorem dX9_image_1 : decode cX9_image 1 = .ok (.iconst 0, 1) := by decide +kernel
theorem dX9_image_2 : decode cX9_image 2 = .ok (.putfield 161, 3) := by decide +kernel
theorem dX9_image_5 : decode cX9_image 5 = .ok (.iload_n 1, 1) := by decide +kernel
theorem dX9_image_6 : decode cX9_image 6 = .ok (.i2l, 1) := by decide +kernel
theorem dX9_image_7 : decode cX9_image 7 = .ok (.lconst 0, 1) := by decide +kernel
theorem dX9_image_8 : decode cX9_image 8 = .ok (.lconst 1, 1) := by decide +kernel
theorem dX9_image_9 : decode cX9_image 9 = .ok (.invokestatic 181, 3) := by decide +kernel
theorem dX9_image_12 : decode cX9_image 12 = .ok (.ifCond .ne 9, 3) := by decide +kernel
theorem dX9_image_15 : decode cX9_image 15 = .ok (.aload_n 0, 1) := by decide +kernel
theorem dX9_image_16 : decode cX9_image 16 = .ok (.iconst (-1), 1) := by decide +kernel
theorem dX9_image_17 : decode cX9_image 17 = .ok (.invokevirtual 170, 3) := by decide +kernel
theorem dX9_image_20 : decode cX9_image 20 = .ok (.ireturn, 1) := by decide +kernel
theorem dX9_image_21 : decode cX9_image 21 = .ok (.iconst 0, 1) := by decide +kernel
theorem dX9_image_22 : decode cX9_image 22 = .ok (.istore_n 2, 1) := by decide +kernel
theorem dX9_image_23 : decode cX9_image 23 = .ok (.iload_n 2, 1) := by decide +kernel
theorem dX9_image_24 : decode cX9_image 24 = .ok (.sipush 5578, 3) := by decide +kernel
theorem dX9_image_27 : decode cX9_image 27 = .ok (.if_icmp .ge 27, 3) := by decide +kernel
theorem dX9_image_30 : decode cX9_image 30 = .ok (.aload_n 0, 1) := by decide +kernel
theorem dX9_image_31 : decode cX9_image 31 = .ok (.getfield 16, 3) := by decide +kernel
theorem dX9_image_34 : decode cX9_image 34 = .ok (.sipush 5578, 3) := by decide +kernel
theorem dX9_image_37 : decode cX9_image 37 = .ok (.iload_n 1, 1) := by decide +kernel
theorem dX9_image_38 : decode cX9_image 38 = .ok (.imul, 1) := by decide +kernel
theorem dX9_image_39 : decode cX9_image 39 = .ok (.iload_n 2, 1) := by decide +kernel
theorem dX9_image_40 : decode cX9_image 40 = .ok (.iadd, 1) := by decide +kernel
theorem dX9_image_41 : decode cX9_image 41 = .ok (.aload_n 0, 1) := by decide +kernel
theorem dX9_image_42 : decode cX9_image 42 = .ok (.getfield 13, 3) := by decide +kernel
theorem dX9_image_45 : decode cX9_image 45 = .ok (.iload_n 2, 1) := by decide +kernel
theorem dX9_image_46 : decode cX9_image 46 = .ok (.iaload, 1) := by decide +kernel
theorem dX9_image_47 : decode cX9_image 47 = .ok (.iastore, 1) := by decide +kernel
theorem dX9_image_48 : decode cX9_image 48 = .ok (.iinc 2 1, 3) := by decide +kernel
theorem dX9_image_51 : decode cX9_image 51 = .ok (.goto (-28), 3) := by decide +kernel
theorem dX9_image_54 : decode cX9_image 54 = .ok (.aload_n 0, 1) := by decide +kernel
theorem dX9_image_55 : decode cX9_image 55 = .ok (.getfield 19, 3) := by decide +kernel
theorem dX9_image_58 : decode cX9_image 58 = .ok (.iload_n 1, 1) := by decide +kernel
theorem dX9_image_59 : decode cX9_image 59 = .ok (.iconst 1, 1) := by decide +kernel
theorem dX9_image_60 : decode cX9_image 60 = .ok (.bastore, 1) := by decide +kernel
theorem dX9_image_61 : decode cX9_image 61 = .ok (.aload_n 0, 1) := by decide +kernel
theorem dX9_image_62 : decode cX9_image 62 = .ok (.iconst 0, 1) := by decide +kernel
theorem dX9_image_63 : decode cX9_image 63 = .ok (.invokevirtual 170, 3) := by decide +kernel
theorem dX9_image_66 : decode cX9_image 66 = .ok (.ireturn, 1) := by decide +kernel
theorem dX9_back_0 : decode cX9_back 0 = .ok (.aload_n 0, 1) := by decide +kernel
theorem dX9_back_1 : decode cX9_back 1 = .ok (.iconst 0, 1) := by decide +kernel
theorem dX9_back_2 : decode cX9_back 2 = .ok (.putfield 161, 3) := by decide +kernel
theorem dX9_back_5 : decode cX9_back 5 = .ok (.iload_n 1, 1) := by decide +kernel
theorem dX9_back_6 : decode cX9_back 6 = .ok (.i2l, 1) := by decide +kernel
theorem dX9_back_7 : decode cX9_back 7 = .ok (.lconst 0, 1) := by decide +kernel
theorem dX9_back_8 : decode cX9_back 8 = .ok (.lconst 1, 1) := by decide +kernel
theorem dX9_back_9 : decode cX9_back 9 = .ok (.invokestatic 181, 3) := by decide +kernel
theorem dX9_back_12 : decode cX9_back 12 = .ok (.ifCond .ne 9, 3) := by decide +kernel
theorem dX9_back_15 : decode cX9_back 15 = .ok (.aload_n 0, 1) := by decide +kernel
theorem dX9_back_16 : decode cX9_back 16 = .ok (.iconst (-1), 1) := by decide +kernel
theorem dX9_back_17 : decode cX9_back 17 = .ok (.invokevirtual 170, 3) := by decide +kernel
theorem dX9_back_20 : decode cX9_back 20 = .ok (.ireturn, 1) := by decide +kernel
theorem dX9_back_21 : decode cX9_back 21 = .ok (.aload_n 0, 1) := by decide +kernel
theorem dX9_back_22 : decode cX9_back 22 = .ok (.getfield 19, 3) := by decide +kernel
theorem dX9_back_25 : decode cX9_back 25 = .ok (.iload_n 1, 1) := by decide +kernel
theorem dX9_back_26 : decode cX9_back 26 = .ok (.baload, 1) := by decide +kernel
theorem dX9_back_27 : decode cX9_back 27 = .ok (.ifCond .ne 10, 3) := by decide +kernel
theorem dX9_back_30 : decode cX9_back 30 = .ok (.aload_n 0, 1) := by decide +kernel
theorem dX9_back_31 : decode cX9_back 31 = .ok (.bipush (-2), 2) := by decide +kernel
theorem dX9_back_33 : decode cX9_back 33 = .ok (.invokevirtual 170, 3) := by decide +kernel
theorem dX9_back_36 : decode cX9_back 36 = .ok (.ireturn, 1) := by decide +kernel
theorem dX9_back_37 : decode cX9_back 37 = .ok (.iconst 0, 1) := by decide +kernel
theorem dX9_back_38 : decode cX9_back 38 = .ok (.istore_n 2, 1) := by decide +kernel
theorem dX9_back_39 : decode cX9_back 39 = .ok (.iload_n 2, 1) := by decide +kernel
theorem dX9_back_40 : decode cX9_back 40 = .ok (.sipush 5578, 3) := by decide +kernel
theorem dX9_back_43 : decode cX9_back 43 = .ok (.if_icmp .ge 27, 3) := by decide +kernel
theorem dX9_back_46 : decode cX9_back 46 = .ok (.aload_n 0, 1) := by decide +kernel
theorem dX9_back_47 : decode cX9_back 47 = .ok (.getfield 13, 3) := by decide +kernel
theorem dX9_back_50 : decode cX9_back 50 = .ok (.iload_n 2, 1) := by decide +kernel
theorem dX9_back_51 : decode cX9_back 51 = .ok (.aload_n 0, 1) := by decide +kernel
theorem dX9_back_52 : decode cX9_back 52 = .ok (.getfield 16, 3) := by decide +kernel
theorem dX9_back_55 : decode cX9_back 55 = .ok (.sipush 5578, 3) := by decide +kernel
theorem dX9_back_58 : decode cX9_back 58 = .ok (.iload_n 1, 1) := by decide +kernel
theorem dX9_back_59 : decode cX9_back 59 = .ok (.imul, 1) := by decide +kernel
theorem dX9_back_60 : decode cX9_back 60 = .ok (.iload_n 2, 1) := by decide +kernel
theorem dX9_back_61 : decode cX9_back 61 = .ok (.iadd, 1) := by decide +kernel
theorem dX9_back_62 : decode cX9_back 62 = .ok (.iaload, 1) := by decide +kernel
theorem dX9_back_63 : decode cX9_back 63 = .ok (.iastore, 1) := by decide +kernel
theorem dX9_back_64 : decode cX9_back 64 = .ok (.iinc 2 1, 3) := by decide +kernel
theorem dX9_back_67 : decode cX9_back 67 = .ok (.goto (-28), 3) := by decide +kernel
theorem dX9_back_70 : decode cX9_back 70 = .ok (.aload_n 0, 1) := by decide +kernel
theorem dX9_back_71 : decode cX9_back 71 = .ok (.iconst 0, 1) := by decide +kernel
theorem dX9_back_72 : decode cX9_back 72 = .ok (.invokevirtual 185, 3) := by decide +kernel
theorem dX9_back_75 : decode cX9_back 75 = .ok (.ireturn, 1) := by decide +kernel
theorem dX9_isPerch_0 : decode cX9_isPerch 0 = .ok (.iload_n 1, 1) := by decide +kernel
theorem dX9_isPerch_1 : decode cX9_isPerch 1 = .ok (.i2l, 1) := by decide +kernel
theorem dX9_isPerch_2 : decode cX9_isPerch 2 = .ok (.lconst 0, 1) := by decide +kernel
theorem dX9_isPerch_3 : decode cX9_isPerch 3 = .ok (.aload_n 0, 1) := by decide +kernel
theorem dX9_isPerch_4 : decode cX9_isPerch 4 = .ok (.getfield 13, 3) := by decide +kernel
theorem dX9_isPerch_7 : decode cX9_isPerch 7 = .ok (.iconst 0, 1) := by decide +kernel
theorem dX9_isPerch_8 : decode cX9_isPerch 8 = .ok (.iaload, 1) := by decide +kernel
theorem dX9_isPerch_9 : decode cX9_isPerch 9 = .ok (.i2l, 1) := by decide +kernel
theorem dX9_isPerch_10 : decode cX9_isPerch 10 = .ok (.lconst 1, 1) := by decide +kernel
theorem dX9_isPerch_11 : decode cX9_isPerch 11 = .ok (.lsub, 1) := by decide +kernel
theorem dX9_isPerch_12 : decode cX9_isPerch 12 = .ok (.invokestatic 181, 3) := by decide +kernel
theorem dX9_isPerch_15 : decode cX9_isPerch 15 = .ok (.ireturn, 1) := by decide +kernel
theorem dX9_isFolk_0 : decode cX9_isFolk 0 = .ok (.iload_n 1, 1) := by decide +kernel
theorem dX9_isFolk_1 : decode cX9_isFolk 1 = .ok (.i2l, 1) := by decide +kernel
theorem dX9_isFolk_2 : decode cX9_isFolk 2 = .ok (.lconst 0, 1) := by decide +kernel
theorem dX9_isFolk_3 : decode cX9_isFolk 3 = .ok (.aload_n 0, 1) := by decide +kernel
theorem dX9_isFolk_4 : decode cX9_isFolk 4 = .ok (.getfield 13, 3) := by decide +kernel
theorem dX9_isFolk_7 : decode cX9_isFolk 7 = .ok (.iconst 1, 1) := by decide +kernel
theorem dX9_isFolk_8 : decode cX9_isFolk 8 = .ok (.iaload, 1) := by decide +kernel
theorem dX9_isFolk_9 : decode cX9_isFolk 9 = .ok (.i2l, 1) := by decide +kernel
theorem dX9_isFolk_10 : decode cX9_isFolk 10 = .ok (.lconst 1, 1) := by decide +kernel
theorem dX9_isFolk_11 : decode cX9_isFolk 11 = .ok (.lsub, 1) := by decide +kernel
theorem dX9_isFolk_12 : decode cX9_isFolk 12 = .ok (.invokestatic 181, 3) := by decide +kernel
theorem dX9_isFolk_15 : decode cX9_isFolk 15 = .ok (.ireturn, 1) := by decide +kernel
theorem dX9_isBadger_0 : decode cX9_isBadger 0 = .ok (.iload_n 1, 1) := by decide +kernel
theorem dX9_isBadger_1 : decode cX9_isBadger 1 = .ok (.i2l, 1) := by decide +kernel
theorem dX9_isBadger_2 : decode cX9_isBadger 2 = .ok (.lconst 0, 1) := by decide +kernel
theorem dX9_isBadger_3 : decode cX9_isBadger 3 = .ok (.aload_n 0, 1) := by decide +kernel
theorem dX9_isBadger_4 : decode cX9_isBadger 4 = .ok (.getfield 13, 3) := by decide +kernel
theorem dX9_isBadger_7 : decode cX9_isBadger 7 = .ok (.iconst 2, 1) := by decide +kernel
theorem dX9_isBadger_8 : decode cX9_isBadger 8 = .ok (.iaload, 1) := by decide +kernel
theorem dX9_isBadger_9 : decode cX9_isBadger 9 = .ok (.i2l, 1) := by decide +kernel
theorem dX9_isBadger_10 : decode cX9_isBadger 10 = .ok (.lconst 1, 1) := by decide +kernel
theorem dX9_isBadger_11 : decode cX9_isBadger 11 = .ok (.lsub, 1) := by decide +kernel
theorem dX9_isBadger_12 : decode cX9_isBadger 12 = .ok (.invokestatic 181, 3) := by decide +kernel
theorem dX9_isBadger_15 : decode cX9_isBadger 15 = .ok (.ireturn, 1) := by decide +kernel
theorem dX9_isThing_0 : decode cX9_isThing 0 = .ok (.iload_n 1, 1) := by decide +kernel
theorem dX9_isThing_1 : decode cX9_isThing 1 = .ok (.i2l, 1) := by decide +kernel
theorem dX9_isThing_2 : decode cX9_isThing 2 = .ok (.lconst 0, 1) := by decide +kernel
theorem dX9_isThing_3 : decode cX9_isThing 3 = .ok (.aload_n 0, 1) := by decide +kernel
theorem dX9_isThing_4 : decode cX9_isThing 4 = .ok (.getfield 13, 3) := by decide +kernel
theorem dX9_isThing_7 : decode cX9_isThing 7 = .ok (.iconst 3, 1) := by decide +kernel
theorem dX9_isThing_8 : decode cX9_isThing 8 = .ok (.iaload, 1) := by decide +kernel
theorem dX9_isThing_9 : decode cX9_isThing 9 = .ok (.i2l, 1) := by decide +kernel
theorem dX9_isThing_10 : decode cX9_isThing 10 = .ok (.lconst 1, 1) := by decide +kernel
theorem dX9_isThing_11 : decode cX9_isThing 11 = .ok (.lsub, 1) := by decide +kernel
theorem dX9_isThing_12 : decode cX9_isThing 12 = .ok (.invokestatic 181, 3) := by decide +kernel
theorem dX9_isThing_15 : decode cX9_isThing 15 = .ok (.ireturn, 1) := by decide +kernel
theorem dX9_isRoom_0 : decode cX9_isRoom 0 = .ok (.lload_n 0, 1) := by decide +kernel
theorem dX9_isRoom_1 : decode cX9_isRoom 1 = .ok (.lconst 0, 1) := by decide +kernel
theorem dX9_isRoom_2 : decode cX9_isRoom 2 = .ok (.ldc2_w 188, 3) := by decide +kernel
theorem dX9_isRoom_5 : decode cX9_isRoom 5 = .ok (.invokestatic 181, 3) := by decide +kernel
theorem dX9_isRoom_8 : decode cX9_isRoom 8 = .ok (.ireturn, 1) := by decide +kernel
theorem dX9_longOf_0 : decode cX9_longOf 0 = .ok (.aload_n 0, 1) := by decide +kernel
theorem dX9_longOf_1 : decode cX9_longOf 1 = .ok (.getfield 13, 3) := by decide +kernel
theorem dX9_longOf_4 : decode cX9_longOf 4 = .ok (.bipush 50, 2) := by decide +kernel
theorem dX9_longOf_6 : decode cX9_longOf 6 = .ok (.bipush 10, 2) := by decide +kernel
theorem dX9_longOf_8 : decode cX9_longOf 8 = .ok (.iload_n 1, 1) := by decide +kernel
theorem dX9_longOf_9 : decode cX9_longOf 9 = .ok (.imul, 1) := by decide +kernel
theorem dX9_longOf_10 : decode cX9_longOf 10 = .ok (.iadd, 1) := by decide +kernel
theorem dX9_longOf_11 : decode cX9_longOf 11 = .ok (.iload_n 2, 1) := by decide +kernel
theorem dX9_longOf_12 : decode cX9_longOf 12 = .ok (.iadd, 1) := by decide +kernel
theorem dX9_longOf_13 : decode cX9_longOf 13 = .ok (.iaload, 1) := by decide +kernel
theorem dX9_longOf_14 : decode cX9_longOf 14 = .ok (.ireturn, 1) := by decide +kernel
theorem dX9_perch_0 : decode cX9_perch 0 = .ok (.aload_n 0, 1) := by decide +kernel
theorem dX9_perch_1 : decode cX9_perch 1 = .ok (.iconst 0, 1) := by decide +kernel
theorem dX9_perch_2 : decode cX9_perch 2 = .ok (.putfield 161, 3) := by decide +kernel
theorem dX9_perch_5 : decode cX9_perch 5 = .ok (.iload_n 1, 1) := by decide +kernel
theorem dX9_perch_6 : decode cX9_perch 6 = .ok (.i2l, 1) := by decide +kernel
theorem dX9_perch_7 : decode cX9_perch 7 = .ok (.invokestatic 190, 3) := by decide +kernel
theorem dX9_perch_10 : decode cX9_perch 10 = .ok (.ifCond .eq 15, 3) := by decide +kernel
theorem dX9_perch_13 : decode cX9_perch 13 = .ok (.iload_n 2, 1) := by decide +kernel
theorem dX9_perch_14 : decode cX9_perch 14 = .ok (.i2l, 1) := by decide +kernel
theorem dX9_perch_15 : decode cX9_perch 15 = .ok (.lconst 0, 1) := by decide +kernel
theorem dX9_perch_16 : decode cX9_perch 16 = .ok (.ldc2_w 194, 3) := by decide +kernel
theorem dX9_perch_19 : decode cX9_perch 19 = .ok (.invokestatic 181, 3) := by decide +kernel
theorem dX9_perch_22 : decode cX9_perch 22 = .ok (.ifCond .ne 9, 3) := by decide +kernel
theorem dX9_perch_25 : decode cX9_perch 25 = .ok (.aload_n 0, 1) := by decide +kernel
theorem dX9_perch_26 : decode cX9_perch 26 = .ok (.iconst (-1), 1) := by decide +kernel
theorem dX9_perch_27 : decode cX9_perch 27 = .ok (.invokevirtual 170, 3) := by decide +kernel
theorem dX9_perch_30 : decode cX9_perch 30 = .ok (.ireturn, 1) := by decide +kernel
theorem dX9_perch_31 : decode cX9_perch 31 = .ok (.aload_n 0, 1) := by decide +kernel
theorem dX9_perch_32 : decode cX9_perch 32 = .ok (.getfield 13, 3) := by decide +kernel
theorem dX9_perch_35 : decode cX9_perch 35 = .ok (.iconst 0, 1) := by decide +kernel
theorem dX9_perch_36 : decode cX9_perch 36 = .ok (.iaload, 1) := by decide +kernel
theorem dX9_perch_37 : decode cX9_perch 37 = .ok (.istore_n 3, 1) := by decide +kernel
theorem dX9_perch_38 : decode cX9_perch 38 = .ok (.iload_n 3, 1) := by decide +kernel
theorem dX9_perch_39 : decode cX9_perch 39 = .ok (.bipush 10, 2) := by decide +kernel
theorem dX9_perch_41 : decode cX9_perch 41 = .ok (.if_icmp .ne 10, 3) := by decide +kernel
theorem dX9_perch_44 : decode cX9_perch 44 = .ok (.aload_n 0, 1) := by decide +kernel
theorem dX9_perch_45 : decode cX9_perch 45 = .ok (.bipush (-5), 2) := by decide +kernel
theorem dX9_perch_47 : decode cX9_perch 47 = .ok (.invokevirtual 170, 3) := by decide +kernel
theorem dX9_perch_50 : decode cX9_perch 50 = .ok (.ireturn, 1) := by decide +kernel
theorem dX9_perch_51 : decode cX9_perch 51 = .ok (.aload_n 0, 1) := by decide +kernel
theorem dX9_perch_52 : decode cX9_perch 52 = .ok (.getfield 13, 3) := by decide +kernel
theorem dX9_perch_55 : decode cX9_perch 55 = .ok (.bipush 30, 2) := by decide +kernel
theorem dX9_perch_57 : decode cX9_perch 57 = .ok (.iload_n 3, 1) := by decide +kernel
theorem dX9_perch_58 : decode cX9_perch 58 = .ok (.iadd, 1) := by decide +kernel
theorem dX9_perch_59 : decode cX9_perch 59 = .ok (.iload_n 1, 1) := by decide +kernel
theorem dX9_perch_60 : decode cX9_perch 60 = .ok (.iastore, 1) := by decide +kernel
theorem dX9_perch_61 : decode cX9_perch 61 = .ok (.aload_n 0, 1) := by decide +kernel
theorem dX9_perch_62 : decode cX9_perch 62 = .ok (.getfield 13, 3) := by decide +kernel
theorem dX9_perch_65 : decode cX9_perch 65 = .ok (.bipush 40, 2) := by decide +kernel
theorem dX9_perch_67 : decode cX9_perch 67 = .ok (.iload_n 3, 1) := by decide +kernel
theorem dX9_perch_68 : decode cX9_perch 68 = .ok (.iadd, 1) := by decide +kernel
theorem dX9_perch_69 : decode cX9_perch 69 = .ok (.iload_n 2, 1) := by decide +kernel
theorem dX9_perch_70 : decode cX9_perch 70 = .ok (.iastore, 1) := by decide +kernel
theorem dX9_perch_71 : decode cX9_perch 71 = .ok (.aload_n 0, 1) := by decide +kernel
theorem dX9_perch_72 : decode cX9_perch 72 = .ok (.getfield 13, 3) := by decide +kernel
theorem dX9_perch_75 : decode cX9_perch 75 = .ok (.iconst 0, 1) := by decide +kernel
theorem dX9_perch_76 : decode cX9_perch 76 = .ok (.dup2, 1) := by decide +kernel
theorem dX9_perch_77 : decode cX9_perch 77 = .ok (.iaload, 1) := by decide +kernel
theorem dX9_perch_78 : decode cX9_perch 78 = .ok (.iconst 1, 1) := by decide +kernel
theorem dX9_perch_79 : decode cX9_perch 79 = .ok (.iadd, 1) := by decide +kernel
theorem dX9_perch_80 : decode cX9_perch 80 = .ok (.iastore, 1) := by decide +kernel
theorem dX9_perch_81 : decode cX9_perch 81 = .ok (.aload_n 0, 1) := by decide +kernel
theorem dX9_perch_82 : decode cX9_perch 82 = .ok (.iload_n 3, 1) := by decide +kernel
theorem dX9_perch_83 : decode cX9_perch 83 = .ok (.invokevirtual 185, 3) := by decide +kernel
theorem dX9_perch_86 : decode cX9_perch 86 = .ok (.ireturn, 1) := by decide +kernel
theorem dX9_at_0 : decode cX9_at 0 = .ok (.aload_n 0, 1) := by decide +kernel
theorem dX9_at_1 : decode cX9_at 1 = .ok (.iconst 0, 1) := by decide +kernel
theorem dX9_at_2 : decode cX9_at 2 = .ok (.putfield 161, 3) := by decide +kernel
theorem dX9_at_5 : decode cX9_at 5 = .ok (.aload_n 0, 1) := by decide +kernel
theorem dX9_at_6 : decode cX9_at 6 = .ok (.iload_n 1, 1) := by decide +kernel
theorem dX9_at_7 : decode cX9_at 7 = .ok (.invokevirtual 196, 3) := by decide +kernel
theorem dX9_at_10 : decode cX9_at 10 = .ok (.ifCond .ne 5, 3) := by decide +kernel
theorem dX9_at_13 : decode cX9_at 13 = .ok (.iconst (-1), 1) := by decide +kernel
theorem dX9_at_14 : decode cX9_at 14 = .ok (.ireturn, 1) := by decide +kernel
theorem dX9_at_15 : decode cX9_at 15 = .ok (.iload_n 2, 1) := by decide +kernel
theorem dX9_at_16 : decode cX9_at 16 = .ok (.tableswitch 62 0 2 #[28, 38, 48], 28) := by decide +kernel
theorem dX9_at_44 : decode cX9_at 44 = .ok (.aload_n 0, 1) := by decide +kernel
theorem dX9_at_45 : decode cX9_at 45 = .ok (.getfield 13, 3) := by decide +kernel
theorem dX9_at_48 : decode cX9_at 48 = .ok (.bipush 30, 2) := by decide +kernel
theorem dX9_at_50 : decode cX9_at 50 = .ok (.iload_n 1, 1) := by decide +kernel
theorem dX9_at_51 : decode cX9_at 51 = .ok (.iadd, 1) := by decide +kernel
theorem dX9_at_52 : decode cX9_at 52 = .ok (.iaload, 1) := by decide +kernel
theorem dX9_at_53 : decode cX9_at 53 = .ok (.ireturn, 1) := by decide +kernel
theorem dX9_at_54 : decode cX9_at 54 = .ok (.aload_n 0, 1) := by decide +kernel
theorem dX9_at_55 : decode cX9_at 55 = .ok (.getfield 13, 3) := by decide +kernel
theorem dX9_at_58 : decode cX9_at 58 = .ok (.bipush 40, 2) := by decide +kernel
theorem dX9_at_60 : decode cX9_at 60 = .ok (.iload_n 1, 1) := by decide +kernel
theorem dX9_at_61 : decode cX9_at 61 = .ok (.iadd, 1) := by decide +kernel
theorem dX9_at_62 : decode cX9_at 62 = .ok (.iaload, 1) := by decide +kernel
theorem dX9_at_63 : decode cX9_at 63 = .ok (.ireturn, 1) := by decide +kernel
theorem dX9_at_64 : decode cX9_at 64 = .ok (.aload_n 0, 1) := by decide +kernel
theorem dX9_at_65 : decode cX9_at 65 = .ok (.iload_n 1, 1) := by decide +kernel
theorem dX9_at_66 : decode cX9_at 66 = .ok (.invokevirtual 200, 3) := by decide +kernel
theorem dX9_at_69 : decode cX9_at 69 = .ok (.ifCond .eq 7, 3) := by decide +kernel
theorem dX9_at_72 : decode cX9_at 72 = .ok (.iconst 1, 1) := by decide +kernel
theorem dX9_at_73 : decode cX9_at 73 = .ok (.goto 4, 3) := by decide +kernel
theorem dX9_at_76 : decode cX9_at 76 = .ok (.iconst 0, 1) := by decide +kernel
theorem dX9_at_77 : decode cX9_at 77 = .ok (.ireturn, 1) := by decide +kernel
theorem dX9_at_78 : decode cX9_at 78 = .ok (.iload_n 2, 1) := by decide +kernel
theorem dX9_at_79 : decode cX9_at 79 = .ok (.i2l, 1) := by decide +kernel
theorem dX9_at_80 : decode cX9_at 80 = .ok (.ldc2_w 203, 3) := by decide +kernel
theorem dX9_at_83 : decode cX9_at 83 = .ok (.lsub, 1) := by decide +kernel
theorem dX9_at_84 : decode cX9_at 84 = .ok (.lconst 0, 1) := by decide +kernel
theorem dX9_at_85 : decode cX9_at 85 = .ok (.aload_n 0, 1) := by decide +kernel
theorem dX9_at_86 : decode cX9_at 86 = .ok (.getfield 13, 3) := by decide +kernel
theorem dX9_at_89 : decode cX9_at 89 = .ok (.iconst 0, 1) := by decide +kernel
theorem dX9_at_90 : decode cX9_at 90 = .ok (.iaload, 1) := by decide +kernel
theorem dX9_at_91 : decode cX9_at 91 = .ok (.i2l, 1) := by decide +kernel
theorem dX9_at_92 : decode cX9_at 92 = .ok (.lconst 1, 1) := by decide +kernel
theorem dX9_at_93 : decode cX9_at 93 = .ok (.lsub, 1) := by decide +kernel
theorem dX9_at_94 : decode cX9_at 94 = .ok (.invokestatic 181, 3) := by decide +kernel
theorem dX9_at_97 : decode cX9_at 97 = .ok (.ifCond .eq 14, 3) := by decide +kernel
theorem dX9_at_100 : decode cX9_at 100 = .ok (.aload_n 0, 1) := by decide +kernel
theorem dX9_at_101 : decode cX9_at 101 = .ok (.iload_n 1, 1) := by decide +kernel
theorem dX9_at_102 : decode cX9_at 102 = .ok (.iload_n 2, 1) := by decide +kernel
theorem dX9_at_103 : decode cX9_at 103 = .ok (.iconst 3, 1) := by decide +kernel
theorem dX9_at_104 : decode cX9_at 104 = .ok (.isub, 1) := by decide +kernel
theorem dX9_at_105 : decode cX9_at 105 = .ok (.invokevirtual 205, 3) := by decide +kernel
theorem dX9_at_108 : decode cX9_at 108 = .ok (.goto 4, 3) := by decide +kernel
theorem dX9_at_111 : decode cX9_at 111 = .ok (.iconst (-1), 1) := by decide +kernel
theorem dX9_at_112 : decode cX9_at 112 = .ok (.ireturn, 1) := by decide +kernel
theorem dX9_folk_0 : decode cX9_folk 0 = .ok (.aload_n 0, 1) := by decide +kernel
theorem dX9_folk_1 : decode cX9_folk 1 = .ok (.iconst 0, 1) := by decide +kernel
theorem dX9_folk_2 : decode cX9_folk 2 = .ok (.putfield 161, 3) := by decide +kernel
theorem dX9_folk_5 : decode cX9_folk 5 = .ok (.iload_n 1, 1) := by decide +kernel
theorem dX9_folk_6 : decode cX9_folk 6 = .ok (.i2l, 1) := by decide +kernel
theorem dX9_folk_7 : decode cX9_folk 7 = .ok (.lconst 1, 1) := by decide +kernel
theorem dX9_folk_8 : decode cX9_folk 8 = .ok (.ldc2_w 194, 3) := by decide +kernel
theorem dX9_folk_11 : decode cX9_folk 11 = .ok (.invokestatic 181, 3) := by decide +kernel
theorem dX9_folk_14 : decode cX9_folk 14 = .ok (.ifCond .ne 9, 3) := by decide +kernel
theorem dX9_folk_17 : decode cX9_folk 17 = .ok (.aload_n 0, 1) := by decide +kernel
theorem dX9_folk_18 : decode cX9_folk 18 = .ok (.iconst (-1), 1) := by decide +kernel
theorem dX9_folk_19 : decode cX9_folk 19 = .ok (.invokevirtual 170, 3) := by decide +kernel
theorem dX9_folk_22 : decode cX9_folk 22 = .ok (.ireturn, 1) := by decide +kernel
theorem dX9_folk_23 : decode cX9_folk 23 = .ok (.aload_n 0, 1) := by decide +kernel
theorem dX9_folk_24 : decode cX9_folk 24 = .ok (.iload_n 2, 1) := by decide +kernel
theorem dX9_folk_25 : decode cX9_folk 25 = .ok (.invokevirtual 196, 3) := by decide +kernel
theorem dX9_folk_28 : decode cX9_folk 28 = .ok (.ifCond .ne 10, 3) := by decide +kernel
theorem dX9_folk_31 : decode cX9_folk 31 = .ok (.aload_n 0, 1) := by decide +kernel
theorem dX9_folk_32 : decode cX9_folk 32 = .ok (.bipush (-2), 2) := by decide +kernel
theorem dX9_folk_34 : decode cX9_folk 34 = .ok (.invokevirtual 170, 3) := by decide +kernel
theorem dX9_folk_37 : decode cX9_folk 37 = .ok (.ireturn, 1) := by decide +kernel
theorem dX9_folk_38 : decode cX9_folk 38 = .ok (.aload_n 0, 1) := by decide +kernel
theorem dX9_folk_39 : decode cX9_folk 39 = .ok (.getfield 13, 3) := by decide +kernel
theorem dX9_folk_42 : decode cX9_folk 42 = .ok (.iconst 1, 1) := by decide +kernel
theorem dX9_folk_43 : decode cX9_folk 43 = .ok (.iaload, 1) := by decide +kernel
theorem dX9_folk_44 : decode cX9_folk 44 = .ok (.istore_n 3, 1) := by decide +kernel
theorem dX9_folk_45 : decode cX9_folk 45 = .ok (.iload_n 3, 1) := by decide +kernel
theorem dX9_folk_46 : decode cX9_folk 46 = .ok (.iconst 4, 1) := by decide +kernel
theorem dX9_folk_47 : decode cX9_folk 47 = .ok (.if_icmp .ne 10, 3) := by decide +kernel
theorem dX9_folk_50 : decode cX9_folk 50 = .ok (.aload_n 0, 1) := by decide +kernel
theorem dX9_folk_51 : decode cX9_folk 51 = .ok (.bipush (-5), 2) := by decide +kernel
theorem dX9_folk_53 : decode cX9_folk 53 = .ok (.invokevirtual 170, 3) := by decide +kernel
theorem dX9_folk_56 : decode cX9_folk 56 = .ok (.ireturn, 1) := by decide +kernel
theorem dX9_folk_57 : decode cX9_folk 57 = .ok (.aload_n 0, 1) := by decide +kernel
theorem dX9_folk_58 : decode cX9_folk 58 = .ok (.getfield 13, 3) := by decide +kernel
theorem dX9_folk_61 : decode cX9_folk 61 = .ok (.sipush 150, 3) := by decide +kernel
theorem dX9_folk_64 : decode cX9_folk 64 = .ok (.iload_n 3, 1) := by decide +kernel
theorem dX9_folk_65 : decode cX9_folk 65 = .ok (.iadd, 1) := by decide +kernel
theorem dX9_folk_66 : decode cX9_folk 66 = .ok (.iload_n 1, 1) := by decide +kernel
theorem dX9_folk_67 : decode cX9_folk 67 = .ok (.iastore, 1) := by decide +kernel
theorem dX9_folk_68 : decode cX9_folk 68 = .ok (.aload_n 0, 1) := by decide +kernel
theorem dX9_folk_69 : decode cX9_folk 69 = .ok (.getfield 13, 3) := by decide +kernel
theorem dX9_folk_72 : decode cX9_folk 72 = .ok (.bipush 17, 2) := by decide +kernel
theorem dX9_folk_74 : decode cX9_folk 74 = .ok (.iload_n 3, 1) := by decide +kernel
theorem dX9_folk_75 : decode cX9_folk 75 = .ok (.iadd, 1) := by decide +kernel
theorem dX9_folk_76 : decode cX9_folk 76 = .ok (.iload_n 2, 1) := by decide +kernel
theorem dX9_folk_77 : decode cX9_folk 77 = .ok (.iastore, 1) := by decide +kernel
theorem dX9_folk_78 : decode cX9_folk 78 = .ok (.aload_n 0, 1) := by decide +kernel
theorem dX9_folk_79 : decode cX9_folk 79 = .ok (.getfield 13, 3) := by decide +kernel
theorem dX9_folk_82 : decode cX9_folk 82 = .ok (.iconst 1, 1) := by decide +kernel
theorem dX9_folk_83 : decode cX9_folk 83 = .ok (.dup2, 1) := by decide +kernel
theorem dX9_folk_84 : decode cX9_folk 84 = .ok (.iaload, 1) := by decide +kernel
theorem dX9_folk_85 : decode cX9_folk 85 = .ok (.iconst 1, 1) := by decide +kernel
theorem dX9_folk_86 : decode cX9_folk 86 = .ok (.iadd, 1) := by decide +kernel
theorem dX9_folk_87 : decode cX9_folk 87 = .ok (.iastore, 1) := by decide +kernel
theorem dX9_folk_88 : decode cX9_folk 88 = .ok (.aload_n 0, 1) := by decide +kernel
theorem dX9_folk_89 : decode cX9_folk 89 = .ok (.iload_n 3, 1) := by decide +kernel
theorem dX9_folk_90 : decode cX9_folk 90 = .ok (.invokevirtual 185, 3) := by decide +kernel
theorem dX9_folk_93 : decode cX9_folk 93 = .ok (.ireturn, 1) := by decide +kernel
theorem dX9_of_0 : decode cX9_of 0 = .ok (.aload_n 0, 1) := by decide +kernel
theorem dX9_of_1 : decode cX9_of 1 = .ok (.iconst 0, 1) := by decide +kernel
theorem dX9_of_2 : decode cX9_of 2 = .ok (.putfield 161, 3) := by decide +kernel
theorem dX9_of_5 : decode cX9_of 5 = .ok (.aload_n 0, 1) := by decide +kernel
theorem dX9_of_6 : decode cX9_of 6 = .ok (.iload_n 1, 1) := by decide +kernel
theorem dX9_of_7 : decode cX9_of 7 = .ok (.invokevirtual 209, 3) := by decide +kernel
theorem dX9_of_10 : decode cX9_of 10 = .ok (.ifCond .eq 13, 3) := by decide +kernel
theorem dX9_of_13 : decode cX9_of 13 = .ok (.iload_n 2, 1) := by decide +kernel
theorem dX9_of_14 : decode cX9_of 14 = .ok (.i2l, 1) := by decide +kernel
theorem dX9_of_15 : decode cX9_of 15 = .ok (.lconst 0, 1) := by decide +kernel
theorem dX9_of_16 : decode cX9_of 16 = .ok (.lconst 1, 1) := by decide +kernel
theorem dX9_of_17 : decode cX9_of 17 = .ok (.invokestatic 181, 3) := by decide +kernel
theorem dX9_of_20 : decode cX9_of 20 = .ok (.ifCond .ne 5, 3) := by decide +kernel
theorem dX9_of_23 : decode cX9_of 23 = .ok (.iconst (-1), 1) := by decide +kernel
theorem dX9_of_24 : decode cX9_of 24 = .ok (.ireturn, 1) := by decide +kernel
theorem dX9_of_25 : decode cX9_of 25 = .ok (.iload_n 2, 1) := by decide +kernel
theorem dX9_of_26 : decode cX9_of 26 = .ok (.ifCond .ne 16, 3) := by decide +kernel
theorem dX9_of_29 : decode cX9_of 29 = .ok (.aload_n 0, 1) := by decide +kernel
theorem dX9_of_30 : decode cX9_of 30 = .ok (.getfield 13, 3) := by decide +kernel
theorem dX9_of_33 : decode cX9_of 33 = .ok (.sipush 150, 3) := by decide +kernel
theorem dX9_of_36 : decode cX9_of 36 = .ok (.iload_n 1, 1) := by decide +kernel
theorem dX9_of_37 : decode cX9_of 37 = .ok (.iadd, 1) := by decide +kernel
theorem dX9_of_38 : decode cX9_of 38 = .ok (.iaload, 1) := by decide +kernel
theorem dX9_of_39 : decode cX9_of 39 = .ok (.goto 12, 3) := by decide +kernel
theorem dX9_of_42 : decode cX9_of 42 = .ok (.aload_n 0, 1) := by decide +kernel
theorem dX9_of_43 : decode cX9_of 43 = .ok (.getfield 13, 3) := by decide +kernel
theorem dX9_of_46 : decode cX9_of 46 = .ok (.bipush 17, 2) := by decide +kernel
theorem dX9_of_48 : decode cX9_of 48 = .ok (.iload_n 1, 1) := by decide +kernel
theorem dX9_of_49 : decode cX9_of 49 = .ok (.iadd, 1) := by decide +kernel
theorem dX9_of_50 : decode cX9_of 50 = .ok (.iaload, 1) := by decide +kernel
theorem dX9_of_51 : decode cX9_of 51 = .ok (.ireturn, 1) := by decide +kernel
theorem dX9_badger_0 : decode cX9_badger 0 = .ok (.aload_n 0, 1) := by decide +kernel
theorem dX9_badger_1 : decode cX9_badger 1 = .ok (.iconst 0, 1) := by decide +kernel
theorem dX9_badger_2 : decode cX9_badger 2 = .ok (.putfield 161, 3) := by decide +kernel
theorem dX9_badger_5 : decode cX9_badger 5 = .ok (.iload_n 1, 1) := by decide +kernel
theorem dX9_badger_6 : decode cX9_badger 6 = .ok (.i2l, 1) := by decide +kernel
theorem dX9_badger_7 : decode cX9_badger 7 = .ok (.invokestatic 190, 3) := by decide +kernel
theorem dX9_badger_10 : decode cX9_badger 10 = .ok (.ifCond .ne 9, 3) := by decide +kernel
theorem dX9_badger_13 : decode cX9_badger 13 = .ok (.aload_n 0, 1) := by decide +kernel
theorem dX9_badger_14 : decode cX9_badger 14 = .ok (.iconst (-1), 1) := by decide +kernel
theorem dX9_badger_15 : decode cX9_badger 15 = .ok (.invokevirtual 170, 3) := by decide +kernel
theorem dX9_badger_18 : decode cX9_badger 18 = .ok (.ireturn, 1) := by decide +kernel
theorem dX9_badger_19 : decode cX9_badger 19 = .ok (.aload_n 0, 1) := by decide +kernel
theorem dX9_badger_20 : decode cX9_badger 20 = .ok (.getfield 13, 3) := by decide +kernel
theorem dX9_badger_23 : decode cX9_badger 23 = .ok (.iconst 2, 1) := by decide +kernel
theorem dX9_badger_24 : decode cX9_badger 24 = .ok (.iaload, 1) := by decide +kernel
theorem dX9_badger_25 : decode cX9_badger 25 = .ok (.istore_n 2, 1) := by decide +kernel
theorem dX9_badger_26 : decode cX9_badger 26 = .ok (.iload_n 2, 1) := by decide +kernel
theorem dX9_badger_27 : decode cX9_badger 27 = .ok (.iconst 3, 1) := by decide +kernel
theorem dX9_badger_28 : decode cX9_badger 28 = .ok (.if_icmp .ne 10, 3) := by decide +kernel
theorem dX9_badger_31 : decode cX9_badger 31 = .ok (.aload_n 0, 1) := by decide +kernel
theorem dX9_badger_32 : decode cX9_badger 32 = .ok (.bipush (-5), 2) := by decide +kernel
theorem dX9_badger_34 : decode cX9_badger 34 = .ok (.invokevirtual 170, 3) := by decide +kernel
theorem dX9_badger_37 : decode cX9_badger 37 = .ok (.ireturn, 1) := by decide +kernel
theorem dX9_badger_38 : decode cX9_badger 38 = .ok (.aload_n 0, 1) := by decide +kernel
theorem dX9_badger_39 : decode cX9_badger 39 = .ok (.getfield 13, 3) := by decide +kernel
theorem dX9_badger_42 : decode cX9_badger 42 = .ok (.bipush 21, 2) := by decide +kernel
theorem dX9_badger_44 : decode cX9_badger 44 = .ok (.iload_n 2, 1) := by decide +kernel
theorem dX9_badger_45 : decode cX9_badger 45 = .ok (.iadd, 1) := by decide +kernel
theorem dX9_badger_46 : decode cX9_badger 46 = .ok (.iload_n 1, 1) := by decide +kernel
theorem dX9_badger_47 : decode cX9_badger 47 = .ok (.iastore, 1) := by decide +kernel
theorem dX9_badger_48 : decode cX9_badger 48 = .ok (.aload_n 0, 1) := by decide +kernel
theorem dX9_badger_49 : decode cX9_badger 49 = .ok (.getfield 13, 3) := by decide +kernel
theorem dX9_badger_52 : decode cX9_badger 52 = .ok (.iconst 2, 1) := by decide +kernel
theorem dX9_badger_53 : decode cX9_badger 53 = .ok (.dup2, 1) := by decide +kernel
theorem dX9_badger_54 : decode cX9_badger 54 = .ok (.iaload, 1) := by decide +kernel
theorem dX9_badger_55 : decode cX9_badger 55 = .ok (.iconst 1, 1) := by decide +kernel
theorem dX9_badger_56 : decode cX9_badger 56 = .ok (.iadd, 1) := by decide +kernel
theorem dX9_badger_57 : decode cX9_badger 57 = .ok (.iastore, 1) := by decide +kernel
theorem dX9_badger_58 : decode cX9_badger 58 = .ok (.aload_n 0, 1) := by decide +kernel
theorem dX9_badger_59 : decode cX9_badger 59 = .ok (.iload_n 2, 1) := by decide +kernel
theorem dX9_badger_60 : decode cX9_badger 60 = .ok (.invokevirtual 185, 3) := by decide +kernel
theorem dX9_badger_63 : decode cX9_badger 63 = .ok (.ireturn, 1) := by decide +kernel
theorem dX9_sow_0 : decode cX9_sow 0 = .ok (.aload_n 0, 1) := by decide +kernel
theorem dX9_sow_1 : decode cX9_sow 1 = .ok (.iconst 0, 1) := by decide +kernel
theorem dX9_sow_2 : decode cX9_sow 2 = .ok (.putfield 161, 3) := by decide +kernel
theorem dX9_sow_5 : decode cX9_sow 5 = .ok (.aload_n 0, 1) := by decide +kernel
theorem dX9_sow_6 : decode cX9_sow 6 = .ok (.iload_n 1, 1) := by decide +kernel
theorem dX9_sow_7 : decode cX9_sow 7 = .ok (.invokevirtual 212, 3) := by decide +kernel
theorem dX9_sow_10 : decode cX9_sow 10 = .ok (.ifCond .eq 13, 3) := by decide +kernel
theorem dX9_sow_13 : decode cX9_sow 13 = .ok (.iload_n 2, 1) := by decide +kernel
theorem dX9_sow_14 : decode cX9_sow 14 = .ok (.i2l, 1) := by decide +kernel
theorem dX9_sow_15 : decode cX9_sow 15 = .ok (.lconst 0, 1) := by decide +kernel
theorem dX9_sow_16 : decode cX9_sow 16 = .ok (.lconst 1, 1) := by decide +kernel
theorem dX9_sow_17 : decode cX9_sow 17 = .ok (.invokestatic 181, 3) := by decide +kernel
theorem dX9_sow_20 : decode cX9_sow 20 = .ok (.ifCond .ne 5, 3) := by decide +kernel
theorem dX9_sow_23 : decode cX9_sow 23 = .ok (.iconst (-1), 1) := by decide +kernel
theorem dX9_sow_24 : decode cX9_sow 24 = .ok (.ireturn, 1) := by decide +kernel
theorem dX9_sow_25 : decode cX9_sow 25 = .ok (.iload_n 2, 1) := by decide +kernel
theorem dX9_sow_26 : decode cX9_sow 26 = .ok (.ifCond .ne 15, 3) := by decide +kernel
theorem dX9_sow_29 : decode cX9_sow 29 = .ok (.aload_n 0, 1) := by decide +kernel
theorem dX9_sow_30 : decode cX9_sow 30 = .ok (.getfield 13, 3) := by decide +kernel
theorem dX9_sow_33 : decode cX9_sow 33 = .ok (.bipush 21, 2) := by decide +kernel
theorem dX9_sow_35 : decode cX9_sow 35 = .ok (.iload_n 1, 1) := by decide +kernel
theorem dX9_sow_36 : decode cX9_sow 36 = .ok (.iadd, 1) := by decide +kernel
theorem dX9_sow_37 : decode cX9_sow 37 = .ok (.iaload, 1) := by decide +kernel
theorem dX9_sow_38 : decode cX9_sow 38 = .ok (.goto 8, 3) := by decide +kernel
theorem dX9_sow_41 : decode cX9_sow 41 = .ok (.aload_n 0, 1) := by decide +kernel
theorem dX9_sow_42 : decode cX9_sow 42 = .ok (.iload_n 1, 1) := by decide +kernel
theorem dX9_sow_43 : decode cX9_sow 43 = .ok (.invokevirtual 215, 3) := by decide +kernel
theorem dX9_sow_46 : decode cX9_sow 46 = .ok (.ireturn, 1) := by decide +kernel
theorem dX9_thing_0 : decode cX9_thing 0 = .ok (.aload_n 0, 1) := by decide +kernel
theorem dX9_thing_1 : decode cX9_thing 1 = .ok (.iconst 0, 1) := by decide +kernel
theorem dX9_thing_2 : decode cX9_thing 2 = .ok (.putfield 161, 3) := by decide +kernel
theorem dX9_thing_5 : decode cX9_thing 5 = .ok (.iload_n 2, 1) := by decide +kernel
theorem dX9_thing_6 : decode cX9_thing 6 = .ok (.i2l, 1) := by decide +kernel
theorem dX9_thing_7 : decode cX9_thing 7 = .ok (.lconst 0, 1) := by decide +kernel
theorem dX9_thing_8 : decode cX9_thing 8 = .ok (.ldc2_w 194, 3) := by decide +kernel
theorem dX9_thing_11 : decode cX9_thing 11 = .ok (.invokestatic 181, 3) := by decide +kernel
theorem dX9_thing_14 : decode cX9_thing 14 = .ok (.ifCond .eq 15, 3) := by decide +kernel
theorem dX9_thing_17 : decode cX9_thing 17 = .ok (.iload_n 3, 1) := by decide +kernel
theorem dX9_thing_18 : decode cX9_thing 18 = .ok (.i2l, 1) := by decide +kernel
theorem dX9_thing_19 : decode cX9_thing 19 = .ok (.lconst 0, 1) := by decide +kernel
theorem dX9_thing_20 : decode cX9_thing 20 = .ok (.ldc2_w 194, 3) := by decide +kernel
theorem dX9_thing_23 : decode cX9_thing 23 = .ok (.invokestatic 181, 3) := by decide +kernel
theorem dX9_thing_26 : decode cX9_thing 26 = .ok (.ifCond .ne 9, 3) := by decide +kernel
theorem dX9_thing_29 : decode cX9_thing 29 = .ok (.aload_n 0, 1) := by decide +kernel
theorem dX9_thing_30 : decode cX9_thing 30 = .ok (.iconst (-1), 1) := by decide +kernel
theorem dX9_thing_31 : decode cX9_thing 31 = .ok (.invokevirtual 170, 3) := by decide +kernel
theorem dX9_thing_34 : decode cX9_thing 34 = .ok (.ireturn, 1) := by decide +kernel
theorem dX9_thing_35 : decode cX9_thing 35 = .ok (.aload_n 0, 1) := by decide +kernel
theorem dX9_thing_36 : decode cX9_thing 36 = .ok (.iload_n 1, 1) := by decide +kernel
theorem dX9_thing_37 : decode cX9_thing 37 = .ok (.invokevirtual 196, 3) := by decide +kernel
theorem dX9_thing_40 : decode cX9_thing 40 = .ok (.ifCond .ne 10, 3) := by decide +kernel
theorem dX9_thing_43 : decode cX9_thing 43 = .ok (.aload_n 0, 1) := by decide +kernel
theorem dX9_thing_44 : decode cX9_thing 44 = .ok (.bipush (-2), 2) := by decide +kernel
theorem dX9_thing_46 : decode cX9_thing 46 = .ok (.invokevirtual 170, 3) := by decide +kernel
theorem dX9_thing_49 : decode cX9_thing 49 = .ok (.ireturn, 1) := by decide +kernel
theorem dX9_thing_50 : decode cX9_thing 50 = .ok (.aload_n 0, 1) := by decide +kernel
theorem dX9_thing_51 : decode cX9_thing 51 = .ok (.getfield 13, 3) := by decide +kernel
theorem dX9_thing_54 : decode cX9_thing 54 = .ok (.iconst 3, 1) := by decide +kernel
theorem dX9_thing_55 : decode cX9_thing 55 = .ok (.iaload, 1) := by decide +kernel
theorem dX9_thing_56 : decode cX9_thing 56 = .ok (.istore 4, 2) := by decide +kernel
theorem dX9_thing_58 : decode cX9_thing 58 = .ok (.iload 4, 2) := by decide +kernel
theorem dX9_thing_60 : decode cX9_thing 60 = .ok (.bipush 6, 2) := by decide +kernel
theorem dX9_thing_62 : decode cX9_thing 62 = .ok (.if_icmp .ne 10, 3) := by decide +kernel
theorem dX9_thing_65 : decode cX9_thing 65 = .ok (.aload_n 0, 1) := by decide +kernel
theorem dX9_thing_66 : decode cX9_thing 66 = .ok (.bipush (-5), 2) := by decide +kernel
theorem dX9_thing_68 : decode cX9_thing 68 = .ok (.invokevirtual 170, 3) := by decide +kernel
theorem dX9_thing_71 : decode cX9_thing 71 = .ok (.ireturn, 1) := by decide +kernel
theorem dX9_thing_72 : decode cX9_thing 72 = .ok (.aload_n 0, 1) := by decide +kernel
theorem dX9_thing_73 : decode cX9_thing 73 = .ok (.getfield 13, 3) := by decide +kernel
theorem dX9_thing_76 : decode cX9_thing 76 = .ok (.bipush 24, 2) := by decide +kernel
theorem dX9_thing_78 : decode cX9_thing 78 = .ok (.iload 4, 2) := by decide +kernel
theorem dX9_thing_80 : decode cX9_thing 80 = .ok (.iadd, 1) := by decide +kernel
theorem dX9_thing_81 : decode cX9_thing 81 = .ok (.iload_n 1, 1) := by decide +kernel
theorem dX9_thing_82 : decode cX9_thing 82 = .ok (.iastore, 1) := by decide +kernel
theorem dX9_thing_83 : decode cX9_thing 83 = .ok (.aload_n 0, 1) := by decide +kernel
theorem dX9_thing_84 : decode cX9_thing 84 = .ok (.getfield 13, 3) := by decide +kernel
theorem dX9_thing_87 : decode cX9_thing 87 = .ok (.sipush 154, 3) := by decide +kernel
theorem dX9_thing_90 : decode cX9_thing 90 = .ok (.iload 4, 2) := by decide +kernel
theorem dX9_thing_92 : decode cX9_thing 92 = .ok (.iadd, 1) := by decide +kernel
theorem dX9_thing_93 : decode cX9_thing 93 = .ok (.iload_n 2, 1) := by decide +kernel
theorem dX9_thing_94 : decode cX9_thing 94 = .ok (.iastore, 1) := by decide +kernel
theorem dX9_thing_95 : decode cX9_thing 95 = .ok (.aload_n 0, 1) := by decide +kernel
theorem dX9_thing_96 : decode cX9_thing 96 = .ok (.getfield 13, 3) := by decide +kernel
theorem dX9_thing_99 : decode cX9_thing 99 = .ok (.sipush 160, 3) := by decide +kernel
theorem dX9_thing_102 : decode cX9_thing 102 = .ok (.iload 4, 2) := by decide +kernel
theorem dX9_thing_104 : decode cX9_thing 104 = .ok (.iadd, 1) := by decide +kernel
theorem dX9_thing_105 : decode cX9_thing 105 = .ok (.iload_n 3, 1) := by decide +kernel
theorem dX9_thing_106 : decode cX9_thing 106 = .ok (.iastore, 1) := by decide +kernel
theorem dX9_thing_107 : decode cX9_thing 107 = .ok (.aload_n 0, 1) := by decide +kernel
theorem dX9_thing_108 : decode cX9_thing 108 = .ok (.getfield 13, 3) := by decide +kernel
theorem dX9_thing_111 : decode cX9_thing 111 = .ok (.iconst 3, 1) := by decide +kernel
theorem dX9_thing_112 : decode cX9_thing 112 = .ok (.dup2, 1) := by decide +kernel
theorem dX9_thing_113 : decode cX9_thing 113 = .ok (.iaload, 1) := by decide +kernel
theorem dX9_thing_114 : decode cX9_thing 114 = .ok (.iconst 1, 1) := by decide +kernel
theorem dX9_thing_115 : decode cX9_thing 115 = .ok (.iadd, 1) := by decide +kernel
theorem dX9_thing_116 : decode cX9_thing 116 = .ok (.iastore, 1) := by decide +kernel
theorem dX9_thing_117 : decode cX9_thing 117 = .ok (.aload_n 0, 1) := by decide +kernel
theorem dX9_thing_118 : decode cX9_thing 118 = .ok (.iload 4, 2) := by decide +kernel
theorem dX9_thing_120 : decode cX9_thing 120 = .ok (.invokevirtual 185, 3) := by decide +kernel
theorem dX9_thing_123 : decode cX9_thing 123 = .ok (.ireturn, 1) := by decide +kernel
theorem dX9_has_0 : decode cX9_has 0 = .ok (.aload_n 0, 1) := by decide +kernel
theorem dX9_has_1 : decode cX9_has 1 = .ok (.iconst 0, 1) := by decide +kernel
theorem dX9_has_2 : decode cX9_has 2 = .ok (.putfield 161, 3) := by decide +kernel
theorem dX9_has_5 : decode cX9_has 5 = .ok (.aload_n 0, 1) := by decide +kernel
theorem dX9_has_6 : decode cX9_has 6 = .ok (.iload_n 1, 1) := by decide +kernel
theorem dX9_has_7 : decode cX9_has 7 = .ok (.invokevirtual 218, 3) := by decide +kernel
theorem dX9_has_10 : decode cX9_has 10 = .ok (.ifCond .ne 5, 3) := by decide +kernel
theorem dX9_has_13 : decode cX9_has 13 = .ok (.iconst (-1), 1) := by decide +kernel
theorem dX9_has_14 : decode cX9_has 14 = .ok (.ireturn, 1) := by decide +kernel
theorem dX9_has_15 : decode cX9_has 15 = .ok (.iload_n 2, 1) := by decide +kernel
theorem dX9_has_16 : decode cX9_has 16 = .ok (.tableswitch 60 0 2 #[28, 38, 49], 28) := by decide +kernel
theorem dX9_has_44 : decode cX9_has 44 = .ok (.aload_n 0, 1) := by decide +kernel
theorem dX9_has_45 : decode cX9_has 45 = .ok (.getfield 13, 3) := by decide +kernel
theorem dX9_has_48 : decode cX9_has 48 = .ok (.bipush 24, 2) := by decide +kernel
theorem dX9_has_50 : decode cX9_has 50 = .ok (.iload_n 1, 1) := by decide +kernel
theorem dX9_has_51 : decode cX9_has 51 = .ok (.iadd, 1) := by decide +kernel
theorem dX9_has_52 : decode cX9_has 52 = .ok (.iaload, 1) := by decide +kernel
theorem dX9_has_53 : decode cX9_has 53 = .ok (.ireturn, 1) := by decide +kernel
theorem dX9_has_54 : decode cX9_has 54 = .ok (.aload_n 0, 1) := by decide +kernel
theorem dX9_has_55 : decode cX9_has 55 = .ok (.getfield 13, 3) := by decide +kernel
theorem dX9_has_58 : decode cX9_has 58 = .ok (.sipush 154, 3) := by decide +kernel
theorem dX9_has_61 : decode cX9_has 61 = .ok (.iload_n 1, 1) := by decide +kernel
theorem dX9_has_62 : decode cX9_has 62 = .ok (.iadd, 1) := by decide +kernel
theorem dX9_has_63 : decode cX9_has 63 = .ok (.iaload, 1) := by decide +kernel
theorem dX9_has_64 : decode cX9_has 64 = .ok (.ireturn, 1) := by decide +kernel
theorem dX9_has_65 : decode cX9_has 65 = .ok (.aload_n 0, 1) := by decide +kernel
theorem dX9_has_66 : decode cX9_has 66 = .ok (.getfield 13, 3) := by decide +kernel
theorem dX9_has_69 : decode cX9_has 69 = .ok (.sipush 160, 3) := by decide +kernel
theorem dX9_has_72 : decode cX9_has 72 = .ok (.iload_n 1, 1) := by decide +kernel
theorem dX9_has_73 : decode cX9_has 73 = .ok (.iadd, 1) := by decide +kernel
theorem dX9_has_74 : decode cX9_has 74 = .ok (.iaload, 1) := by decide +kernel
theorem dX9_has_75 : decode cX9_has 75 = .ok (.ireturn, 1) := by decide +kernel
theorem dX9_has_76 : decode cX9_has 76 = .ok (.iconst (-1), 1) := by decide +kernel
theorem dX9_has_77 : decode cX9_has 77 = .ok (.ireturn, 1) := by decide +kernel
theorem dX9_setLink_0 : decode cX9_setLink 0 = .ok (.aload_n 0, 1) := by decide +kernel
theorem dX9_setLink_1 : decode cX9_setLink 1 = .ok (.getfield 13, 3) := by decide +kernel
theorem dX9_setLink_4 : decode cX9_setLink 4 = .ok (.bipush 50, 2) := by decide +kernel
theorem dX9_setLink_6 : decode cX9_setLink 6 = .ok (.bipush 10, 2) := by decide +kernel
theorem dX9_setLink_8 : decode cX9_setLink 8 = .ok (.iload_n 1, 1) := by decide +kernel
theorem dX9_setLink_9 : decode cX9_setLink 9 = .ok (.imul, 1) := by decide +kernel
theorem dX9_setLink_10 : decode cX9_setLink 10 = .ok (.iadd, 1) := by decide +kernel
theorem dX9_setLink_11 : decode cX9_setLink 11 = .ok (.iload_n 2, 1) := by decide +kernel
theorem dX9_setLink_12 : decode cX9_setLink 12 = .ok (.iadd, 1) := by decide +kernel
theorem dX9_setLink_13 : decode cX9_setLink 13 = .ok (.iload_n 3, 1) := by decide +kernel
theorem dX9_setLink_14 : decode cX9_setLink 14 = .ok (.iastore, 1) := by decide +kernel
theorem dX9_setLink_15 : decode cX9_setLink 15 = .ok (.aload_n 0, 1) := by decide +kernel
theorem dX9_setLink_16 : decode cX9_setLink 16 = .ok (.getfield 13, 3) := by decide +kernel
theorem dX9_setLink_19 : decode cX9_setLink 19 = .ok (.bipush 50, 2) := by decide +kernel
theorem dX9_setLink_21 : decode cX9_setLink 21 = .ok (.bipush 10, 2) := by decide +kernel
theorem dX9_setLink_23 : decode cX9_setLink 23 = .ok (.iload_n 2, 1) := by decide +kernel
theorem dX9_setLink_24 : decode cX9_setLink 24 = .ok (.imul, 1) := by decide +kernel
theorem dX9_setLink_25 : decode cX9_setLink 25 = .ok (.iadd, 1) := by decide +kernel
theorem dX9_setLink_26 : decode cX9_setLink 26 = .ok (.iload_n 1, 1) := by decide +kernel
theorem dX9_setLink_27 : decode cX9_setLink 27 = .ok (.iadd, 1) := by decide +kernel
theorem dX9_setLink_28 : decode cX9_setLink 28 = .ok (.iload_n 3, 1) := by decide +kernel
theorem dX9_setLink_29 : decode cX9_setLink 29 = .ok (.iastore, 1) := by decide +kernel
theorem dX9_setLink_30 : decode cX9_setLink 30 = .ok (.return_, 1) := by decide +kernel
theorem dX9_link_0 : decode cX9_link 0 = .ok (.aload_n 0, 1) := by decide +kernel
theorem dX9_link_1 : decode cX9_link 1 = .ok (.iconst 0, 1) := by decide +kernel
theorem dX9_link_2 : decode cX9_link 2 = .ok (.putfield 161, 3) := by decide +kernel
theorem dX9_link_5 : decode cX9_link 5 = .ok (.iload_n 1, 1) := by decide +kernel
theorem dX9_link_6 : decode cX9_link 6 = .ok (.iload_n 2, 1) := by decide +kernel
theorem dX9_link_7 : decode cX9_link 7 = .ok (.if_icmp .eq 15, 3) := by decide +kernel
theorem dX9_link_10 : decode cX9_link 10 = .ok (.iload_n 3, 1) := by decide +kernel
theorem dX9_link_11 : decode cX9_link 11 = .ok (.i2l, 1) := by decide +kernel
theorem dX9_link_12 : decode cX9_link 12 = .ok (.lconst 0, 1) := by decide +kernel
theorem dX9_link_13 : decode cX9_link 13 = .ok (.ldc2_w 194, 3) := by decide +kernel
theorem dX9_link_16 : decode cX9_link 16 = .ok (.invokestatic 181, 3) := by decide +kernel
theorem dX9_link_19 : decode cX9_link 19 = .ok (.ifCond .ne 9, 3) := by decide +kernel
theorem dX9_link_22 : decode cX9_link 22 = .ok (.aload_n 0, 1) := by decide +kernel
theorem dX9_link_23 : decode cX9_link 23 = .ok (.iconst (-1), 1) := by decide +kernel
theorem dX9_link_24 : decode cX9_link 24 = .ok (.invokevirtual 170, 3) := by decide +kernel
theorem dX9_link_27 : decode cX9_link 27 = .ok (.ireturn, 1) := by decide +kernel
theorem dX9_link_28 : decode cX9_link 28 = .ok (.aload_n 0, 1) := by decide +kernel
theorem dX9_link_29 : decode cX9_link 29 = .ok (.iload_n 1, 1) := by decide +kernel
theorem dX9_link_30 : decode cX9_link 30 = .ok (.invokevirtual 196, 3) := by decide +kernel
theorem dX9_link_33 : decode cX9_link 33 = .ok (.ifCond .eq 11, 3) := by decide +kernel
theorem dX9_link_36 : decode cX9_link 36 = .ok (.aload_n 0, 1) := by decide +kernel
theorem dX9_link_37 : decode cX9_link 37 = .ok (.iload_n 2, 1) := by decide +kernel
theorem dX9_link_38 : decode cX9_link 38 = .ok (.invokevirtual 196, 3) := by decide +kernel
theorem dX9_link_41 : decode cX9_link 41 = .ok (.ifCond .ne 10, 3) := by decide +kernel
theorem dX9_link_44 : decode cX9_link 44 = .ok (.aload_n 0, 1) := by decide +kernel
theorem dX9_link_45 : decode cX9_link 45 = .ok (.bipush (-2), 2) := by decide +kernel
theorem dX9_link_47 : decode cX9_link 47 = .ok (.invokevirtual 170, 3) := by decide +kernel
theorem dX9_link_50 : decode cX9_link 50 = .ok (.ireturn, 1) := by decide +kernel
theorem dX9_link_51 : decode cX9_link 51 = .ok (.aload_n 0, 1) := by decide +kernel
theorem dX9_link_52 : decode cX9_link 52 = .ok (.iload_n 1, 1) := by decide +kernel
theorem dX9_link_53 : decode cX9_link 53 = .ok (.iload_n 2, 1) := by decide +kernel
theorem dX9_link_54 : decode cX9_link 54 = .ok (.invokevirtual 205, 3) := by decide +kernel
theorem dX9_link_57 : decode cX9_link 57 = .ok (.istore 4, 2) := by decide +kernel
theorem dX9_link_59 : decode cX9_link 59 = .ok (.aload_n 0, 1) := by decide +kernel
theorem dX9_link_60 : decode cX9_link 60 = .ok (.iload_n 1, 1) := by decide +kernel
theorem dX9_link_61 : decode cX9_link 61 = .ok (.iload_n 2, 1) := by decide +kernel
theorem dX9_link_62 : decode cX9_link 62 = .ok (.iload_n 3, 1) := by decide +kernel
theorem dX9_link_63 : decode cX9_link 63 = .ok (.invokevirtual 221, 3) := by decide +kernel
theorem dX9_link_66 : decode cX9_link 66 = .ok (.aload_n 0, 1) := by decide +kernel
theorem dX9_link_67 : decode cX9_link 67 = .ok (.iload 4, 2) := by decide +kernel
theorem dX9_link_69 : decode cX9_link 69 = .ok (.invokevirtual 170, 3) := by decide +kernel
theorem dX9_link_72 : decode cX9_link 72 = .ok (.ireturn, 1) := by decide +kernel
theorem dX9_badgersIn_0 : decode cX9_badgersIn 0 = .ok (.iconst 0, 1) := by decide +kernel
theorem dX9_badgersIn_1 : decode cX9_badgersIn 1 = .ok (.istore_n 2, 1) := by decide +kernel
theorem dX9_badgersIn_2 : decode cX9_badgersIn 2 = .ok (.iconst 0, 1) := by decide +kernel
theorem dX9_badgersIn_3 : decode cX9_badgersIn 3 = .ok (.istore_n 3, 1) := by decide +kernel
theorem dX9_badgersIn_4 : decode cX9_badgersIn 4 = .ok (.iload_n 3, 1) := by decide +kernel
theorem dX9_badgersIn_5 : decode cX9_badgersIn 5 = .ok (.aload_n 0, 1) := by decide +kernel
theorem dX9_badgersIn_6 : decode cX9_badgersIn 6 = .ok (.getfield 13, 3) := by decide +kernel
theorem dX9_badgersIn_9 : decode cX9_badgersIn 9 = .ok (.iconst 2, 1) := by decide +kernel
theorem dX9_badgersIn_10 : decode cX9_badgersIn 10 = .ok (.iaload, 1) := by decide +kernel
theorem dX9_badgersIn_11 : decode cX9_badgersIn 11 = .ok (.if_icmp .ge 30, 3) := by decide +kernel
theorem dX9_badgersIn_14 : decode cX9_badgersIn 14 = .ok (.iload_n 2, 1) := by decide +kernel
theorem dX9_badgersIn_15 : decode cX9_badgersIn 15 = .ok (.aload_n 0, 1) := by decide +kernel
theorem dX9_badgersIn_16 : decode cX9_badgersIn 16 = .ok (.getfield 13, 3) := by decide +kernel
theorem dX9_badgersIn_19 : decode cX9_badgersIn 19 = .ok (.bipush 21, 2) := by decide +kernel
theorem dX9_badgersIn_21 : decode cX9_badgersIn 21 = .ok (.iload_n 3, 1) := by decide +kernel
theorem dX9_badgersIn_22 : decode cX9_badgersIn 22 = .ok (.iadd, 1) := by decide +kernel
theorem dX9_badgersIn_23 : decode cX9_badgersIn 23 = .ok (.iaload, 1) := by decide +kernel
theorem dX9_badgersIn_24 : decode cX9_badgersIn 24 = .ok (.iload_n 1, 1) := by decide +kernel
theorem dX9_badgersIn_25 : decode cX9_badgersIn 25 = .ok (.if_icmp .ne 7, 3) := by decide +kernel
theorem dX9_badgersIn_28 : decode cX9_badgersIn 28 = .ok (.iconst 1, 1) := by decide +kernel
theorem dX9_badgersIn_29 : decode cX9_badgersIn 29 = .ok (.goto 4, 3) := by decide +kernel
theorem dX9_badgersIn_32 : decode cX9_badgersIn 32 = .ok (.iconst 0, 1) := by decide +kernel
theorem dX9_badgersIn_33 : decode cX9_badgersIn 33 = .ok (.iadd, 1) := by decide +kernel
theorem dX9_badgersIn_34 : decode cX9_badgersIn 34 = .ok (.istore_n 2, 1) := by decide +kernel
theorem dX9_badgersIn_35 : decode cX9_badgersIn 35 = .ok (.iinc 3 1, 3) := by decide +kernel
theorem dX9_badgersIn_38 : decode cX9_badgersIn 38 = .ok (.goto (-34), 3) := by decide +kernel
theorem dX9_badgersIn_41 : decode cX9_badgersIn 41 = .ok (.iload_n 2, 1) := by decide +kernel
theorem dX9_badgersIn_42 : decode cX9_badgersIn 42 = .ok (.ireturn, 1) := by decide +kernel
theorem dX9_room_0 : decode cX9_room 0 = .ok (.aload_n 0, 1) := by decide +kernel
theorem dX9_room_1 : decode cX9_room 1 = .ok (.iconst 0, 1) := by decide +kernel
theorem dX9_room_2 : decode cX9_room 2 = .ok (.putfield 161, 3) := by decide +kernel
theorem dX9_room_5 : decode cX9_room 5 = .ok (.iload_n 1, 1) := by decide +kernel
theorem dX9_room_6 : decode cX9_room 6 = .ok (.i2l, 1) := by decide +kernel
theorem dX9_room_7 : decode cX9_room 7 = .ok (.invokestatic 190, 3) := by decide +kernel
theorem dX9_room_10 : decode cX9_room 10 = .ok (.ifCond .ne 5, 3) := by decide +kernel
theorem dX9_room_13 : decode cX9_room 13 = .ok (.iconst (-1), 1) := by decide +kernel
theorem dX9_room_14 : decode cX9_room 14 = .ok (.ireturn, 1) := by decide +kernel
theorem dX9_room_15 : decode cX9_room 15 = .ok (.iload_n 2, 1) := by decide +kernel
theorem dX9_room_16 : decode cX9_room 16 = .ok (.tableswitch 50 0 2 #[28, 34, 44], 28) := by decide +kernel
theorem dX9_room_44 : decode cX9_room 44 = .ok (.aload_n 0, 1) := by decide +kernel
theorem dX9_room_45 : decode cX9_room 45 = .ok (.iload_n 1, 1) := by decide +kernel
theorem dX9_room_46 : decode cX9_room 46 = .ok (.invokevirtual 225, 3) := by decide +kernel
theorem dX9_room_49 : decode cX9_room 49 = .ok (.ireturn, 1) := by decide +kernel
theorem dX9_room_50 : decode cX9_room 50 = .ok (.aload_n 0, 1) := by decide +kernel
theorem dX9_room_51 : decode cX9_room 51 = .ok (.getfield 13, 3) := by decide +kernel
theorem dX9_room_54 : decode cX9_room 54 = .ok (.bipush 11, 2) := by decide +kernel
theorem dX9_room_56 : decode cX9_room 56 = .ok (.iload_n 1, 1) := by decide +kernel
theorem dX9_room_57 : decode cX9_room 57 = .ok (.iadd, 1) := by decide +kernel
theorem dX9_room_58 : decode cX9_room 58 = .ok (.iaload, 1) := by decide +kernel
theorem dX9_room_59 : decode cX9_room 59 = .ok (.ireturn, 1) := by decide +kernel
theorem dX9_room_60 : decode cX9_room 60 = .ok (.aload_n 0, 1) := by decide +kernel
theorem dX9_room_61 : decode cX9_room 61 = .ok (.iload_n 1, 1) := by decide +kernel
theorem dX9_room_62 : decode cX9_room 62 = .ok (.invokevirtual 228, 3) := by decide +kernel
theorem dX9_room_65 : decode cX9_room 65 = .ok (.ireturn, 1) := by decide +kernel
theorem dX9_room_66 : decode cX9_room 66 = .ok (.iconst (-1), 1) := by decide +kernel
theorem dX9_room_67 : decode cX9_room 67 = .ok (.ireturn, 1) := by decide +kernel
theorem dX9_can_0 : decode cX9_can 0 = .ok (.aload_n 0, 1) := by decide +kernel
theorem dX9_can_1 : decode cX9_can 1 = .ok (.iconst 0, 1) := by decide +kernel
theorem dX9_can_2 : decode cX9_can 2 = .ok (.putfield 161, 3) := by decide +kernel
theorem dX9_can_5 : decode cX9_can 5 = .ok (.aload_n 0, 1) := by decide +kernel
theorem dX9_can_6 : decode cX9_can 6 = .ok (.iload_n 1, 1) := by decide +kernel
theorem dX9_can_7 : decode cX9_can 7 = .ok (.invokevirtual 209, 3) := by decide +kernel
theorem dX9_can_10 : decode cX9_can 10 = .ok (.ifCond .eq 11, 3) := by decide +kernel
theorem dX9_can_13 : decode cX9_can 13 = .ok (.aload_n 0, 1) := by decide +kernel
theorem dX9_can_14 : decode cX9_can 14 = .ok (.iload_n 2, 1) := by decide +kernel
theorem dX9_can_15 : decode cX9_can 15 = .ok (.invokevirtual 196, 3) := by decide +kernel
theorem dX9_can_18 : decode cX9_can 18 = .ok (.ifCond .ne 7, 3) := by decide +kernel
theorem dX9_can_21 : decode cX9_can 21 = .ok (.iconst (-1), 1) := by decide +kernel
theorem dX9_can_22 : decode cX9_can 22 = .ok (.goto 26, 3) := by decide +kernel
theorem dX9_can_25 : decode cX9_can 25 = .ok (.aload_n 0, 1) := by decide +kernel
theorem dX9_can_26 : decode cX9_can 26 = .ok (.iload_n 1, 1) := by decide +kernel
theorem dX9_can_27 : decode cX9_can 27 = .ok (.aload_n 0, 1) := by decide +kernel
theorem dX9_can_28 : decode cX9_can 28 = .ok (.getfield 13, 3) := by decide +kernel
theorem dX9_can_31 : decode cX9_can 31 = .ok (.bipush 17, 2) := by decide +kernel
theorem dX9_can_33 : decode cX9_can 33 = .ok (.iload_n 1, 1) := by decide +kernel
theorem dX9_can_34 : decode cX9_can 34 = .ok (.iadd, 1) := by decide +kernel
theorem dX9_can_35 : decode cX9_can 35 = .ok (.iaload, 1) := by decide +kernel
theorem dX9_can_36 : decode cX9_can 36 = .ok (.iload_n 2, 1) := by decide +kernel
theorem dX9_can_37 : decode cX9_can 37 = .ok (.invokevirtual 231, 3) := by decide +kernel
theorem dX9_can_40 : decode cX9_can 40 = .ok (.ifCond .eq 7, 3) := by decide +kernel
theorem dX9_can_43 : decode cX9_can 43 = .ok (.iconst 1, 1) := by decide +kernel
theorem dX9_can_44 : decode cX9_can 44 = .ok (.goto 4, 3) := by decide +kernel
theorem dX9_can_47 : decode cX9_can 47 = .ok (.iconst 0, 1) := by decide +kernel
theorem dX9_can_48 : decode cX9_can 48 = .ok (.ireturn, 1) := by decide +kernel
theorem dX9_terms_0 : decode cX9_terms 0 = .ok (.aload_n 0, 1) := by decide +kernel
theorem dX9_terms_1 : decode cX9_terms 1 = .ok (.iconst 0, 1) := by decide +kernel
theorem dX9_terms_2 : decode cX9_terms 2 = .ok (.putfield 161, 3) := by decide +kernel
theorem dX9_terms_5 : decode cX9_terms 5 = .ok (.iload_n 1, 1) := by decide +kernel
theorem dX9_terms_6 : decode cX9_terms 6 = .ok (.ifCond .ne 15, 3) := by decide +kernel
theorem dX9_terms_9 : decode cX9_terms 9 = .ok (.iload_n 2, 1) := by decide +kernel
theorem dX9_terms_10 : decode cX9_terms 10 = .ok (.i2l, 1) := by decide +kernel
theorem dX9_terms_11 : decode cX9_terms 11 = .ok (.lconst 0, 1) := by decide +kernel
theorem dX9_terms_12 : decode cX9_terms 12 = .ok (.ldc2_w 235, 3) := by decide +kernel
theorem dX9_terms_15 : decode cX9_terms 15 = .ok (.invokestatic 181, 3) := by decide +kernel
theorem dX9_terms_18 : decode cX9_terms 18 = .ok (.goto 42, 3) := by decide +kernel
theorem dX9_terms_21 : decode cX9_terms 21 = .ok (.iload_n 1, 1) := by decide +kernel
theorem dX9_terms_22 : decode cX9_terms 22 = .ok (.iconst 1, 1) := by decide +kernel
theorem dX9_terms_23 : decode cX9_terms 23 = .ok (.if_icmp .ne 15, 3) := by decide +kernel
theorem dX9_terms_26 : decode cX9_terms 26 = .ok (.iload_n 2, 1) := by decide +kernel
theorem dX9_terms_27 : decode cX9_terms 27 = .ok (.i2l, 1) := by decide +kernel
theorem dX9_terms_28 : decode cX9_terms 28 = .ok (.lconst 0, 1) := by decide +kernel
theorem dX9_terms_29 : decode cX9_terms 29 = .ok (.ldc2_w 237, 3) := by decide +kernel
theorem dX9_terms_32 : decode cX9_terms 32 = .ok (.invokestatic 181, 3) := by decide +kernel
theorem dX9_terms_35 : decode cX9_terms 35 = .ok (.goto 25, 3) := by decide +kernel
theorem dX9_terms_38 : decode cX9_terms 38 = .ok (.iload_n 1, 1) := by decide +kernel
theorem dX9_terms_39 : decode cX9_terms 39 = .ok (.iconst 2, 1) := by decide +kernel
theorem dX9_terms_40 : decode cX9_terms 40 = .ok (.if_icmp .ne 19, 3) := by decide +kernel
theorem dX9_terms_43 : decode cX9_terms 43 = .ok (.iload_n 2, 1) := by decide +kernel
theorem dX9_terms_44 : decode cX9_terms 44 = .ok (.i2l, 1) := by decide +kernel
theorem dX9_terms_45 : decode cX9_terms 45 = .ok (.lconst 0, 1) := by decide +kernel
theorem dX9_terms_46 : decode cX9_terms 46 = .ok (.ldc2_w 194, 3) := by decide +kernel
theorem dX9_terms_49 : decode cX9_terms 49 = .ok (.invokestatic 181, 3) := by decide +kernel
theorem dX9_terms_52 : decode cX9_terms 52 = .ok (.ifCond .eq 7, 3) := by decide +kernel
theorem dX9_terms_55 : decode cX9_terms 55 = .ok (.iconst 1, 1) := by decide +kernel
theorem dX9_terms_56 : decode cX9_terms 56 = .ok (.goto 4, 3) := by decide +kernel
theorem dX9_terms_59 : decode cX9_terms 59 = .ok (.iconst 0, 1) := by decide +kernel
theorem dX9_terms_60 : decode cX9_terms 60 = .ok (.istore_n 3, 1) := by decide +kernel
theorem dX9_terms_61 : decode cX9_terms 61 = .ok (.iload_n 3, 1) := by decide +kernel
theorem dX9_terms_62 : decode cX9_terms 62 = .ok (.ifCond .ne 9, 3) := by decide +kernel
theorem dX9_terms_65 : decode cX9_terms 65 = .ok (.aload_n 0, 1) := by decide +kernel
theorem dX9_terms_66 : decode cX9_terms 66 = .ok (.iconst (-1), 1) := by decide +kernel
theorem dX9_terms_67 : decode cX9_terms 67 = .ok (.invokevirtual 170, 3) := by decide +kernel
theorem dX9_terms_70 : decode cX9_terms 70 = .ok (.ireturn, 1) := by decide +kernel
theorem dX9_terms_71 : decode cX9_terms 71 = .ok (.aload_n 0, 1) := by decide +kernel
theorem dX9_terms_72 : decode cX9_terms 72 = .ok (.iconst 0, 1) := by decide +kernel
theorem dX9_terms_73 : decode cX9_terms 73 = .ok (.putfield 167, 3) := by decide +kernel
theorem dX9_terms_76 : decode cX9_terms 76 = .ok (.aload_n 0, 1) := by decide +kernel
theorem dX9_terms_77 : decode cX9_terms 77 = .ok (.bipush 7, 2) := by decide +kernel
theorem dX9_terms_79 : decode cX9_terms 79 = .ok (.iload_n 1, 1) := by decide +kernel
theorem dX9_terms_80 : decode cX9_terms 80 = .ok (.iadd, 1) := by decide +kernel
theorem dX9_terms_81 : decode cX9_terms 81 = .ok (.iload_n 2, 1) := by decide +kernel
theorem dX9_terms_82 : decode cX9_terms 82 = .ok (.invokevirtual 239, 3) := by decide +kernel
theorem dX9_terms_85 : decode cX9_terms 85 = .ok (.ireturn, 1) := by decide +kernel
theorem dX9_row_0 : decode cX9_row 0 = .ok (.aload_n 0, 1) := by decide +kernel
theorem dX9_row_1 : decode cX9_row 1 = .ok (.iconst 0, 1) := by decide +kernel
theorem dX9_row_2 : decode cX9_row 2 = .ok (.putfield 161, 3) := by decide +kernel
theorem dX9_row_5 : decode cX9_row 5 = .ok (.aload_n 0, 1) := by decide +kernel
theorem dX9_row_6 : decode cX9_row 6 = .ok (.getfield 242, 3) := by decide +kernel
theorem dX9_row_9 : decode cX9_row 9 = .ok (.istore_n 1, 1) := by decide +kernel
theorem dX9_row_10 : decode cX9_row 10 = .ok (.aload_n 0, 1) := by decide +kernel
theorem dX9_row_11 : decode cX9_row 11 = .ok (.iconst 0, 1) := by decide +kernel
theorem dX9_row_12 : decode cX9_row 12 = .ok (.putfield 242, 3) := by decide +kernel
theorem dX9_row_15 : decode cX9_row 15 = .ok (.iload_n 1, 1) := by decide +kernel
theorem dX9_row_16 : decode cX9_row 16 = .ok (.ifCond .ne 10, 3) := by decide +kernel
theorem dX9_row_19 : decode cX9_row 19 = .ok (.aload_n 0, 1) := by decide +kernel
theorem dX9_row_20 : decode cX9_row 20 = .ok (.bipush (-6), 2) := by decide +kernel
theorem dX9_row_22 : decode cX9_row 22 = .ok (.invokevirtual 170, 3) := by decide +kernel
theorem dX9_row_25 : decode cX9_row 25 = .ok (.ireturn, 1) := by decide +kernel
theorem dX9_row_26 : decode cX9_row 26 = .ok (.aload_n 0, 1) := by decide +kernel
theorem dX9_row_27 : decode cX9_row 27 = .ok (.iconst 0, 1) := by decide +kernel
theorem dX9_row_28 : decode cX9_row 28 = .ok (.putfield 245, 3) := by decide +kernel
theorem dX9_row_31 : decode cX9_row 31 = .ok (.iconst 0, 1) := by decide +kernel
theorem dX9_row_32 : decode cX9_row 32 = .ok (.istore_n 2, 1) := by decide +kernel
theorem dX9_row_33 : decode cX9_row 33 = .ok (.iconst 0, 1) := by decide +kernel
theorem dX9_row_34 : decode cX9_row 34 = .ok (.istore_n 3, 1) := by decide +kernel
theorem dX9_row_35 : decode cX9_row 35 = .ok (.iload_n 3, 1) := by decide +kernel
theorem dX9_row_36 : decode cX9_row 36 = .ok (.iload_n 1, 1) := by decide +kernel
theorem dX9_row_37 : decode cX9_row 37 = .ok (.if_icmp .ge 116, 3) := by decide +kernel
theorem dX9_row_40 : decode cX9_row 40 = .ok (.iload_n 3, 1) := by decide +kernel
theorem dX9_row_41 : decode cX9_row 41 = .ok (.iconst 2, 1) := by decide +kernel
theorem dX9_row_42 : decode cX9_row 42 = .ok (.iadd, 1) := by decide +kernel
theorem dX9_row_43 : decode cX9_row 43 = .ok (.iload_n 1, 1) := by decide +kernel
theorem dX9_row_44 : decode cX9_row 44 = .ok (.if_icmp .ge 93, 3) := by decide +kernel
theorem dX9_row_47 : decode cX9_row 47 = .ok (.aload_n 0, 1) := by decide +kernel
theorem dX9_row_48 : decode cX9_row 48 = .ok (.aload_n 0, 1) := by decide +kernel
theorem dX9_row_49 : decode cX9_row 49 = .ok (.getfield 35, 3) := by decide +kernel
theorem dX9_row_52 : decode cX9_row 52 = .ok (.iload_n 3, 1) := by decide +kernel
theorem dX9_row_53 : decode cX9_row 53 = .ok (.iaload, 1) := by decide +kernel
theorem dX9_row_54 : decode cX9_row 54 = .ok (.invokevirtual 196, 3) := by decide +kernel
theorem dX9_row_57 : decode cX9_row 57 = .ok (.ifCond .eq 80, 3) := by decide +kernel
theorem dX9_row_60 : decode cX9_row 60 = .ok (.aload_n 0, 1) := by decide +kernel
theorem dX9_row_61 : decode cX9_row 61 = .ok (.aload_n 0, 1) := by decide +kernel
theorem dX9_row_62 : decode cX9_row 62 = .ok (.getfield 35, 3) := by decide +kernel
theorem dX9_row_65 : decode cX9_row 65 = .ok (.iload_n 3, 1) := by decide +kernel
theorem dX9_row_66 : decode cX9_row 66 = .ok (.iconst 1, 1) := by decide +kernel
theorem dX9_row_67 : decode cX9_row 67 = .ok (.iadd, 1) := by decide +kernel
theorem dX9_row_68 : decode cX9_row 68 = .ok (.iaload, 1) := by decide +kernel
theorem dX9_row_69 : decode cX9_row 69 = .ok (.invokevirtual 196, 3) := by decide +kernel
theorem dX9_row_72 : decode cX9_row 72 = .ok (.ifCond .eq 65, 3) := by decide +kernel
theorem dX9_row_75 : decode cX9_row 75 = .ok (.aload_n 0, 1) := by decide +kernel
theorem dX9_row_76 : decode cX9_row 76 = .ok (.getfield 35, 3) := by decide +kernel
theorem dX9_row_79 : decode cX9_row 79 = .ok (.iload_n 3, 1) := by decide +kernel
theorem dX9_row_80 : decode cX9_row 80 = .ok (.iaload, 1) := by decide +kernel
theorem dX9_row_81 : decode cX9_row 81 = .ok (.aload_n 0, 1) := by decide +kernel
theorem dX9_row_82 : decode cX9_row 82 = .ok (.getfield 35, 3) := by decide +kernel
theorem dX9_row_85 : decode cX9_row 85 = .ok (.iload_n 3, 1) := by decide +kernel
theorem dX9_row_86 : decode cX9_row 86 = .ok (.iconst 1, 1) := by decide +kernel
theorem dX9_row_87 : decode cX9_row 87 = .ok (.iadd, 1) := by decide +kernel
theorem dX9_row_88 : decode cX9_row 88 = .ok (.iaload, 1) := by decide +kernel
theorem dX9_row_89 : decode cX9_row 89 = .ok (.if_icmp .eq 48, 3) := by decide +kernel
theorem dX9_row_92 : decode cX9_row 92 = .ok (.aload_n 0, 1) := by decide +kernel
theorem dX9_row_93 : decode cX9_row 93 = .ok (.getfield 35, 3) := by decide +kernel
theorem dX9_row_96 : decode cX9_row 96 = .ok (.iload_n 3, 1) := by decide +kernel
theorem dX9_row_97 : decode cX9_row 97 = .ok (.iconst 2, 1) := by decide +kernel
theorem dX9_row_98 : decode cX9_row 98 = .ok (.iadd, 1) := by decide +kernel
theorem dX9_row_99 : decode cX9_row 99 = .ok (.iaload, 1) := by decide +kernel
theorem dX9_row_100 : decode cX9_row 100 = .ok (.bipush 9, 2) := by decide +kernel
theorem dX9_row_102 : decode cX9_row 102 = .ok (.if_icmp .gt 35, 3) := by decide +kernel
theorem dX9_row_105 : decode cX9_row 105 = .ok (.aload_n 0, 1) := by decide +kernel
theorem dX9_row_106 : decode cX9_row 106 = .ok (.aload_n 0, 1) := by decide +kernel
theorem dX9_row_107 : decode cX9_row 107 = .ok (.getfield 35, 3) := by decide +kernel
theorem dX9_row_110 : decode cX9_row 110 = .ok (.iload_n 3, 1) := by decide +kernel
theorem dX9_row_111 : decode cX9_row 111 = .ok (.iaload, 1) := by decide +kernel
theorem dX9_row_112 : decode cX9_row 112 = .ok (.aload_n 0, 1) := by decide +kernel
theorem dX9_row_113 : decode cX9_row 113 = .ok (.getfield 35, 3) := by decide +kernel
theorem dX9_row_116 : decode cX9_row 116 = .ok (.iload_n 3, 1) := by decide +kernel
theorem dX9_row_117 : decode cX9_row 117 = .ok (.iconst 1, 1) := by decide +kernel
theorem dX9_row_118 : decode cX9_row 118 = .ok (.iadd, 1) := by decide +kernel
theorem dX9_row_119 : decode cX9_row 119 = .ok (.iaload, 1) := by decide +kernel
theorem dX9_row_120 : decode cX9_row 120 = .ok (.aload_n 0, 1) := by decide +kernel
theorem dX9_row_121 : decode cX9_row 121 = .ok (.getfield 35, 3) := by decide +kernel
theorem dX9_row_124 : decode cX9_row 124 = .ok (.iload_n 3, 1) := by decide +kernel
theorem dX9_row_125 : decode cX9_row 125 = .ok (.iconst 2, 1) := by decide +kernel
theorem dX9_row_126 : decode cX9_row 126 = .ok (.iadd, 1) := by decide +kernel
theorem dX9_row_127 : decode cX9_row 127 = .ok (.iaload, 1) := by decide +kernel
theorem dX9_row_128 : decode cX9_row 128 = .ok (.invokevirtual 221, 3) := by decide +kernel
theorem dX9_row_131 : decode cX9_row 131 = .ok (.iinc 2 1, 3) := by decide +kernel
theorem dX9_row_134 : decode cX9_row 134 = .ok (.goto 13, 3) := by decide +kernel
theorem dX9_row_137 : decode cX9_row 137 = .ok (.aload_n 0, 1) := by decide +kernel
theorem dX9_row_138 : decode cX9_row 138 = .ok (.dup, 1) := by decide +kernel
theorem dX9_row_139 : decode cX9_row 139 = .ok (.getfield 245, 3) := by decide +kernel
theorem dX9_row_142 : decode cX9_row 142 = .ok (.iconst 1, 1) := by decide +kernel
theorem dX9_row_143 : decode cX9_row 143 = .ok (.iadd, 1) := by decide +kernel
theorem dX9_row_144 : decode cX9_row 144 = .ok (.putfield 245, 3) := by decide +kernel
theorem dX9_row_147 : decode cX9_row 147 = .ok (.iinc 3 3, 3) := by decide +kernel
theorem dX9_row_150 : decode cX9_row 150 = .ok (.goto (-115), 3) := by decide +kernel
theorem dX9_row_153 : decode cX9_row 153 = .ok (.aload_n 0, 1) := by decide +kernel
theorem dX9_row_154 : decode cX9_row 154 = .ok (.iload_n 2, 1) := by decide +kernel
theorem dX9_row_155 : decode cX9_row 155 = .ok (.invokevirtual 170, 3) := by decide +kernel
theorem dX9_row_158 : decode cX9_row 158 = .ok (.ireturn, 1) := by decide +kernel
theorem dX9_scratches_0 : decode cX9_scratches 0 = .ok (.aload_n 0, 1) := by decide +kernel
theorem dX9_scratches_1 : decode cX9_scratches 1 = .ok (.iconst 0, 1) := by decide +kernel
theorem dX9_scratches_2 : decode cX9_scratches 2 = .ok (.putfield 161, 3) := by decide +kernel
theorem dX9_scratches_5 : decode cX9_scratches 5 = .ok (.aload_n 0, 1) := by decide +kernel
theorem dX9_scratches_6 : decode cX9_scratches 6 = .ok (.getfield 245, 3) := by decide +kernel
theorem dX9_scratches_9 : decode cX9_scratches 9 = .ok (.ireturn, 1) := by decide +kernel
theorem dX9_four_0 : decode cX9_four 0 = .ok (.bipush 24, 2) := by decide +kernel
theorem dX9_four_2 : decode cX9_four 2 = .ok (.istore_n 2, 1) := by decide +kernel
theorem dX9_four_3 : decode cX9_four 3 = .ok (.iload_n 2, 1) := by decide +kernel
theorem dX9_four_4 : decode cX9_four 4 = .ok (.ifCond .lt 35, 3) := by decide +kernel
theorem dX9_four_7 : decode cX9_four 7 = .ok (.aload_n 0, 1) := by decide +kernel
theorem dX9_four_8 : decode cX9_four 8 = .ok (.getfield 35, 3) := by decide +kernel
theorem dX9_four_11 : decode cX9_four 11 = .ok (.aload_n 0, 1) := by decide +kernel
theorem dX9_four_12 : decode cX9_four 12 = .ok (.getfield 242, 3) := by decide +kernel
theorem dX9_four_15 : decode cX9_four 15 = .ok (.iload_n 1, 1) := by decide +kernel
theorem dX9_four_16 : decode cX9_four 16 = .ok (.iload_n 2, 1) := by decide +kernel
theorem dX9_four_17 : decode cX9_four 17 = .ok (.ishr, 1) := by decide +kernel
theorem dX9_four_18 : decode cX9_four 18 = .ok (.sipush 255, 3) := by decide +kernel
theorem dX9_four_21 : decode cX9_four 21 = .ok (.iand, 1) := by decide +kernel
theorem dX9_four_22 : decode cX9_four 22 = .ok (.iastore, 1) := by decide +kernel
theorem dX9_four_23 : decode cX9_four 23 = .ok (.aload_n 0, 1) := by decide +kernel
theorem dX9_four_24 : decode cX9_four 24 = .ok (.dup, 1) := by decide +kernel
theorem dX9_four_25 : decode cX9_four 25 = .ok (.getfield 242, 3) := by decide +kernel
theorem dX9_four_28 : decode cX9_four 28 = .ok (.iconst 1, 1) := by decide +kernel
theorem dX9_four_29 : decode cX9_four 29 = .ok (.iadd, 1) := by decide +kernel
theorem dX9_four_30 : decode cX9_four 30 = .ok (.putfield 242, 3) := by decide +kernel
theorem dX9_four_33 : decode cX9_four 33 = .ok (.iinc 2 (-8), 3) := by decide +kernel
theorem dX9_four_36 : decode cX9_four 36 = .ok (.goto (-33), 3) := by decide +kernel
theorem dX9_four_39 : decode cX9_four 39 = .ok (.return_, 1) := by decide +kernel
theorem dX9_feed_0 : decode cX9_feed 0 = .ok (.aload_n 0, 1) := by decide +kernel
theorem dX9_feed_1 : decode cX9_feed 1 = .ok (.iconst 0, 1) := by decide +kernel
theorem dX9_feed_2 : decode cX9_feed 2 = .ok (.putfield 161, 3) := by decide +kernel
theorem dX9_feed_5 : decode cX9_feed 5 = .ok (.aload_n 0, 1) := by decide +kernel
theorem dX9_feed_6 : decode cX9_feed 6 = .ok (.getfield 242, 3) := by decide +kernel
theorem dX9_feed_9 : decode cX9_feed 9 = .ok (.bipush 20, 2) := by decide +kernel
theorem dX9_feed_11 : decode cX9_feed 11 = .ok (.iadd, 1) := by decide +kernel
theorem dX9_feed_12 : decode cX9_feed 12 = .ok (.sipush 400, 3) := by decide +kernel
theorem dX9_feed_15 : decode cX9_feed 15 = .ok (.if_icmp .le 5, 3) := by decide +kernel
theorem dX9_feed_18 : decode cX9_feed 18 = .ok (.iconst (-1), 1) := by decide +kernel
theorem dX9_feed_19 : decode cX9_feed 19 = .ok (.ireturn, 1) := by decide +kernel
theorem dX9_feed_20 : decode cX9_feed 20 = .ok (.aload_n 0, 1) := by decide +kernel
theorem dX9_feed_21 : decode cX9_feed 21 = .ok (.iload_n 1, 1) := by decide +kernel
theorem dX9_feed_22 : decode cX9_feed 22 = .ok (.invokevirtual 248, 3) := by decide +kernel
theorem dX9_feed_25 : decode cX9_feed 25 = .ok (.aload_n 0, 1) := by decide +kernel
theorem dX9_feed_26 : decode cX9_feed 26 = .ok (.iload_n 2, 1) := by decide +kernel
theorem dX9_feed_27 : decode cX9_feed 27 = .ok (.invokevirtual 248, 3) := by decide +kernel
theorem dX9_feed_30 : decode cX9_feed 30 = .ok (.aload_n 0, 1) := by decide +kernel
theorem dX9_feed_31 : decode cX9_feed 31 = .ok (.iload_n 3, 1) := by decide +kernel
theorem dX9_feed_32 : decode cX9_feed 32 = .ok (.invokevirtual 248, 3) := by decide +kernel
theorem dX9_feed_35 : decode cX9_feed 35 = .ok (.aload_n 0, 1) := by decide +kernel
theorem dX9_feed_36 : decode cX9_feed 36 = .ok (.iload 4, 2) := by decide +kernel
theorem dX9_feed_38 : decode cX9_feed 38 = .ok (.invokevirtual 248, 3) := by decide +kernel
theorem dX9_feed_41 : decode cX9_feed 41 = .ok (.aload_n 0, 1) := by decide +kernel
theorem dX9_feed_42 : decode cX9_feed 42 = .ok (.iload 5, 2) := by decide +kernel
theorem dX9_feed_44 : decode cX9_feed 44 = .ok (.invokevirtual 248, 3) := by decide +kernel
theorem dX9_feed_47 : decode cX9_feed 47 = .ok (.aload_n 0, 1) := by decide +kernel
theorem dX9_feed_48 : decode cX9_feed 48 = .ok (.getfield 242, 3) := by decide +kernel
theorem dX9_feed_51 : decode cX9_feed 51 = .ok (.ireturn, 1) := by decide +kernel
theorem dX9_end_0 : decode cX9_end 0 = .ok (.aload_n 0, 1) := by decide +kernel
theorem dX9_end_1 : decode cX9_end 1 = .ok (.iconst 0, 1) := by decide +kernel
theorem dX9_end_2 : decode cX9_end 2 = .ok (.putfield 161, 3) := by decide +kernel
theorem dX9_end_5 : decode cX9_end 5 = .ok (.iload_n 1, 1) := by decide +kernel
theorem dX9_end_6 : decode cX9_end 6 = .ok (.ifCond .lt 11, 3) := by decide +kernel
theorem dX9_end_9 : decode cX9_end 9 = .ok (.iload_n 1, 1) := by decide +kernel
theorem dX9_end_10 : decode cX9_end 10 = .ok (.aload_n 0, 1) := by decide +kernel
theorem dX9_end_11 : decode cX9_end 11 = .ok (.getfield 242, 3) := by decide +kernel
theorem dX9_end_14 : decode cX9_end 14 = .ok (.if_icmp .le 5, 3) := by decide +kernel
theorem dX9_end_17 : decode cX9_end 17 = .ok (.iconst (-1), 1) := by decide +kernel
theorem dX9_end_18 : decode cX9_end 18 = .ok (.ireturn, 1) := by decide +kernel
theorem dX9_end_19 : decode cX9_end 19 = .ok (.aload_n 0, 1) := by decide +kernel
theorem dX9_end_20 : decode cX9_end 20 = .ok (.iload_n 1, 1) := by decide +kernel
theorem dX9_end_21 : decode cX9_end 21 = .ok (.putfield 242, 3) := by decide +kernel
theorem dX9_end_24 : decode cX9_end 24 = .ok (.iload_n 1, 1) := by decide +kernel
theorem dX9_end_25 : decode cX9_end 25 = .ok (.ireturn, 1) := by decide +kernel
theorem dX9_isSmall_0 : decode cX9_isSmall 0 = .ok (.iload_n 0, 1) := by decide +kernel
theorem dX9_isSmall_1 : decode cX9_isSmall 1 = .ok (.bipush 97, 2) := by decide +kernel
theorem dX9_isSmall_3 : decode cX9_isSmall 3 = .ok (.if_icmp .lt 13, 3) := by decide +kernel
theorem dX9_isSmall_6 : decode cX9_isSmall 6 = .ok (.iload_n 0, 1) := by decide +kernel
theorem dX9_isSmall_7 : decode cX9_isSmall 7 = .ok (.bipush 122, 2) := by decide +kernel
theorem dX9_isSmall_9 : decode cX9_isSmall 9 = .ok (.if_icmp .gt 7, 3) := by decide +kernel
theorem dX9_isSmall_12 : decode cX9_isSmall 12 = .ok (.iconst 1, 1) := by decide +kernel
theorem dX9_isSmall_13 : decode cX9_isSmall 13 = .ok (.goto 4, 3) := by decide +kernel
theorem dX9_isSmall_16 : decode cX9_isSmall 16 = .ok (.iconst 0, 1) := by decide +kernel
theorem dX9_isSmall_17 : decode cX9_isSmall 17 = .ok (.ireturn, 1) := by decide +kernel
theorem dX9_isDigit_0 : decode cX9_isDigit 0 = .ok (.iload_n 0, 1) := by decide +kernel
theorem dX9_isDigit_1 : decode cX9_isDigit 1 = .ok (.bipush 48, 2) := by decide +kernel
theorem dX9_isDigit_3 : decode cX9_isDigit 3 = .ok (.if_icmp .lt 13, 3) := by decide +kernel
theorem dX9_isDigit_6 : decode cX9_isDigit 6 = .ok (.iload_n 0, 1) := by decide +kernel
theorem dX9_isDigit_7 : decode cX9_isDigit 7 = .ok (.bipush 57, 2) := by decide +kernel
theorem dX9_isDigit_9 : decode cX9_isDigit 9 = .ok (.if_icmp .gt 7, 3) := by decide +kernel
theorem dX9_isDigit_12 : decode cX9_isDigit 12 = .ok (.iconst 1, 1) := by decide +kernel
theorem dX9_isDigit_13 : decode cX9_isDigit 13 = .ok (.goto 4, 3) := by decide +kernel
theorem dX9_isDigit_16 : decode cX9_isDigit 16 = .ok (.iconst 0, 1) := by decide +kernel
theorem dX9_isDigit_17 : decode cX9_isDigit 17 = .ok (.ireturn, 1) := by decide +kernel
theorem dX9_begin_0 : decode cX9_begin 0 = .ok (.aload_n 0, 1) := by decide +kernel
theorem dX9_begin_1 : decode cX9_begin 1 = .ok (.iconst 0, 1) := by decide +kernel
theorem dX9_begin_2 : decode cX9_begin 2 = .ok (.putfield 251, 3) := by decide +kernel
theorem dX9_begin_5 : decode cX9_begin 5 = .ok (.aload_n 0, 1) := by decide +kernel
theorem dX9_begin_6 : decode cX9_begin 6 = .ok (.iconst 0, 1) := by decide +kernel
theorem dX9_begin_7 : decode cX9_begin 7 = .ok (.putfield 254, 3) := by decide +kernel
theorem dX9_begin_10 : decode cX9_begin 10 = .ok (.aload_n 0, 1) := by decide +kernel
theorem dX9_begin_11 : decode cX9_begin 11 = .ok (.iconst (-1), 1) := by decide +kernel
theorem dX9_begin_12 : decode cX9_begin 12 = .ok (.putfield 38, 3) := by decide +kernel
theorem dX9_begin_15 : decode cX9_begin 15 = .ok (.aload_n 0, 1) := by decide +kernel
theorem dX9_begin_16 : decode cX9_begin 16 = .ok (.invokevirtual 258, 3) := by decide +kernel
theorem dX9_begin_19 : decode cX9_begin 19 = .ok (.return_, 1) := by decide +kernel
theorem dX9_next_0 : decode cX9_next 0 = .ok (.aload_n 0, 1) := by decide +kernel
theorem dX9_next_1 : decode cX9_next 1 = .ok (.aload_n 0, 1) := by decide +kernel
theorem dX9_next_2 : decode cX9_next 2 = .ok (.getfield 251, 3) := by decide +kernel
theorem dX9_next_5 : decode cX9_next 5 = .ok (.putfield 261, 3) := by decide +kernel
theorem dX9_next_8 : decode cX9_next 8 = .ok (.aload_n 0, 1) := by decide +kernel
theorem dX9_next_9 : decode cX9_next 9 = .ok (.getfield 261, 3) := by decide +kernel
theorem dX9_next_12 : decode cX9_next 12 = .ok (.aload_n 0, 1) := by decide +kernel
theorem dX9_next_13 : decode cX9_next 13 = .ok (.getfield 242, 3) := by decide +kernel
theorem dX9_next_16 : decode cX9_next 16 = .ok (.if_icmp .ge 30, 3) := by decide +kernel
theorem dX9_next_19 : decode cX9_next 19 = .ok (.aload_n 0, 1) := by decide +kernel
theorem dX9_next_20 : decode cX9_next 20 = .ok (.getfield 35, 3) := by decide +kernel
theorem dX9_next_23 : decode cX9_next 23 = .ok (.aload_n 0, 1) := by decide +kernel
theorem dX9_next_24 : decode cX9_next 24 = .ok (.getfield 261, 3) := by decide +kernel
theorem dX9_next_27 : decode cX9_next 27 = .ok (.iaload, 1) := by decide +kernel
theorem dX9_next_28 : decode cX9_next 28 = .ok (.bipush 32, 2) := by decide +kernel
theorem dX9_next_30 : decode cX9_next 30 = .ok (.if_icmp .ne 16, 3) := by decide +kernel
theorem dX9_next_33 : decode cX9_next 33 = .ok (.aload_n 0, 1) := by decide +kernel
theorem dX9_next_34 : decode cX9_next 34 = .ok (.dup, 1) := by decide +kernel
theorem dX9_next_35 : decode cX9_next 35 = .ok (.getfield 261, 3) := by decide +kernel
theorem dX9_next_38 : decode cX9_next 38 = .ok (.iconst 1, 1) := by decide +kernel
theorem dX9_next_39 : decode cX9_next 39 = .ok (.iadd, 1) := by decide +kernel
theorem dX9_next_40 : decode cX9_next 40 = .ok (.putfield 261, 3) := by decide +kernel
theorem dX9_next_43 : decode cX9_next 43 = .ok (.goto (-35), 3) := by decide +kernel
theorem dX9_next_46 : decode cX9_next 46 = .ok (.aload_n 0, 1) := by decide +kernel
theorem dX9_next_47 : decode cX9_next 47 = .ok (.aload_n 0, 1) := by decide +kernel
theorem dX9_next_48 : decode cX9_next 48 = .ok (.getfield 261, 3) := by decide +kernel
theorem dX9_next_51 : decode cX9_next 51 = .ok (.putfield 251, 3) := by decide +kernel
theorem dX9_next_54 : decode cX9_next 54 = .ok (.aload_n 0, 1) := by decide +kernel
theorem dX9_next_55 : decode cX9_next 55 = .ok (.lconst 0, 1) := by decide +kernel
theorem dX9_next_56 : decode cX9_next 56 = .ok (.putfield 264, 3) := by decide +kernel
theorem dX9_next_59 : decode cX9_next 59 = .ok (.aload_n 0, 1) := by decide +kernel
theorem dX9_next_60 : decode cX9_next 60 = .ok (.aload_n 0, 1) := by decide +kernel
theorem dX9_next_61 : decode cX9_next 61 = .ok (.getfield 261, 3) := by decide +kernel
theorem dX9_next_64 : decode cX9_next 64 = .ok (.aload_n 0, 1) := by decide +kernel
theorem dX9_next_65 : decode cX9_next 65 = .ok (.getfield 242, 3) := by decide +kernel
theorem dX9_next_68 : decode cX9_next 68 = .ok (.if_icmp .ne 7, 3) := by decide +kernel
theorem dX9_next_71 : decode cX9_next 71 = .ok (.iconst 0, 1) := by decide +kernel
theorem dX9_next_72 : decode cX9_next 72 = .ok (.goto 42, 3) := by decide +kernel
theorem dX9_next_75 : decode cX9_next 75 = .ok (.aload_n 0, 1) := by decide +kernel
theorem dX9_next_76 : decode cX9_next 76 = .ok (.getfield 35, 3) := by decide +kernel
theorem dX9_next_79 : decode cX9_next 79 = .ok (.aload_n 0, 1) := by decide +kernel
theorem dX9_next_80 : decode cX9_next 80 = .ok (.getfield 261, 3) := by decide +kernel
theorem dX9_next_83 : decode cX9_next 83 = .ok (.iaload, 1) := by decide +kernel
theorem dX9_next_84 : decode cX9_next 84 = .ok (.invokestatic 268, 3) := by decide +kernel
theorem dX9_next_87 : decode cX9_next 87 = .ok (.ifCond .eq 7, 3) := by decide +kernel
theorem dX9_next_90 : decode cX9_next 90 = .ok (.iconst 1, 1) := by decide +kernel
theorem dX9_next_91 : decode cX9_next 91 = .ok (.goto 23, 3) := by decide +kernel
theorem dX9_next_94 : decode cX9_next 94 = .ok (.aload_n 0, 1) := by decide +kernel
theorem dX9_next_95 : decode cX9_next 95 = .ok (.getfield 35, 3) := by decide +kernel
theorem dX9_next_98 : decode cX9_next 98 = .ok (.aload_n 0, 1) := by decide +kernel
theorem dX9_next_99 : decode cX9_next 99 = .ok (.getfield 261, 3) := by decide +kernel
theorem dX9_next_102 : decode cX9_next 102 = .ok (.iaload, 1) := by decide +kernel
theorem dX9_next_103 : decode cX9_next 103 = .ok (.invokestatic 271, 3) := by decide +kernel
theorem dX9_next_106 : decode cX9_next 106 = .ok (.ifCond .eq 7, 3) := by decide +kernel
theorem dX9_next_109 : decode cX9_next 109 = .ok (.iconst 2, 1) := by decide +kernel
theorem dX9_next_110 : decode cX9_next 110 = .ok (.goto 4, 3) := by decide +kernel
theorem dX9_next_113 : decode cX9_next 113 = .ok (.iconst 3, 1) := by decide +kernel
theorem dX9_next_114 : decode cX9_next 114 = .ok (.putfield 274, 3) := by decide +kernel
theorem dX9_next_117 : decode cX9_next 117 = .ok (.aload_n 0, 1) := by decide +kernel
theorem dX9_next_118 : decode cX9_next 118 = .ok (.getfield 274, 3) := by decide +kernel
theorem dX9_next_121 : decode cX9_next 121 = .ok (.iconst 3, 1) := by decide +kernel
theorem dX9_next_122 : decode cX9_next 122 = .ok (.if_icmp .ne 27, 3) := by decide +kernel
theorem dX9_next_125 : decode cX9_next 125 = .ok (.aload_n 0, 1) := by decide +kernel
theorem dX9_next_126 : decode cX9_next 126 = .ok (.aload_n 0, 1) := by decide +kernel
theorem dX9_next_127 : decode cX9_next 127 = .ok (.getfield 35, 3) := by decide +kernel
theorem dX9_next_130 : decode cX9_next 130 = .ok (.aload_n 0, 1) := by decide +kernel
theorem dX9_next_131 : decode cX9_next 131 = .ok (.getfield 261, 3) := by decide +kernel
theorem dX9_next_134 : decode cX9_next 134 = .ok (.iaload, 1) := by decide +kernel
theorem dX9_next_135 : decode cX9_next 135 = .ok (.i2l, 1) := by decide +kernel
theorem dX9_next_136 : decode cX9_next 136 = .ok (.putfield 264, 3) := by decide +kernel
theorem dX9_next_139 : decode cX9_next 139 = .ok (.aload_n 0, 1) := by decide +kernel
theorem dX9_next_140 : decode cX9_next 140 = .ok (.dup, 1) := by decide +kernel
theorem dX9_next_141 : decode cX9_next 141 = .ok (.getfield 251, 3) := by decide +kernel
theorem dX9_next_144 : decode cX9_next 144 = .ok (.iconst 1, 1) := by decide +kernel
theorem dX9_next_145 : decode cX9_next 145 = .ok (.iadd, 1) := by decide +kernel
theorem dX9_next_146 : decode cX9_next 146 = .ok (.putfield 251, 3) := by decide +kernel
theorem dX9_next_149 : decode cX9_next 149 = .ok (.aload_n 0, 1) := by decide +kernel
theorem dX9_next_150 : decode cX9_next 150 = .ok (.getfield 274, 3) := by decide +kernel
theorem dX9_next_153 : decode cX9_next 153 = .ok (.iconst 1, 1) := by decide +kernel
theorem dX9_next_154 : decode cX9_next 154 = .ok (.if_icmp .ne 89, 3) := by decide +kernel
theorem dX9_next_157 : decode cX9_next 157 = .ok (.aload_n 0, 1) := by decide +kernel
theorem dX9_next_158 : decode cX9_next 158 = .ok (.getfield 251, 3) := by decide +kernel
theorem dX9_next_161 : decode cX9_next 161 = .ok (.aload_n 0, 1) := by decide +kernel
theorem dX9_next_162 : decode cX9_next 162 = .ok (.getfield 242, 3) := by decide +kernel
theorem dX9_next_165 : decode cX9_next 165 = .ok (.if_icmp .ge 78, 3) := by decide +kernel
theorem dX9_next_168 : decode cX9_next 168 = .ok (.aload_n 0, 1) := by decide +kernel
theorem dX9_next_169 : decode cX9_next 169 = .ok (.getfield 35, 3) := by decide +kernel
theorem dX9_next_172 : decode cX9_next 172 = .ok (.aload_n 0, 1) := by decide +kernel
theorem dX9_next_173 : decode cX9_next 173 = .ok (.getfield 251, 3) := by decide +kernel
theorem dX9_next_176 : decode cX9_next 176 = .ok (.iaload, 1) := by decide +kernel
theorem dX9_next_177 : decode cX9_next 177 = .ok (.invokestatic 268, 3) := by decide +kernel
theorem dX9_next_180 : decode cX9_next 180 = .ok (.ifCond .eq 63, 3) := by decide +kernel
theorem dX9_next_183 : decode cX9_next 183 = .ok (.aload_n 0, 1) := by decide +kernel
theorem dX9_next_184 : decode cX9_next 184 = .ok (.aload_n 0, 1) := by decide +kernel
theorem dX9_next_185 : decode cX9_next 185 = .ok (.getfield 251, 3) := by decide +kernel
theorem dX9_next_188 : decode cX9_next 188 = .ok (.aload_n 0, 1) := by decide +kernel
theorem dX9_next_189 : decode cX9_next 189 = .ok (.getfield 261, 3) := by decide +kernel
theorem dX9_next_192 : decode cX9_next 192 = .ok (.isub, 1) := by decide +kernel
theorem dX9_next_193 : decode cX9_next 193 = .ok (.bipush 10, 2) := by decide +kernel
theorem dX9_next_195 : decode cX9_next 195 = .ok (.if_icmp .ge 29, 3) := by decide +kernel
theorem dX9_next_198 : decode cX9_next 198 = .ok (.aload_n 0, 1) := by decide +kernel
theorem dX9_next_199 : decode cX9_next 199 = .ok (.getfield 264, 3) := by decide +kernel
theorem dX9_next_202 : decode cX9_next 202 = .ok (.ldc2_w 277, 3) := by decide +kernel
theorem dX9_next_205 : decode cX9_next 205 = .ok (.lmul, 1) := by decide +kernel
theorem dX9_next_206 : decode cX9_next 206 = .ok (.aload_n 0, 1) := by decide +kernel
theorem dX9_next_207 : decode cX9_next 207 = .ok (.getfield 35, 3) := by decide +kernel
theorem dX9_next_210 : decode cX9_next 210 = .ok (.aload_n 0, 1) := by decide +kernel
theorem dX9_next_211 : decode cX9_next 211 = .ok (.getfield 251, 3) := by decide +kernel
theorem dX9_next_214 : decode cX9_next 214 = .ok (.iaload, 1) := by decide +kernel
theorem dX9_next_215 : decode cX9_next 215 = .ok (.i2l, 1) := by decide +kernel
theorem dX9_next_216 : decode cX9_next 216 = .ok (.ladd, 1) := by decide +kernel
theorem dX9_next_217 : decode cX9_next 217 = .ok (.ldc2_w 279, 3) := by decide +kernel
theorem dX9_next_220 : decode cX9_next 220 = .ok (.lsub, 1) := by decide +kernel
theorem dX9_next_221 : decode cX9_next 221 = .ok (.goto 6, 3) := by decide +kernel
theorem dX9_next_224 : decode cX9_next 224 = .ok (.ldc2_w 281, 3) := by decide +kernel
theorem dX9_next_227 : decode cX9_next 227 = .ok (.putfield 264, 3) := by decide +kernel
theorem dX9_next_230 : decode cX9_next 230 = .ok (.aload_n 0, 1) := by decide +kernel
theorem dX9_next_231 : decode cX9_next 231 = .ok (.dup, 1) := by decide +kernel
theorem dX9_next_232 : decode cX9_next 232 = .ok (.getfield 251, 3) := by decide +kernel
theorem dX9_next_235 : decode cX9_next 235 = .ok (.iconst 1, 1) := by decide +kernel
theorem dX9_next_236 : decode cX9_next 236 = .ok (.iadd, 1) := by decide +kernel
theorem dX9_next_237 : decode cX9_next 237 = .ok (.putfield 251, 3) := by decide +kernel
theorem dX9_next_240 : decode cX9_next 240 = .ok (.goto (-91), 3) := by decide +kernel
theorem dX9_next_243 : decode cX9_next 243 = .ok (.aload_n 0, 1) := by decide +kernel
theorem dX9_next_244 : decode cX9_next 244 = .ok (.getfield 274, 3) := by decide +kernel
theorem dX9_next_247 : decode cX9_next 247 = .ok (.iconst 2, 1) := by decide +kernel
theorem dX9_next_248 : decode cX9_next 248 = .ok (.if_icmp .ne 87, 3) := by decide +kernel
theorem dX9_next_251 : decode cX9_next 251 = .ok (.aload_n 0, 1) := by decide +kernel
theorem dX9_next_252 : decode cX9_next 252 = .ok (.getfield 251, 3) := by decide +kernel
theorem dX9_next_255 : decode cX9_next 255 = .ok (.aload_n 0, 1) := by decide +kernel
theorem dX9_next_256 : decode cX9_next 256 = .ok (.getfield 242, 3) := by decide +kernel
theorem dX9_next_259 : decode cX9_next 259 = .ok (.if_icmp .ge 76, 3) := by decide +kernel
theorem dX9_next_262 : decode cX9_next 262 = .ok (.aload_n 0, 1) := by decide +kernel
theorem dX9_next_263 : decode cX9_next 263 = .ok (.getfield 35, 3) := by decide +kernel
theorem dX9_next_266 : decode cX9_next 266 = .ok (.aload_n 0, 1) := by decide +kernel
theorem dX9_next_267 : decode cX9_next 267 = .ok (.getfield 251, 3) := by decide +kernel
theorem dX9_next_270 : decode cX9_next 270 = .ok (.iaload, 1) := by decide +kernel
theorem dX9_next_271 : decode cX9_next 271 = .ok (.invokestatic 271, 3) := by decide +kernel
theorem dX9_next_274 : decode cX9_next 274 = .ok (.ifCond .eq 61, 3) := by decide +kernel
theorem dX9_next_277 : decode cX9_next 277 = .ok (.aload_n 0, 1) := by decide +kernel
theorem dX9_next_278 : decode cX9_next 278 = .ok (.aload_n 0, 1) := by decide +kernel
theorem dX9_next_279 : decode cX9_next 279 = .ok (.getfield 264, 3) := by decide +kernel
theorem dX9_next_282 : decode cX9_next 282 = .ok (.ldc2_w 283, 3) := by decide +kernel
theorem dX9_next_285 : decode cX9_next 285 = .ok (.lcmp, 1) := by decide +kernel
theorem dX9_next_286 : decode cX9_next 286 = .ok (.ifCond .le 10, 3) := by decide +kernel
theorem dX9_next_289 : decode cX9_next 289 = .ok (.aload_n 0, 1) := by decide +kernel
theorem dX9_next_290 : decode cX9_next 290 = .ok (.getfield 264, 3) := by decide +kernel
theorem dX9_next_293 : decode cX9_next 293 = .ok (.goto 26, 3) := by decide +kernel
theorem dX9_next_296 : decode cX9_next 296 = .ok (.aload_n 0, 1) := by decide +kernel
theorem dX9_next_297 : decode cX9_next 297 = .ok (.getfield 264, 3) := by decide +kernel
theorem dX9_next_300 : decode cX9_next 300 = .ok (.ldc2_w 237, 3) := by decide +kernel
theorem dX9_next_303 : decode cX9_next 303 = .ok (.lmul, 1) := by decide +kernel
theorem dX9_next_304 : decode cX9_next 304 = .ok (.aload_n 0, 1) := by decide +kernel
theorem dX9_next_305 : decode cX9_next 305 = .ok (.getfield 35, 3) := by decide +kernel
theorem dX9_next_308 : decode cX9_next 308 = .ok (.aload_n 0, 1) := by decide +kernel
theorem dX9_next_309 : decode cX9_next 309 = .ok (.getfield 251, 3) := by decide +kernel
theorem dX9_next_312 : decode cX9_next 312 = .ok (.iaload, 1) := by decide +kernel
theorem dX9_next_313 : decode cX9_next 313 = .ok (.i2l, 1) := by decide +kernel
theorem dX9_next_314 : decode cX9_next 314 = .ok (.ladd, 1) := by decide +kernel
theorem dX9_next_315 : decode cX9_next 315 = .ok (.ldc2_w 285, 3) := by decide +kernel
theorem dX9_next_318 : decode cX9_next 318 = .ok (.lsub, 1) := by decide +kernel
theorem dX9_next_319 : decode cX9_next 319 = .ok (.putfield 264, 3) := by decide +kernel
theorem dX9_next_322 : decode cX9_next 322 = .ok (.aload_n 0, 1) := by decide +kernel
theorem dX9_next_323 : decode cX9_next 323 = .ok (.dup, 1) := by decide +kernel
theorem dX9_next_324 : decode cX9_next 324 = .ok (.getfield 251, 3) := by decide +kernel
theorem dX9_next_327 : decode cX9_next 327 = .ok (.iconst 1, 1) := by decide +kernel
theorem dX9_next_328 : decode cX9_next 328 = .ok (.iadd, 1) := by decide +kernel
theorem dX9_next_329 : decode cX9_next 329 = .ok (.putfield 251, 3) := by decide +kernel
theorem dX9_next_332 : decode cX9_next 332 = .ok (.goto (-89), 3) := by decide +kernel
theorem dX9_next_335 : decode cX9_next 335 = .ok (.return_, 1) := by decide +kernel
theorem dX9_isWord_0 : decode cX9_isWord 0 = .ok (.aload_n 0, 1) := by decide +kernel
theorem dX9_isWord_1 : decode cX9_isWord 1 = .ok (.getfield 274, 3) := by decide +kernel
theorem dX9_isWord_4 : decode cX9_isWord 4 = .ok (.iconst 1, 1) := by decide +kernel
theorem dX9_isWord_5 : decode cX9_isWord 5 = .ok (.if_icmp .ne 16, 3) := by decide +kernel
theorem dX9_isWord_8 : decode cX9_isWord 8 = .ok (.aload_n 0, 1) := by decide +kernel
theorem dX9_isWord_9 : decode cX9_isWord 9 = .ok (.getfield 264, 3) := by decide +kernel
theorem dX9_isWord_12 : decode cX9_isWord 12 = .ok (.lload_n 1, 1) := by decide +kernel
theorem dX9_isWord_13 : decode cX9_isWord 13 = .ok (.lcmp, 1) := by decide +kernel
theorem dX9_isWord_14 : decode cX9_isWord 14 = .ok (.ifCond .ne 7, 3) := by decide +kernel
theorem dX9_isWord_17 : decode cX9_isWord 17 = .ok (.iconst 1, 1) := by decide +kernel
theorem dX9_isWord_18 : decode cX9_isWord 18 = .ok (.goto 4, 3) := by decide +kernel
theorem dX9_isWord_21 : decode cX9_isWord 21 = .ok (.iconst 0, 1) := by decide +kernel
theorem dX9_isWord_22 : decode cX9_isWord 22 = .ok (.ireturn, 1) := by decide +kernel
theorem dX9_isSign_0 : decode cX9_isSign 0 = .ok (.aload_n 0, 1) := by decide +kernel
theorem dX9_isSign_1 : decode cX9_isSign 1 = .ok (.getfield 274, 3) := by decide +kernel
theorem dX9_isSign_4 : decode cX9_isSign 4 = .ok (.iconst 3, 1) := by decide +kernel
theorem dX9_isSign_5 : decode cX9_isSign 5 = .ok (.if_icmp .ne 17, 3) := by decide +kernel
theorem dX9_isSign_8 : decode cX9_isSign 8 = .ok (.aload_n 0, 1) := by decide +kernel
theorem dX9_isSign_9 : decode cX9_isSign 9 = .ok (.getfield 264, 3) := by decide +kernel
theorem dX9_isSign_12 : decode cX9_isSign 12 = .ok (.iload_n 1, 1) := by decide +kernel
theorem dX9_isSign_13 : decode cX9_isSign 13 = .ok (.i2l, 1) := by decide +kernel
theorem dX9_isSign_14 : decode cX9_isSign 14 = .ok (.lcmp, 1) := by decide +kernel
theorem dX9_isSign_15 : decode cX9_isSign 15 = .ok (.ifCond .ne 7, 3) := by decide +kernel
theorem dX9_isSign_18 : decode cX9_isSign 18 = .ok (.iconst 1, 1) := by decide +kernel
theorem dX9_isSign_19 : decode cX9_isSign 19 = .ok (.goto 4, 3) := by decide +kernel
theorem dX9_isSign_22 : decode cX9_isSign 22 = .ok (.iconst 0, 1) := by decide +kernel
theorem dX9_isSign_23 : decode cX9_isSign 23 = .ok (.ireturn, 1) := by decide +kernel
theorem dX9_must_0 : decode cX9_must 0 = .ok (.aload_n 0, 1) := by decide +kernel
theorem dX9_must_1 : decode cX9_must 1 = .ok (.getfield 254, 3) := by decide +kernel
theorem dX9_must_4 : decode cX9_must 4 = .ok (.ifCond .ne 20, 3) := by decide +kernel
theorem dX9_must_7 : decode cX9_must 7 = .ok (.iload_n 1, 1) := by decide +kernel
theorem dX9_must_8 : decode cX9_must 8 = .ok (.ifCond .ne 16, 3) := by decide +kernel
theorem dX9_must_11 : decode cX9_must 11 = .ok (.aload_n 0, 1) := by decide +kernel
theorem dX9_must_12 : decode cX9_must 12 = .ok (.iconst 1, 1) := by decide +kernel
theorem dX9_must_13 : decode cX9_must 13 = .ok (.putfield 254, 3) := by decide +kernel
theorem dX9_must_16 : decode cX9_must 16 = .ok (.aload_n 0, 1) := by decide +kernel
theorem dX9_must_17 : decode cX9_must 17 = .ok (.aload_n 0, 1) := by decide +kernel
theorem dX9_must_18 : decode cX9_must 18 = .ok (.getfield 261, 3) := by decide +kernel
theorem dX9_must_21 : decode cX9_must 21 = .ok (.putfield 38, 3) := by decide +kernel
theorem dX9_must_24 : decode cX9_must 24 = .ok (.aload_n 0, 1) := by decide +kernel
theorem dX9_must_25 : decode cX9_must 25 = .ok (.getfield 254, 3) := by decide +kernel
theorem dX9_must_28 : decode cX9_must 28 = .ok (.ifCond .ne 7, 3) := by decide +kernel
theorem dX9_must_31 : decode cX9_must 31 = .ok (.aload_n 0, 1) := by decide +kernel
theorem dX9_must_32 : decode cX9_must 32 = .ok (.invokevirtual 258, 3) := by decide +kernel
theorem dX9_must_35 : decode cX9_must 35 = .ok (.return_, 1) := by decide +kernel
theorem dX9_number_0 : decode cX9_number 0 = .ok (.aload_n 0, 1) := by decide +kernel
theorem dX9_number_1 : decode cX9_number 1 = .ok (.getfield 264, 3) := by decide +kernel
theorem dX9_number_4 : decode cX9_number 4 = .ok (.l2i, 1) := by decide +kernel
theorem dX9_number_5 : decode cX9_number 5 = .ok (.istore 5, 2) := by decide +kernel
theorem dX9_number_7 : decode cX9_number 7 = .ok (.aload_n 0, 1) := by decide +kernel
theorem dX9_number_8 : decode cX9_number 8 = .ok (.aload_n 0, 1) := by decide +kernel
theorem dX9_number_9 : decode cX9_number 9 = .ok (.getfield 274, 3) := by decide +kernel
theorem dX9_number_12 : decode cX9_number 12 = .ok (.iconst 2, 1) := by decide +kernel
theorem dX9_number_13 : decode cX9_number 13 = .ok (.if_icmp .ne 19, 3) := by decide +kernel
theorem dX9_number_16 : decode cX9_number 16 = .ok (.aload_n 0, 1) := by decide +kernel
theorem dX9_number_17 : decode cX9_number 17 = .ok (.getfield 264, 3) := by decide +kernel
theorem dX9_number_20 : decode cX9_number 20 = .ok (.lload_n 1, 1) := by decide +kernel
theorem dX9_number_21 : decode cX9_number 21 = .ok (.lload_n 3, 1) := by decide +kernel
theorem dX9_number_22 : decode cX9_number 22 = .ok (.invokestatic 181, 3) := by decide +kernel
theorem dX9_number_25 : decode cX9_number 25 = .ok (.ifCond .eq 7, 3) := by decide +kernel
theorem dX9_number_28 : decode cX9_number 28 = .ok (.iconst 1, 1) := by decide +kernel
theorem dX9_number_29 : decode cX9_number 29 = .ok (.goto 4, 3) := by decide +kernel
theorem dX9_number_32 : decode cX9_number 32 = .ok (.iconst 0, 1) := by decide +kernel
theorem dX9_number_33 : decode cX9_number 33 = .ok (.invokevirtual 287, 3) := by decide +kernel
theorem dX9_number_36 : decode cX9_number 36 = .ok (.iload 5, 2) := by decide +kernel
theorem dX9_number_38 : decode cX9_number 38 = .ok (.ireturn, 1) := by decide +kernel
theorem dX9_fault_0 : decode cX9_fault 0 = .ok (.aload_n 0, 1) := by decide +kernel
theorem dX9_fault_1 : decode cX9_fault 1 = .ok (.iconst 0, 1) := by decide +kernel
theorem dX9_fault_2 : decode cX9_fault 2 = .ok (.putfield 161, 3) := by decide +kernel
theorem dX9_fault_5 : decode cX9_fault 5 = .ok (.aload_n 0, 1) := by decide +kernel
theorem dX9_fault_6 : decode cX9_fault 6 = .ok (.getfield 38, 3) := by decide +kernel
theorem dX9_fault_9 : decode cX9_fault 9 = .ok (.ireturn, 1) := by decide +kernel
theorem dX9_emit_0 : decode cX9_emit 0 = .ok (.aload_n 0, 1) := by decide +kernel
theorem dX9_emit_1 : decode cX9_emit 1 = .ok (.getfield 45, 3) := by decide +kernel
theorem dX9_emit_4 : decode cX9_emit 4 = .ok (.aload_n 0, 1) := by decide +kernel
theorem dX9_emit_5 : decode cX9_emit 5 = .ok (.getfield 291, 3) := by decide +kernel
theorem dX9_emit_8 : decode cX9_emit 8 = .ok (.iload_n 1, 1) := by decide +kernel
theorem dX9_emit_9 : decode cX9_emit 9 = .ok (.iastore, 1) := by decide +kernel
theorem dX9_emit_10 : decode cX9_emit 10 = .ok (.aload_n 0, 1) := by decide +kernel
theorem dX9_emit_11 : decode cX9_emit 11 = .ok (.getfield 48, 3) := by decide +kernel
theorem dX9_emit_14 : decode cX9_emit 14 = .ok (.aload_n 0, 1) := by decide +kernel
theorem dX9_emit_15 : decode cX9_emit 15 = .ok (.getfield 291, 3) := by decide +kernel
theorem dX9_emit_18 : decode cX9_emit 18 = .ok (.iload_n 2, 1) := by decide +kernel
theorem dX9_emit_19 : decode cX9_emit 19 = .ok (.iastore, 1) := by decide +kernel
theorem dX9_emit_20 : decode cX9_emit 20 = .ok (.aload_n 0, 1) := by decide +kernel
theorem dX9_emit_21 : decode cX9_emit 21 = .ok (.dup, 1) := by decide +kernel
theorem dX9_emit_22 : decode cX9_emit 22 = .ok (.getfield 291, 3) := by decide +kernel
theorem dX9_emit_25 : decode cX9_emit 25 = .ok (.iconst 1, 1) := by decide +kernel
theorem dX9_emit_26 : decode cX9_emit 26 = .ok (.iadd, 1) := by decide +kernel
theorem dX9_emit_27 : decode cX9_emit 27 = .ok (.putfield 291, 3) := by decide +kernel
theorem dX9_emit_30 : decode cX9_emit 30 = .ok (.return_, 1) := by decide +kernel
theorem dX9_push_0 : decode cX9_push 0 = .ok (.aload_n 0, 1) := by decide +kernel
theorem dX9_push_1 : decode cX9_push 1 = .ok (.getfield 51, 3) := by decide +kernel
theorem dX9_push_4 : decode cX9_push 4 = .ok (.aload_n 0, 1) := by decide +kernel
theorem dX9_push_5 : decode cX9_push 5 = .ok (.getfield 294, 3) := by decide +kernel
theorem dX9_push_8 : decode cX9_push 8 = .ok (.iload_n 1, 1) := by decide +kernel
theorem dX9_push_9 : decode cX9_push 9 = .ok (.iastore, 1) := by decide +kernel
theorem dX9_push_10 : decode cX9_push 10 = .ok (.aload_n 0, 1) := by decide +kernel
theorem dX9_push_11 : decode cX9_push 11 = .ok (.getfield 54, 3) := by decide +kernel
theorem dX9_push_14 : decode cX9_push 14 = .ok (.aload_n 0, 1) := by decide +kernel
theorem dX9_push_15 : decode cX9_push 15 = .ok (.getfield 294, 3) := by decide +kernel
theorem dX9_push_18 : decode cX9_push 18 = .ok (.iload_n 2, 1) := by decide +kernel
theorem dX9_push_19 : decode cX9_push 19 = .ok (.iastore, 1) := by decide +kernel
theorem dX9_push_20 : decode cX9_push 20 = .ok (.aload_n 0, 1) := by decide +kernel
theorem dX9_push_21 : decode cX9_push 21 = .ok (.dup, 1) := by decide +kernel
theorem dX9_push_22 : decode cX9_push 22 = .ok (.getfield 294, 3) := by decide +kernel
theorem dX9_push_25 : decode cX9_push 25 = .ok (.iconst 1, 1) := by decide +kernel
theorem dX9_push_26 : decode cX9_push 26 = .ok (.iadd, 1) := by decide +kernel
theorem dX9_push_27 : decode cX9_push 27 = .ok (.putfield 294, 3) := by decide +kernel
theorem dX9_push_30 : decode cX9_push 30 = .ok (.return_, 1) := by decide +kernel
theorem dX9_binds_0 : decode cX9_binds 0 = .ok (.iload_n 0, 1) := by decide +kernel
theorem dX9_binds_1 : decode cX9_binds 1 = .ok (.bipush 31, 2) := by decide +kernel
theorem dX9_binds_3 : decode cX9_binds 3 = .ok (.if_icmp .lt 7, 3) := by decide +kernel
theorem dX9_binds_6 : decode cX9_binds 6 = .ok (.iconst 0, 1) := by decide +kernel
theorem dX9_binds_7 : decode cX9_binds 7 = .ok (.goto 55, 3) := by decide +kernel
theorem dX9_binds_10 : decode cX9_binds 10 = .ok (.iload_n 0, 1) := by decide +kernel
theorem dX9_binds_11 : decode cX9_binds 11 = .ok (.bipush 30, 2) := by decide +kernel
theorem dX9_binds_13 : decode cX9_binds 13 = .ok (.if_icmp .ne 7, 3) := by decide +kernel
theorem dX9_binds_16 : decode cX9_binds 16 = .ok (.iconst 1, 1) := by decide +kernel
theorem dX9_binds_17 : decode cX9_binds 17 = .ok (.goto 45, 3) := by decide +kernel
theorem dX9_binds_20 : decode cX9_binds 20 = .ok (.iload_n 0, 1) := by decide +kernel
theorem dX9_binds_21 : decode cX9_binds 21 = .ok (.bipush 29, 2) := by decide +kernel
theorem dX9_binds_23 : decode cX9_binds 23 = .ok (.if_icmp .ne 7, 3) := by decide +kernel
theorem dX9_binds_26 : decode cX9_binds 26 = .ok (.iconst 2, 1) := by decide +kernel
theorem dX9_binds_27 : decode cX9_binds 27 = .ok (.goto 35, 3) := by decide +kernel
theorem dX9_binds_30 : decode cX9_binds 30 = .ok (.iload_n 0, 1) := by decide +kernel
theorem dX9_binds_31 : decode cX9_binds 31 = .ok (.bipush 28, 2) := by decide +kernel
theorem dX9_binds_33 : decode cX9_binds 33 = .ok (.if_icmp .ne 7, 3) := by decide +kernel
theorem dX9_binds_36 : decode cX9_binds 36 = .ok (.iconst 3, 1) := by decide +kernel
theorem dX9_binds_37 : decode cX9_binds 37 = .ok (.goto 25, 3) := by decide +kernel
theorem dX9_binds_40 : decode cX9_binds 40 = .ok (.iload_n 0, 1) := by decide +kernel
theorem dX9_binds_41 : decode cX9_binds 41 = .ok (.bipush 25, 2) := by decide +kernel
theorem dX9_binds_43 : decode cX9_binds 43 = .ok (.if_icmp .lt 7, 3) := by decide +kernel
theorem dX9_binds_46 : decode cX9_binds 46 = .ok (.iconst 4, 1) := by decide +kernel
theorem dX9_binds_47 : decode cX9_binds 47 = .ok (.goto 15, 3) := by decide +kernel
theorem dX9_binds_50 : decode cX9_binds 50 = .ok (.iload_n 0, 1) := by decide +kernel
theorem dX9_binds_51 : decode cX9_binds 51 = .ok (.bipush 22, 2) := by decide +kernel
theorem dX9_binds_53 : decode cX9_binds 53 = .ok (.if_icmp .lt 8, 3) := by decide +kernel
theorem dX9_binds_56 : decode cX9_binds 56 = .ok (.bipush 6, 2) := by decide +kernel
theorem dX9_binds_58 : decode cX9_binds 58 = .ok (.goto 4, 3) := by decide +kernel
theorem dX9_binds_61 : decode cX9_binds 61 = .ok (.iconst 5, 1) := by decide +kernel
theorem dX9_binds_62 : decode cX9_binds 62 = .ok (.ireturn, 1) := by decide +kernel
theorem dX9_settle_0 : decode cX9_settle 0 = .ok (.aload_n 0, 1) := by decide +kernel
theorem dX9_settle_1 : decode cX9_settle 1 = .ok (.getfield 294, 3) := by decide +kernel
theorem dX9_settle_4 : decode cX9_settle 4 = .ok (.ifCond .le 97, 3) := by decide +kernel
theorem dX9_settle_7 : decode cX9_settle 7 = .ok (.aload_n 0, 1) := by decide +kernel
theorem dX9_settle_8 : decode cX9_settle 8 = .ok (.getfield 51, 3) := by decide +kernel
theorem dX9_settle_11 : decode cX9_settle 11 = .ok (.aload_n 0, 1) := by decide +kernel
theorem dX9_settle_12 : decode cX9_settle 12 = .ok (.getfield 294, 3) := by decide +kernel
theorem dX9_settle_15 : decode cX9_settle 15 = .ok (.iconst 1, 1) := by decide +kernel
theorem dX9_settle_16 : decode cX9_settle 16 = .ok (.isub, 1) := by decide +kernel
theorem dX9_settle_17 : decode cX9_settle 17 = .ok (.iaload, 1) := by decide +kernel
theorem dX9_settle_18 : decode cX9_settle 18 = .ok (.invokestatic 297, 3) := by decide +kernel
theorem dX9_settle_21 : decode cX9_settle 21 = .ok (.iload_n 1, 1) := by decide +kernel
theorem dX9_settle_22 : decode cX9_settle 22 = .ok (.if_icmp .lt 79, 3) := by decide +kernel
theorem dX9_settle_25 : decode cX9_settle 25 = .ok (.aload_n 0, 1) := by decide +kernel
theorem dX9_settle_26 : decode cX9_settle 26 = .ok (.dup, 1) := by decide +kernel
theorem dX9_settle_27 : decode cX9_settle 27 = .ok (.getfield 294, 3) := by decide +kernel
theorem dX9_settle_30 : decode cX9_settle 30 = .ok (.iconst 1, 1) := by decide +kernel
theorem dX9_settle_31 : decode cX9_settle 31 = .ok (.isub, 1) := by decide +kernel
theorem dX9_settle_32 : decode cX9_settle 32 = .ok (.putfield 294, 3) := by decide +kernel
theorem dX9_settle_35 : decode cX9_settle 35 = .ok (.aload_n 0, 1) := by decide +kernel
theorem dX9_settle_36 : decode cX9_settle 36 = .ok (.getfield 51, 3) := by decide +kernel
theorem dX9_settle_39 : decode cX9_settle 39 = .ok (.aload_n 0, 1) := by decide +kernel
theorem dX9_settle_40 : decode cX9_settle 40 = .ok (.getfield 294, 3) := by decide +kernel
theorem dX9_settle_43 : decode cX9_settle 43 = .ok (.iaload, 1) := by decide +kernel
theorem dX9_settle_44 : decode cX9_settle 44 = .ok (.bipush 29, 2) := by decide +kernel
theorem dX9_settle_46 : decode cX9_settle 46 = .ok (.if_icmp .eq 17, 3) := by decide +kernel
theorem dX9_settle_49 : decode cX9_settle 49 = .ok (.aload_n 0, 1) := by decide +kernel
theorem dX9_settle_50 : decode cX9_settle 50 = .ok (.getfield 51, 3) := by decide +kernel
theorem dX9_settle_53 : decode cX9_settle 53 = .ok (.aload_n 0, 1) := by decide +kernel
theorem dX9_settle_54 : decode cX9_settle 54 = .ok (.getfield 294, 3) := by decide +kernel
theorem dX9_settle_57 : decode cX9_settle 57 = .ok (.iaload, 1) := by decide +kernel
theorem dX9_settle_58 : decode cX9_settle 58 = .ok (.bipush 30, 2) := by decide +kernel
theorem dX9_settle_60 : decode cX9_settle 60 = .ok (.if_icmp .ne 24, 3) := by decide +kernel
theorem dX9_settle_63 : decode cX9_settle 63 = .ok (.aload_n 0, 1) := by decide +kernel
theorem dX9_settle_64 : decode cX9_settle 64 = .ok (.getfield 48, 3) := by decide +kernel
theorem dX9_settle_67 : decode cX9_settle 67 = .ok (.aload_n 0, 1) := by decide +kernel
theorem dX9_settle_68 : decode cX9_settle 68 = .ok (.getfield 54, 3) := by decide +kernel
theorem dX9_settle_71 : decode cX9_settle 71 = .ok (.aload_n 0, 1) := by decide +kernel
theorem dX9_settle_72 : decode cX9_settle 72 = .ok (.getfield 294, 3) := by decide +kernel
theorem dX9_settle_75 : decode cX9_settle 75 = .ok (.iaload, 1) := by decide +kernel
theorem dX9_settle_76 : decode cX9_settle 76 = .ok (.aload_n 0, 1) := by decide +kernel
theorem dX9_settle_77 : decode cX9_settle 77 = .ok (.getfield 291, 3) := by decide +kernel
theorem dX9_settle_80 : decode cX9_settle 80 = .ok (.iastore, 1) := by decide +kernel
theorem dX9_settle_81 : decode cX9_settle 81 = .ok (.goto (-81), 3) := by decide +kernel
theorem dX9_settle_84 : decode cX9_settle 84 = .ok (.aload_n 0, 1) := by decide +kernel
theorem dX9_settle_85 : decode cX9_settle 85 = .ok (.aload_n 0, 1) := by decide +kernel
theorem dX9_settle_86 : decode cX9_settle 86 = .ok (.getfield 51, 3) := by decide +kernel
theorem dX9_settle_89 : decode cX9_settle 89 = .ok (.aload_n 0, 1) := by decide +kernel
theorem dX9_settle_90 : decode cX9_settle 90 = .ok (.getfield 294, 3) := by decide +kernel
theorem dX9_settle_93 : decode cX9_settle 93 = .ok (.iaload, 1) := by decide +kernel
theorem dX9_settle_94 : decode cX9_settle 94 = .ok (.iconst 0, 1) := by decide +kernel
theorem dX9_settle_95 : decode cX9_settle 95 = .ok (.invokevirtual 300, 3) := by decide +kernel
theorem dX9_settle_98 : decode cX9_settle 98 = .ok (.goto (-98), 3) := by decide +kernel
theorem dX9_settle_101 : decode cX9_settle 101 = .ok (.return_, 1) := by decide +kernel
theorem dX9_inner_0 : decode cX9_inner 0 = .ok (.iconst (-1), 1) := by decide +kernel
theorem dX9_inner_1 : decode cX9_inner 1 = .ok (.istore_n 1, 1) := by decide +kernel
theorem dX9_inner_2 : decode cX9_inner 2 = .ok (.iconst 0, 1) := by decide +kernel
theorem dX9_inner_3 : decode cX9_inner 3 = .ok (.istore_n 2, 1) := by decide +kernel
theorem dX9_inner_4 : decode cX9_inner 4 = .ok (.iload_n 2, 1) := by decide +kernel
theorem dX9_inner_5 : decode cX9_inner 5 = .ok (.aload_n 0, 1) := by decide +kernel
theorem dX9_inner_6 : decode cX9_inner 6 = .ok (.getfield 294, 3) := by decide +kernel
theorem dX9_inner_9 : decode cX9_inner 9 = .ok (.if_icmp .ge 31, 3) := by decide +kernel
theorem dX9_inner_12 : decode cX9_inner 12 = .ok (.aload_n 0, 1) := by decide +kernel
theorem dX9_inner_13 : decode cX9_inner 13 = .ok (.getfield 51, 3) := by decide +kernel
theorem dX9_inner_16 : decode cX9_inner 16 = .ok (.iload_n 2, 1) := by decide +kernel
theorem dX9_inner_17 : decode cX9_inner 17 = .ok (.iaload, 1) := by decide +kernel
theorem dX9_inner_18 : decode cX9_inner 18 = .ok (.bipush 31, 2) := by decide +kernel
theorem dX9_inner_20 : decode cX9_inner 20 = .ok (.if_icmp .lt 12, 3) := by decide +kernel
theorem dX9_inner_23 : decode cX9_inner 23 = .ok (.aload_n 0, 1) := by decide +kernel
theorem dX9_inner_24 : decode cX9_inner 24 = .ok (.getfield 51, 3) := by decide +kernel
theorem dX9_inner_27 : decode cX9_inner 27 = .ok (.iload_n 2, 1) := by decide +kernel
theorem dX9_inner_28 : decode cX9_inner 28 = .ok (.iaload, 1) := by decide +kernel
theorem dX9_inner_29 : decode cX9_inner 29 = .ok (.goto 4, 3) := by decide +kernel
theorem dX9_inner_32 : decode cX9_inner 32 = .ok (.iload_n 1, 1) := by decide +kernel
theorem dX9_inner_33 : decode cX9_inner 33 = .ok (.istore_n 1, 1) := by decide +kernel
theorem dX9_inner_34 : decode cX9_inner 34 = .ok (.iinc 2 1, 3) := by decide +kernel
theorem dX9_inner_37 : decode cX9_inner 37 = .ok (.goto (-33), 3) := by decide +kernel
theorem dX9_inner_40 : decode cX9_inner 40 = .ok (.iload_n 1, 1) := by decide +kernel
theorem dX9_inner_41 : decode cX9_inner 41 = .ok (.ireturn, 1) := by decide +kernel
theorem dX9_isCompared_0 : decode cX9_isCompared 0 = .ok (.aload_n 0, 1) := by decide +kernel
theorem dX9_isCompared_1 : decode cX9_isCompared 1 = .ok (.getfield 294, 3) := by decide +kernel
theorem dX9_isCompared_4 : decode cX9_isCompared 4 = .ok (.iconst 1, 1) := by decide +kernel
theorem dX9_isCompared_5 : decode cX9_isCompared 5 = .ok (.isub, 1) := by decide +kernel
theorem dX9_isCompared_6 : decode cX9_isCompared 6 = .ok (.istore_n 1, 1) := by decide +kernel
theorem dX9_isCompared_7 : decode cX9_isCompared 7 = .ok (.iload_n 1, 1) := by decide +kernel
theorem dX9_isCompared_8 : decode cX9_isCompared 8 = .ok (.ifCond .lt 28, 3) := by decide +kernel
theorem dX9_isCompared_11 : decode cX9_isCompared 11 = .ok (.aload_n 0, 1) := by decide +kernel
theorem dX9_isCompared_12 : decode cX9_isCompared 12 = .ok (.getfield 51, 3) := by decide +kernel
theorem dX9_isCompared_15 : decode cX9_isCompared 15 = .ok (.iload_n 1, 1) := by decide +kernel
theorem dX9_isCompared_16 : decode cX9_isCompared 16 = .ok (.iaload, 1) := by decide +kernel
theorem dX9_isCompared_17 : decode cX9_isCompared 17 = .ok (.i2l, 1) := by decide +kernel
theorem dX9_isCompared_18 : decode cX9_isCompared 18 = .ok (.ldc2_w 304, 3) := by decide +kernel
theorem dX9_isCompared_21 : decode cX9_isCompared 21 = .ok (.ldc2_w 306, 3) := by decide +kernel
theorem dX9_isCompared_24 : decode cX9_isCompared 24 = .ok (.invokestatic 181, 3) := by decide +kernel
theorem dX9_isCompared_27 : decode cX9_isCompared 27 = .ok (.ifCond .eq 9, 3) := by decide +kernel
theorem dX9_isCompared_30 : decode cX9_isCompared 30 = .ok (.iinc 1 (-1), 3) := by decide +kernel
theorem dX9_isCompared_33 : decode cX9_isCompared 33 = .ok (.goto (-26), 3) := by decide +kernel
theorem dX9_isCompared_36 : decode cX9_isCompared 36 = .ok (.iload_n 1, 1) := by decide +kernel
theorem dX9_isCompared_37 : decode cX9_isCompared 37 = .ok (.ifCond .lt 26, 3) := by decide +kernel
theorem dX9_isCompared_40 : decode cX9_isCompared 40 = .ok (.aload_n 0, 1) := by decide +kernel
theorem dX9_isCompared_41 : decode cX9_isCompared 41 = .ok (.getfield 51, 3) := by decide +kernel
theorem dX9_isCompared_44 : decode cX9_isCompared 44 = .ok (.iload_n 1, 1) := by decide +kernel
theorem dX9_isCompared_45 : decode cX9_isCompared 45 = .ok (.iaload, 1) := by decide +kernel
theorem dX9_isCompared_46 : decode cX9_isCompared 46 = .ok (.i2l, 1) := by decide +kernel
theorem dX9_isCompared_47 : decode cX9_isCompared 47 = .ok (.ldc2_w 308, 3) := by decide +kernel
theorem dX9_isCompared_50 : decode cX9_isCompared 50 = .ok (.ldc2_w 310, 3) := by decide +kernel
theorem dX9_isCompared_53 : decode cX9_isCompared 53 = .ok (.invokestatic 181, 3) := by decide +kernel
theorem dX9_isCompared_56 : decode cX9_isCompared 56 = .ok (.ifCond .eq 7, 3) := by decide +kernel
theorem dX9_isCompared_59 : decode cX9_isCompared 59 = .ok (.iconst 1, 1) := by decide +kernel
theorem dX9_isCompared_60 : decode cX9_isCompared 60 = .ok (.goto 4, 3) := by decide +kernel
theorem dX9_isCompared_63 : decode cX9_isCompared 63 = .ok (.iconst 0, 1) := by decide +kernel
theorem dX9_isCompared_64 : decode cX9_isCompared 64 = .ok (.ireturn, 1) := by decide +kernel
theorem dX9_partAt_0 : decode cX9_partAt 0 = .ok (.iconst (-1), 1) := by decide +kernel
theorem dX9_partAt_1 : decode cX9_partAt 1 = .ok (.istore_n 1, 1) := by decide +kernel
theorem dX9_partAt_2 : decode cX9_partAt 2 = .ok (.iconst 0, 1) := by decide +kernel
theorem dX9_partAt_3 : decode cX9_partAt 3 = .ok (.istore_n 2, 1) := by decide +kernel
theorem dX9_partAt_4 : decode cX9_partAt 4 = .ok (.iload_n 2, 1) := by decide +kernel
theorem dX9_partAt_5 : decode cX9_partAt 5 = .ok (.bipush 9, 2) := by decide +kernel
theorem dX9_partAt_7 : decode cX9_partAt 7 = .ok (.if_icmp .ge 30, 3) := by decide +kernel
theorem dX9_partAt_10 : decode cX9_partAt 10 = .ok (.aload_n 0, 1) := by decide +kernel
theorem dX9_partAt_11 : decode cX9_partAt 11 = .ok (.aload_n 0, 1) := by decide +kernel
theorem dX9_partAt_12 : decode cX9_partAt 12 = .ok (.getfield 75, 3) := by decide +kernel
theorem dX9_partAt_15 : decode cX9_partAt 15 = .ok (.iload_n 2, 1) := by decide +kernel
theorem dX9_partAt_16 : decode cX9_partAt 16 = .ok (.laload, 1) := by decide +kernel
theorem dX9_partAt_17 : decode cX9_partAt 17 = .ok (.invokevirtual 312, 3) := by decide +kernel
theorem dX9_partAt_20 : decode cX9_partAt 20 = .ok (.ifCond .eq 9, 3) := by decide +kernel
theorem dX9_partAt_23 : decode cX9_partAt 23 = .ok (.iload_n 2, 1) := by decide +kernel
theorem dX9_partAt_24 : decode cX9_partAt 24 = .ok (.iconst 1, 1) := by decide +kernel
theorem dX9_partAt_25 : decode cX9_partAt 25 = .ok (.iadd, 1) := by decide +kernel
theorem dX9_partAt_26 : decode cX9_partAt 26 = .ok (.goto 4, 3) := by decide +kernel
theorem dX9_partAt_29 : decode cX9_partAt 29 = .ok (.iload_n 1, 1) := by decide +kernel
theorem dX9_partAt_30 : decode cX9_partAt 30 = .ok (.istore_n 1, 1) := by decide +kernel
theorem dX9_partAt_31 : decode cX9_partAt 31 = .ok (.iinc 2 1, 3) := by decide +kernel
theorem dX9_partAt_34 : decode cX9_partAt 34 = .ok (.goto (-30), 3) := by decide +kernel
theorem dX9_partAt_37 : decode cX9_partAt 37 = .ok (.iload_n 1, 1) := by decide +kernel
theorem dX9_partAt_38 : decode cX9_partAt 38 = .ok (.ireturn, 1) := by decide +kernel
theorem dX9_orderPartAt_0 : decode cX9_orderPartAt 0 = .ok (.iconst (-1), 1) := by decide +kernel
theorem dX9_orderPartAt_1 : decode cX9_orderPartAt 1 = .ok (.istore_n 1, 1) := by decide +kernel
theorem dX9_orderPartAt_2 : decode cX9_orderPartAt 2 = .ok (.iconst 0, 1) := by decide +kernel
theorem dX9_orderPartAt_3 : decode cX9_orderPartAt 3 = .ok (.istore_n 2, 1) := by decide +kernel
theorem dX9_orderPartAt_4 : decode cX9_orderPartAt 4 = .ok (.iload_n 2, 1) := by decide +kernel
theorem dX9_orderPartAt_5 : decode cX9_orderPartAt 5 = .ok (.bipush 8, 2) := by decide +kernel
theorem dX9_orderPartAt_7 : decode cX9_orderPartAt 7 = .ok (.if_icmp .ge 30, 3) := by decide +kernel
theorem dX9_orderPartAt_10 : decode cX9_orderPartAt 10 = .ok (.aload_n 0, 1) := by decide +kernel
theorem dX9_orderPartAt_11 : decode cX9_orderPartAt 11 = .ok (.aload_n 0, 1) := by decide +kernel
theorem dX9_orderPartAt_12 : decode cX9_orderPartAt 12 = .ok (.getfield 89, 3) := by decide +kernel
theorem dX9_orderPartAt_15 : decode cX9_orderPartAt 15 = .ok (.iload_n 2, 1) := by decide +kernel
theorem dX9_orderPartAt_16 : decode cX9_orderPartAt 16 = .ok (.laload, 1) := by decide +kernel
theorem dX9_orderPartAt_17 : decode cX9_orderPartAt 17 = .ok (.invokevirtual 312, 3) := by decide +kernel
theorem dX9_orderPartAt_20 : decode cX9_orderPartAt 20 = .ok (.ifCond .eq 9, 3) := by decide +kernel
theorem dX9_orderPartAt_23 : decode cX9_orderPartAt 23 = .ok (.iload_n 2, 1) := by decide +kernel
theorem dX9_orderPartAt_24 : decode cX9_orderPartAt 24 = .ok (.iconst 1, 1) := by decide +kernel
theorem dX9_orderPartAt_25 : decode cX9_orderPartAt 25 = .ok (.iadd, 1) := by decide +kernel
theorem dX9_orderPartAt_26 : decode cX9_orderPartAt 26 = .ok (.goto 4, 3) := by decide +kernel
theorem dX9_orderPartAt_29 : decode cX9_orderPartAt 29 = .ok (.iload_n 1, 1) := by decide +kernel
theorem dX9_orderPartAt_30 : decode cX9_orderPartAt 30 = .ok (.istore_n 1, 1) := by decide +kernel
theorem dX9_orderPartAt_31 : decode cX9_orderPartAt 31 = .ok (.iinc 2 1, 3) := by decide +kernel
theorem dX9_orderPartAt_34 : decode cX9_orderPartAt 34 = .ok (.goto (-30), 3) := by decide +kernel
theorem dX9_orderPartAt_37 : decode cX9_orderPartAt 37 = .ok (.iload_n 1, 1) := by decide +kernel
theorem dX9_orderPartAt_38 : decode cX9_orderPartAt 38 = .ok (.ireturn, 1) := by decide +kernel
theorem dX9_openBracket_0 : decode cX9_openBracket 0 = .ok (.aload_n 0, 1) := by decide +kernel
theorem dX9_openBracket_1 : decode cX9_openBracket 1 = .ok (.aload_n 0, 1) := by decide +kernel
theorem dX9_openBracket_2 : decode cX9_openBracket 2 = .ok (.getfield 315, 3) := by decide +kernel
theorem dX9_openBracket_5 : decode cX9_openBracket 5 = .ok (.bipush 8, 2) := by decide +kernel
theorem dX9_openBracket_7 : decode cX9_openBracket 7 = .ok (.if_icmp .ge 7, 3) := by decide +kernel
theorem dX9_openBracket_10 : decode cX9_openBracket 10 = .ok (.iconst 1, 1) := by decide +kernel
theorem dX9_openBracket_11 : decode cX9_openBracket 11 = .ok (.goto 4, 3) := by decide +kernel
theorem dX9_openBracket_14 : decode cX9_openBracket 14 = .ok (.iconst 0, 1) := by decide +kernel
theorem dX9_openBracket_15 : decode cX9_openBracket 15 = .ok (.invokevirtual 287, 3) := by decide +kernel
theorem dX9_openBracket_18 : decode cX9_openBracket 18 = .ok (.aload_n 0, 1) := by decide +kernel
theorem dX9_openBracket_19 : decode cX9_openBracket 19 = .ok (.getfield 254, 3) := by decide +kernel
theorem dX9_openBracket_22 : decode cX9_openBracket 22 = .ok (.ifCond .ne 19, 3) := by decide +kernel
theorem dX9_openBracket_25 : decode cX9_openBracket 25 = .ok (.aload_n 0, 1) := by decide +kernel
theorem dX9_openBracket_26 : decode cX9_openBracket 26 = .ok (.dup, 1) := by decide +kernel
theorem dX9_openBracket_27 : decode cX9_openBracket 27 = .ok (.getfield 315, 3) := by decide +kernel
theorem dX9_openBracket_30 : decode cX9_openBracket 30 = .ok (.iconst 1, 1) := by decide +kernel
theorem dX9_openBracket_31 : decode cX9_openBracket 31 = .ok (.iadd, 1) := by decide +kernel
theorem dX9_openBracket_32 : decode cX9_openBracket 32 = .ok (.putfield 315, 3) := by decide +kernel
theorem dX9_openBracket_35 : decode cX9_openBracket 35 = .ok (.aload_n 0, 1) := by decide +kernel
theorem dX9_openBracket_36 : decode cX9_openBracket 36 = .ok (.iload_n 1, 1) := by decide +kernel
theorem dX9_openBracket_37 : decode cX9_openBracket 37 = .ok (.iconst 0, 1) := by decide +kernel
theorem dX9_openBracket_38 : decode cX9_openBracket 38 = .ok (.invokevirtual 318, 3) := by decide +kernel
theorem dX9_openBracket_41 : decode cX9_openBracket 41 = .ok (.return_, 1) := by decide +kernel
theorem dX9_leaf_0 : decode cX9_leaf 0 = .ok (.aload_n 0, 1) := by decide +kernel
theorem dX9_leaf_1 : decode cX9_leaf 1 = .ok (.iload_n 1, 1) := by decide +kernel
theorem dX9_leaf_2 : decode cX9_leaf 2 = .ok (.ifCond .eq 16, 3) := by decide +kernel
theorem dX9_leaf_5 : decode cX9_leaf 5 = .ok (.aload_n 0, 1) := by decide +kernel
theorem dX9_leaf_6 : decode cX9_leaf 6 = .ok (.getfield 321, 3) := by decide +kernel
theorem dX9_leaf_9 : decode cX9_leaf 9 = .ok (.bipush 50, 2) := by decide +kernel
theorem dX9_leaf_11 : decode cX9_leaf 11 = .ok (.if_icmp .ge 7, 3) := by decide +kernel
theorem dX9_leaf_14 : decode cX9_leaf 14 = .ok (.iconst 1, 1) := by decide +kernel
theorem dX9_leaf_15 : decode cX9_leaf 15 = .ok (.goto 4, 3) := by decide +kernel
theorem dX9_leaf_18 : decode cX9_leaf 18 = .ok (.iconst 0, 1) := by decide +kernel
theorem dX9_leaf_19 : decode cX9_leaf 19 = .ok (.invokevirtual 287, 3) := by decide +kernel
theorem dX9_leaf_22 : decode cX9_leaf 22 = .ok (.aload_n 0, 1) := by decide +kernel
theorem dX9_leaf_23 : decode cX9_leaf 23 = .ok (.getfield 254, 3) := by decide +kernel
theorem dX9_leaf_26 : decode cX9_leaf 26 = .ok (.ifCond .ne 19, 3) := by decide +kernel
theorem dX9_leaf_29 : decode cX9_leaf 29 = .ok (.aload_n 0, 1) := by decide +kernel
theorem dX9_leaf_30 : decode cX9_leaf 30 = .ok (.iload_n 2, 1) := by decide +kernel
theorem dX9_leaf_31 : decode cX9_leaf 31 = .ok (.iload_n 3, 1) := by decide +kernel
theorem dX9_leaf_32 : decode cX9_leaf 32 = .ok (.invokevirtual 300, 3) := by decide +kernel
theorem dX9_leaf_35 : decode cX9_leaf 35 = .ok (.aload_n 0, 1) := by decide +kernel
theorem dX9_leaf_36 : decode cX9_leaf 36 = .ok (.dup, 1) := by decide +kernel
theorem dX9_leaf_37 : decode cX9_leaf 37 = .ok (.getfield 321, 3) := by decide +kernel
theorem dX9_leaf_40 : decode cX9_leaf 40 = .ok (.iconst 1, 1) := by decide +kernel
theorem dX9_leaf_41 : decode cX9_leaf 41 = .ok (.iadd, 1) := by decide +kernel
theorem dX9_leaf_42 : decode cX9_leaf 42 = .ok (.putfield 321, 3) := by decide +kernel
theorem dX9_leaf_45 : decode cX9_leaf 45 = .ok (.return_, 1) := by decide +kernel
theorem dX9_readPart_0 : decode cX9_readPart 0 = .ok (.aload_n 0, 1) := by decide +kernel
theorem dX9_readPart_1 : decode cX9_readPart 1 = .ok (.bipush 91, 2) := by decide +kernel
theorem dX9_readPart_3 : decode cX9_readPart 3 = .ok (.invokevirtual 324, 3) := by decide +kernel
theorem dX9_readPart_6 : decode cX9_readPart 6 = .ok (.ifCond .eq 11, 3) := by decide +kernel
theorem dX9_readPart_9 : decode cX9_readPart 9 = .ok (.aload_n 0, 1) := by decide +kernel
theorem dX9_readPart_10 : decode cX9_readPart 10 = .ok (.bipush 32, 2) := by decide +kernel
theorem dX9_readPart_12 : decode cX9_readPart 12 = .ok (.invokevirtual 327, 3) := by decide +kernel
theorem dX9_readPart_15 : decode cX9_readPart 15 = .ok (.iconst 1, 1) := by decide +kernel
theorem dX9_readPart_16 : decode cX9_readPart 16 = .ok (.ireturn, 1) := by decide +kernel
theorem dX9_readPart_17 : decode cX9_readPart 17 = .ok (.aload_n 0, 1) := by decide +kernel
theorem dX9_readPart_18 : decode cX9_readPart 18 = .ok (.getfield 330, 3) := by decide +kernel
theorem dX9_readPart_21 : decode cX9_readPart 21 = .ok (.ifCond .eq 10, 3) := by decide +kernel
theorem dX9_readPart_24 : decode cX9_readPart 24 = .ok (.aload_n 0, 1) := by decide +kernel
theorem dX9_readPart_25 : decode cX9_readPart 25 = .ok (.invokevirtual 333, 3) := by decide +kernel
theorem dX9_readPart_28 : decode cX9_readPart 28 = .ok (.goto 7, 3) := by decide +kernel
theorem dX9_readPart_31 : decode cX9_readPart 31 = .ok (.aload_n 0, 1) := by decide +kernel
theorem dX9_readPart_32 : decode cX9_readPart 32 = .ok (.invokevirtual 337, 3) := by decide +kernel
theorem dX9_readPart_35 : decode cX9_readPart 35 = .ok (.istore_n 1, 1) := by decide +kernel
theorem dX9_readPart_36 : decode cX9_readPart 36 = .ok (.aload_n 0, 1) := by decide +kernel
theorem dX9_readPart_37 : decode cX9_readPart 37 = .ok (.getfield 274, 3) := by decide +kernel
theorem dX9_readPart_40 : decode cX9_readPart 40 = .ok (.iconst 2, 1) := by decide +kernel
theorem dX9_readPart_41 : decode cX9_readPart 41 = .ok (.if_icmp .ne 18, 3) := by decide +kernel
theorem dX9_readPart_44 : decode cX9_readPart 44 = .ok (.aload_n 0, 1) := by decide +kernel
theorem dX9_readPart_45 : decode cX9_readPart 45 = .ok (.getfield 264, 3) := by decide +kernel
theorem dX9_readPart_48 : decode cX9_readPart 48 = .ok (.ldc2_w 340, 3) := by decide +kernel
theorem dX9_readPart_51 : decode cX9_readPart 51 = .ok (.lcmp, 1) := by decide +kernel
theorem dX9_readPart_52 : decode cX9_readPart 52 = .ok (.ifCond .gt 7, 3) := by decide +kernel
theorem dX9_readPart_55 : decode cX9_readPart 55 = .ok (.iconst 1, 1) := by decide +kernel
theorem dX9_readPart_56 : decode cX9_readPart 56 = .ok (.goto 4, 3) := by decide +kernel
theorem dX9_readPart_59 : decode cX9_readPart 59 = .ok (.iconst 0, 1) := by decide +kernel
theorem dX9_readPart_60 : decode cX9_readPart 60 = .ok (.istore_n 2, 1) := by decide +kernel
theorem dX9_readPart_61 : decode cX9_readPart 61 = .ok (.aload_n 0, 1) := by decide +kernel
theorem dX9_readPart_62 : decode cX9_readPart 62 = .ok (.iload_n 1, 1) := by decide +kernel
theorem dX9_readPart_63 : decode cX9_readPart 63 = .ok (.iconst (-1), 1) := by decide +kernel
theorem dX9_readPart_64 : decode cX9_readPart 64 = .ok (.if_icmp .ne 7, 3) := by decide +kernel
theorem dX9_readPart_67 : decode cX9_readPart 67 = .ok (.iload_n 2, 1) := by decide +kernel
theorem dX9_readPart_68 : decode cX9_readPart 68 = .ok (.ifCond .eq 7, 3) := by decide +kernel
theorem dX9_readPart_71 : decode cX9_readPart 71 = .ok (.iconst 1, 1) := by decide +kernel
theorem dX9_readPart_72 : decode cX9_readPart 72 = .ok (.goto 4, 3) := by decide +kernel
theorem dX9_readPart_75 : decode cX9_readPart 75 = .ok (.iconst 0, 1) := by decide +kernel
theorem dX9_readPart_76 : decode cX9_readPart 76 = .ok (.iload_n 1, 1) := by decide +kernel
theorem dX9_readPart_77 : decode cX9_readPart 77 = .ok (.iconst (-1), 1) := by decide +kernel
theorem dX9_readPart_78 : decode cX9_readPart 78 = .ok (.if_icmp .ne 7, 3) := by decide +kernel
theorem dX9_readPart_81 : decode cX9_readPart 81 = .ok (.iconst 0, 1) := by decide +kernel
theorem dX9_readPart_82 : decode cX9_readPart 82 = .ok (.goto 4, 3) := by decide +kernel
theorem dX9_readPart_85 : decode cX9_readPart 85 = .ok (.iload_n 1, 1) := by decide +kernel
theorem dX9_readPart_86 : decode cX9_readPart 86 = .ok (.iload_n 2, 1) := by decide +kernel
theorem dX9_readPart_87 : decode cX9_readPart 87 = .ok (.ifCond .eq 11, 3) := by decide +kernel
theorem dX9_readPart_90 : decode cX9_readPart 90 = .ok (.aload_n 0, 1) := by decide +kernel
theorem dX9_readPart_91 : decode cX9_readPart 91 = .ok (.getfield 264, 3) := by decide +kernel
theorem dX9_readPart_94 : decode cX9_readPart 94 = .ok (.l2i, 1) := by decide +kernel
theorem dX9_readPart_95 : decode cX9_readPart 95 = .ok (.goto 4, 3) := by decide +kernel
theorem dX9_readPart_98 : decode cX9_readPart 98 = .ok (.iconst 0, 1) := by decide +kernel
theorem dX9_readPart_99 : decode cX9_readPart 99 = .ok (.invokevirtual 342, 3) := by decide +kernel
theorem dX9_readPart_102 : decode cX9_readPart 102 = .ok (.aload_n 0, 1) := by decide +kernel
theorem dX9_readPart_103 : decode cX9_readPart 103 = .ok (.getfield 330, 3) := by decide +kernel
theorem dX9_readPart_106 : decode cX9_readPart 106 = .ok (.ifCond .eq 61, 3) := by decide +kernel
theorem dX9_readPart_109 : decode cX9_readPart 109 = .ok (.iload_n 1, 1) := by decide +kernel
theorem dX9_readPart_110 : decode cX9_readPart 110 = .ok (.bipush 6, 2) := by decide +kernel
theorem dX9_readPart_112 : decode cX9_readPart 112 = .ok (.if_icmp .lt 55, 3) := by decide +kernel
theorem dX9_readPart_115 : decode cX9_readPart 115 = .ok (.aload_n 0, 1) := by decide +kernel
theorem dX9_readPart_116 : decode cX9_readPart 116 = .ok (.getfield 254, 3) := by decide +kernel
theorem dX9_readPart_119 : decode cX9_readPart 119 = .ok (.ifCond .ne 48, 3) := by decide +kernel
theorem dX9_readPart_122 : decode cX9_readPart 122 = .ok (.aload_n 0, 1) := by decide +kernel
theorem dX9_readPart_123 : decode cX9_readPart 123 = .ok (.getfield 291, 3) := by decide +kernel
theorem dX9_readPart_126 : decode cX9_readPart 126 = .ok (.iconst 1, 1) := by decide +kernel
theorem dX9_readPart_127 : decode cX9_readPart 127 = .ok (.isub, 1) := by decide +kernel
theorem dX9_readPart_128 : decode cX9_readPart 128 = .ok (.istore_n 3, 1) := by decide +kernel
theorem dX9_readPart_129 : decode cX9_readPart 129 = .ok (.aload_n 0, 1) := by decide +kernel
theorem dX9_readPart_130 : decode cX9_readPart 130 = .ok (.getfield 48, 3) := by decide +kernel
theorem dX9_readPart_133 : decode cX9_readPart 133 = .ok (.iload_n 3, 1) := by decide +kernel
theorem dX9_readPart_134 : decode cX9_readPart 134 = .ok (.aload_n 0, 1) := by decide +kernel
theorem dX9_readPart_135 : decode cX9_readPart 135 = .ok (.lconst 0, 1) := by decide +kernel
theorem dX9_readPart_136 : decode cX9_readPart 136 = .ok (.iload_n 1, 1) := by decide +kernel
theorem dX9_readPart_137 : decode cX9_readPart 137 = .ok (.bipush 6, 2) := by decide +kernel
theorem dX9_readPart_139 : decode cX9_readPart 139 = .ok (.if_icmp .ne 9, 3) := by decide +kernel
theorem dX9_readPart_142 : decode cX9_readPart 142 = .ok (.ldc2_w 203, 3) := by decide +kernel
theorem dX9_readPart_145 : decode cX9_readPart 145 = .ok (.goto 18, 3) := by decide +kernel
theorem dX9_readPart_148 : decode cX9_readPart 148 = .ok (.iload_n 1, 1) := by decide +kernel
theorem dX9_readPart_149 : decode cX9_readPart 149 = .ok (.bipush 7, 2) := by decide +kernel
theorem dX9_readPart_151 : decode cX9_readPart 151 = .ok (.if_icmp .ne 9, 3) := by decide +kernel
theorem dX9_readPart_154 : decode cX9_readPart 154 = .ok (.ldc2_w 346, 3) := by decide +kernel
theorem dX9_readPart_157 : decode cX9_readPart 157 = .ok (.goto 6, 3) := by decide +kernel
theorem dX9_readPart_160 : decode cX9_readPart 160 = .ok (.ldc2_w 188, 3) := by decide +kernel
theorem dX9_readPart_163 : decode cX9_readPart 163 = .ok (.invokevirtual 348, 3) := by decide +kernel
theorem dX9_readPart_166 : decode cX9_readPart 166 = .ok (.iastore, 1) := by decide +kernel
theorem dX9_readPart_167 : decode cX9_readPart 167 = .ok (.iconst 3, 1) := by decide +kernel
theorem dX9_readPart_168 : decode cX9_readPart 168 = .ok (.ireturn, 1) := by decide +kernel
theorem dX9_readPlain_0 : decode cX9_readPlain 0 = .ok (.aload_n 0, 1) := by decide +kernel
theorem dX9_readPlain_1 : decode cX9_readPlain 1 = .ok (.ldc2_w 352, 3) := by decide +kernel
theorem dX9_readPlain_4 : decode cX9_readPlain 4 = .ok (.invokevirtual 312, 3) := by decide +kernel
theorem dX9_readPlain_7 : decode cX9_readPlain 7 = .ok (.ifCond .eq 16, 3) := by decide +kernel
theorem dX9_readPlain_10 : decode cX9_readPlain 10 = .ok (.aload_n 0, 1) := by decide +kernel
theorem dX9_readPlain_11 : decode cX9_readPlain 11 = .ok (.bipush 28, 2) := by decide +kernel
theorem dX9_readPlain_13 : decode cX9_readPlain 13 = .ok (.iconst 0, 1) := by decide +kernel
theorem dX9_readPlain_14 : decode cX9_readPlain 14 = .ok (.invokevirtual 318, 3) := by decide +kernel
theorem dX9_readPlain_17 : decode cX9_readPlain 17 = .ok (.aload_n 0, 1) := by decide +kernel
theorem dX9_readPlain_18 : decode cX9_readPlain 18 = .ok (.invokevirtual 258, 3) := by decide +kernel
theorem dX9_readPlain_21 : decode cX9_readPlain 21 = .ok (.iconst 0, 1) := by decide +kernel
theorem dX9_readPlain_22 : decode cX9_readPlain 22 = .ok (.ireturn, 1) := by decide +kernel
theorem dX9_readPlain_23 : decode cX9_readPlain 23 = .ok (.aload_n 0, 1) := by decide +kernel
theorem dX9_readPlain_24 : decode cX9_readPlain 24 = .ok (.bipush 40, 2) := by decide +kernel
theorem dX9_readPlain_26 : decode cX9_readPlain 26 = .ok (.invokevirtual 324, 3) := by decide +kernel
theorem dX9_readPlain_29 : decode cX9_readPlain 29 = .ok (.ifCond .eq 11, 3) := by decide +kernel
theorem dX9_readPlain_32 : decode cX9_readPlain 32 = .ok (.aload_n 0, 1) := by decide +kernel
theorem dX9_readPlain_33 : decode cX9_readPlain 33 = .ok (.bipush 31, 2) := by decide +kernel
theorem dX9_readPlain_35 : decode cX9_readPlain 35 = .ok (.invokevirtual 327, 3) := by decide +kernel
theorem dX9_readPlain_38 : decode cX9_readPlain 38 = .ok (.iconst 0, 1) := by decide +kernel
theorem dX9_readPlain_39 : decode cX9_readPlain 39 = .ok (.ireturn, 1) := by decide +kernel
theorem dX9_readPlain_40 : decode cX9_readPlain 40 = .ok (.aload_n 0, 1) := by decide +kernel
theorem dX9_readPlain_41 : decode cX9_readPlain 41 = .ok (.invokevirtual 354, 3) := by decide +kernel
theorem dX9_readPlain_44 : decode cX9_readPlain 44 = .ok (.ireturn, 1) := by decide +kernel
theorem dX9_behindSum_0 : decode cX9_behindSum 0 = .ok (.aload_n 0, 1) := by decide +kernel
theorem dX9_behindSum_1 : decode cX9_behindSum 1 = .ok (.bipush 43, 2) := by decide +kernel
theorem dX9_behindSum_3 : decode cX9_behindSum 3 = .ok (.invokevirtual 324, 3) := by decide +kernel
theorem dX9_behindSum_6 : decode cX9_behindSum 6 = .ok (.ifCond .eq 8, 3) := by decide +kernel
theorem dX9_behindSum_9 : decode cX9_behindSum 9 = .ok (.bipush 20, 2) := by decide +kernel
theorem dX9_behindSum_11 : decode cX9_behindSum 11 = .ok (.goto 60, 3) := by decide +kernel
theorem dX9_behindSum_14 : decode cX9_behindSum 14 = .ok (.aload_n 0, 1) := by decide +kernel
theorem dX9_behindSum_15 : decode cX9_behindSum 15 = .ok (.bipush 45, 2) := by decide +kernel
theorem dX9_behindSum_17 : decode cX9_behindSum 17 = .ok (.invokevirtual 324, 3) := by decide +kernel
theorem dX9_behindSum_20 : decode cX9_behindSum 20 = .ok (.ifCond .eq 8, 3) := by decide +kernel
theorem dX9_behindSum_23 : decode cX9_behindSum 23 = .ok (.bipush 21, 2) := by decide +kernel
theorem dX9_behindSum_25 : decode cX9_behindSum 25 = .ok (.goto 46, 3) := by decide +kernel
theorem dX9_behindSum_28 : decode cX9_behindSum 28 = .ok (.aload_n 0, 1) := by decide +kernel
theorem dX9_behindSum_29 : decode cX9_behindSum 29 = .ok (.bipush 42, 2) := by decide +kernel
theorem dX9_behindSum_31 : decode cX9_behindSum 31 = .ok (.invokevirtual 324, 3) := by decide +kernel
theorem dX9_behindSum_34 : decode cX9_behindSum 34 = .ok (.ifCond .eq 8, 3) := by decide +kernel
theorem dX9_behindSum_37 : decode cX9_behindSum 37 = .ok (.bipush 22, 2) := by decide +kernel
theorem dX9_behindSum_39 : decode cX9_behindSum 39 = .ok (.goto 32, 3) := by decide +kernel
theorem dX9_behindSum_42 : decode cX9_behindSum 42 = .ok (.aload_n 0, 1) := by decide +kernel
theorem dX9_behindSum_43 : decode cX9_behindSum 43 = .ok (.bipush 47, 2) := by decide +kernel
theorem dX9_behindSum_45 : decode cX9_behindSum 45 = .ok (.invokevirtual 324, 3) := by decide +kernel
theorem dX9_behindSum_48 : decode cX9_behindSum 48 = .ok (.ifCond .eq 8, 3) := by decide +kernel
theorem dX9_behindSum_51 : decode cX9_behindSum 51 = .ok (.bipush 23, 2) := by decide +kernel
theorem dX9_behindSum_53 : decode cX9_behindSum 53 = .ok (.goto 18, 3) := by decide +kernel
theorem dX9_behindSum_56 : decode cX9_behindSum 56 = .ok (.aload_n 0, 1) := by decide +kernel
theorem dX9_behindSum_57 : decode cX9_behindSum 57 = .ok (.bipush 37, 2) := by decide +kernel
theorem dX9_behindSum_59 : decode cX9_behindSum 59 = .ok (.invokevirtual 324, 3) := by decide +kernel
theorem dX9_behindSum_62 : decode cX9_behindSum 62 = .ok (.ifCond .eq 8, 3) := by decide +kernel
theorem dX9_behindSum_65 : decode cX9_behindSum 65 = .ok (.bipush 24, 2) := by decide +kernel
theorem dX9_behindSum_67 : decode cX9_behindSum 67 = .ok (.goto 4, 3) := by decide +kernel
theorem dX9_behindSum_70 : decode cX9_behindSum 70 = .ok (.iconst (-1), 1) := by decide +kernel
theorem dX9_behindSum_71 : decode cX9_behindSum 71 = .ok (.istore_n 2, 1) := by decide +kernel
theorem dX9_behindSum_72 : decode cX9_behindSum 72 = .ok (.iload_n 2, 1) := by decide +kernel
theorem dX9_behindSum_73 : decode cX9_behindSum 73 = .ok (.iconst (-1), 1) := by decide +kernel
theorem dX9_behindSum_74 : decode cX9_behindSum 74 = .ok (.if_icmp .eq 23, 3) := by decide +kernel
theorem dX9_behindSum_77 : decode cX9_behindSum 77 = .ok (.aload_n 0, 1) := by decide +kernel
theorem dX9_behindSum_78 : decode cX9_behindSum 78 = .ok (.iload_n 2, 1) := by decide +kernel
theorem dX9_behindSum_79 : decode cX9_behindSum 79 = .ok (.invokestatic 297, 3) := by decide +kernel
theorem dX9_behindSum_82 : decode cX9_behindSum 82 = .ok (.invokevirtual 357, 3) := by decide +kernel
theorem dX9_behindSum_85 : decode cX9_behindSum 85 = .ok (.aload_n 0, 1) := by decide +kernel
theorem dX9_behindSum_86 : decode cX9_behindSum 86 = .ok (.iload_n 2, 1) := by decide +kernel
theorem dX9_behindSum_87 : decode cX9_behindSum 87 = .ok (.iconst 0, 1) := by decide +kernel
theorem dX9_behindSum_88 : decode cX9_behindSum 88 = .ok (.invokevirtual 318, 3) := by decide +kernel
theorem dX9_behindSum_91 : decode cX9_behindSum 91 = .ok (.aload_n 0, 1) := by decide +kernel
theorem dX9_behindSum_92 : decode cX9_behindSum 92 = .ok (.invokevirtual 258, 3) := by decide +kernel
theorem dX9_behindSum_95 : decode cX9_behindSum 95 = .ok (.iconst 1, 1) := by decide +kernel
theorem dX9_behindSum_96 : decode cX9_behindSum 96 = .ok (.ireturn, 1) := by decide +kernel
theorem dX9_behindSum_97 : decode cX9_behindSum 97 = .ok (.aload_n 0, 1) := by decide +kernel
theorem dX9_behindSum_98 : decode cX9_behindSum 98 = .ok (.invokevirtual 360, 3) := by decide +kernel
theorem dX9_behindSum_101 : decode cX9_behindSum 101 = .ok (.istore_n 3, 1) := by decide +kernel
theorem dX9_behindSum_102 : decode cX9_behindSum 102 = .ok (.iload_n 3, 1) := by decide +kernel
theorem dX9_behindSum_103 : decode cX9_behindSum 103 = .ok (.bipush 32, 2) := by decide +kernel
theorem dX9_behindSum_105 : decode cX9_behindSum 105 = .ok (.if_icmp .ne 47, 3) := by decide +kernel
theorem dX9_behindSum_108 : decode cX9_behindSum 108 = .ok (.aload_n 0, 1) := by decide +kernel
theorem dX9_behindSum_109 : decode cX9_behindSum 109 = .ok (.aload_n 0, 1) := by decide +kernel
theorem dX9_behindSum_110 : decode cX9_behindSum 110 = .ok (.bipush 93, 2) := by decide +kernel
theorem dX9_behindSum_112 : decode cX9_behindSum 112 = .ok (.invokevirtual 324, 3) := by decide +kernel
theorem dX9_behindSum_115 : decode cX9_behindSum 115 = .ok (.invokevirtual 287, 3) := by decide +kernel
theorem dX9_behindSum_118 : decode cX9_behindSum 118 = .ok (.aload_n 0, 1) := by decide +kernel
theorem dX9_behindSum_119 : decode cX9_behindSum 119 = .ok (.getfield 254, 3) := by decide +kernel
theorem dX9_behindSum_122 : decode cX9_behindSum 122 = .ok (.ifCond .ne 28, 3) := by decide +kernel
theorem dX9_behindSum_125 : decode cX9_behindSum 125 = .ok (.aload_n 0, 1) := by decide +kernel
theorem dX9_behindSum_126 : decode cX9_behindSum 126 = .ok (.iconst 5, 1) := by decide +kernel
theorem dX9_behindSum_127 : decode cX9_behindSum 127 = .ok (.invokevirtual 357, 3) := by decide +kernel
theorem dX9_behindSum_130 : decode cX9_behindSum 130 = .ok (.aload_n 0, 1) := by decide +kernel
theorem dX9_behindSum_131 : decode cX9_behindSum 131 = .ok (.dup, 1) := by decide +kernel
theorem dX9_behindSum_132 : decode cX9_behindSum 132 = .ok (.getfield 294, 3) := by decide +kernel
theorem dX9_behindSum_135 : decode cX9_behindSum 135 = .ok (.iconst 1, 1) := by decide +kernel
theorem dX9_behindSum_136 : decode cX9_behindSum 136 = .ok (.isub, 1) := by decide +kernel
theorem dX9_behindSum_137 : decode cX9_behindSum 137 = .ok (.putfield 294, 3) := by decide +kernel
theorem dX9_behindSum_140 : decode cX9_behindSum 140 = .ok (.aload_n 0, 1) := by decide +kernel
theorem dX9_behindSum_141 : decode cX9_behindSum 141 = .ok (.dup, 1) := by decide +kernel
theorem dX9_behindSum_142 : decode cX9_behindSum 142 = .ok (.getfield 315, 3) := by decide +kernel
theorem dX9_behindSum_145 : decode cX9_behindSum 145 = .ok (.iconst 1, 1) := by decide +kernel
theorem dX9_behindSum_146 : decode cX9_behindSum 146 = .ok (.isub, 1) := by decide +kernel
theorem dX9_behindSum_147 : decode cX9_behindSum 147 = .ok (.putfield 315, 3) := by decide +kernel
theorem dX9_behindSum_150 : decode cX9_behindSum 150 = .ok (.iconst 3, 1) := by decide +kernel
theorem dX9_behindSum_151 : decode cX9_behindSum 151 = .ok (.ireturn, 1) := by decide +kernel
theorem dX9_behindSum_152 : decode cX9_behindSum 152 = .ok (.iload_n 3, 1) := by decide +kernel
theorem dX9_behindSum_153 : decode cX9_behindSum 153 = .ok (.iconst (-1), 1) := by decide +kernel
theorem dX9_behindSum_154 : decode cX9_behindSum 154 = .ok (.if_icmp .ne 9, 3) := by decide +kernel
theorem dX9_behindSum_157 : decode cX9_behindSum 157 = .ok (.iload_n 1, 1) := by decide +kernel
theorem dX9_behindSum_158 : decode cX9_behindSum 158 = .ok (.ifCond .ne 5, 3) := by decide +kernel
theorem dX9_behindSum_161 : decode cX9_behindSum 161 = .ok (.iconst 4, 1) := by decide +kernel
theorem dX9_behindSum_162 : decode cX9_behindSum 162 = .ok (.ireturn, 1) := by decide +kernel
theorem dX9_behindSum_163 : decode cX9_behindSum 163 = .ok (.aload_n 0, 1) := by decide +kernel
theorem dX9_behindSum_164 : decode cX9_behindSum 164 = .ok (.invokevirtual 363, 3) := by decide +kernel
theorem dX9_behindSum_167 : decode cX9_behindSum 167 = .ok (.ifCond .eq 5, 3) := by decide +kernel
theorem dX9_behindSum_170 : decode cX9_behindSum 170 = .ok (.iconst 2, 1) := by decide +kernel
theorem dX9_behindSum_171 : decode cX9_behindSum 171 = .ok (.ireturn, 1) := by decide +kernel
theorem dX9_behindSum_172 : decode cX9_behindSum 172 = .ok (.aload_n 0, 1) := by decide +kernel
theorem dX9_behindSum_173 : decode cX9_behindSum 173 = .ok (.bipush 60, 2) := by decide +kernel
theorem dX9_behindSum_175 : decode cX9_behindSum 175 = .ok (.invokevirtual 324, 3) := by decide +kernel
theorem dX9_behindSum_178 : decode cX9_behindSum 178 = .ok (.ifCond .eq 8, 3) := by decide +kernel
theorem dX9_behindSum_181 : decode cX9_behindSum 181 = .ok (.bipush 25, 2) := by decide +kernel
theorem dX9_behindSum_183 : decode cX9_behindSum 183 = .ok (.goto 19, 3) := by decide +kernel
theorem dX9_behindSum_186 : decode cX9_behindSum 186 = .ok (.aload_n 0, 1) := by decide +kernel
theorem dX9_behindSum_187 : decode cX9_behindSum 187 = .ok (.bipush 62, 2) := by decide +kernel
theorem dX9_behindSum_189 : decode cX9_behindSum 189 = .ok (.invokevirtual 324, 3) := by decide +kernel
theorem dX9_behindSum_192 : decode cX9_behindSum 192 = .ok (.ifCond .eq 8, 3) := by decide +kernel
theorem dX9_behindSum_195 : decode cX9_behindSum 195 = .ok (.bipush 26, 2) := by decide +kernel
theorem dX9_behindSum_197 : decode cX9_behindSum 197 = .ok (.goto 5, 3) := by decide +kernel
theorem dX9_behindSum_200 : decode cX9_behindSum 200 = .ok (.bipush 27, 2) := by decide +kernel
theorem dX9_behindSum_202 : decode cX9_behindSum 202 = .ok (.istore_n 2, 1) := by decide +kernel
theorem dX9_behindSum_203 : decode cX9_behindSum 203 = .ok (.aload_n 0, 1) := by decide +kernel
theorem dX9_behindSum_204 : decode cX9_behindSum 204 = .ok (.iload_n 2, 1) := by decide +kernel
theorem dX9_behindSum_205 : decode cX9_behindSum 205 = .ok (.bipush 27, 2) := by decide +kernel
theorem dX9_behindSum_207 : decode cX9_behindSum 207 = .ok (.if_icmp .ne 12, 3) := by decide +kernel
theorem dX9_behindSum_210 : decode cX9_behindSum 210 = .ok (.aload_n 0, 1) := by decide +kernel
theorem dX9_behindSum_211 : decode cX9_behindSum 211 = .ok (.bipush 61, 2) := by decide +kernel
theorem dX9_behindSum_213 : decode cX9_behindSum 213 = .ok (.invokevirtual 324, 3) := by decide +kernel
theorem dX9_behindSum_216 : decode cX9_behindSum 216 = .ok (.ifCond .eq 7, 3) := by decide +kernel
theorem dX9_behindSum_219 : decode cX9_behindSum 219 = .ok (.iconst 1, 1) := by decide +kernel
theorem dX9_behindSum_220 : decode cX9_behindSum 220 = .ok (.goto 4, 3) := by decide +kernel
theorem dX9_behindSum_223 : decode cX9_behindSum 223 = .ok (.iconst 0, 1) := by decide +kernel
theorem dX9_behindSum_224 : decode cX9_behindSum 224 = .ok (.invokevirtual 287, 3) := by decide +kernel
theorem dX9_behindSum_227 : decode cX9_behindSum 227 = .ok (.aload_n 0, 1) := by decide +kernel
theorem dX9_behindSum_228 : decode cX9_behindSum 228 = .ok (.getfield 254, 3) := by decide +kernel
theorem dX9_behindSum_231 : decode cX9_behindSum 231 = .ok (.ifCond .ne 14, 3) := by decide +kernel
theorem dX9_behindSum_234 : decode cX9_behindSum 234 = .ok (.aload_n 0, 1) := by decide +kernel
theorem dX9_behindSum_235 : decode cX9_behindSum 235 = .ok (.iconst 5, 1) := by decide +kernel
theorem dX9_behindSum_236 : decode cX9_behindSum 236 = .ok (.invokevirtual 357, 3) := by decide +kernel
theorem dX9_behindSum_239 : decode cX9_behindSum 239 = .ok (.aload_n 0, 1) := by decide +kernel
theorem dX9_behindSum_240 : decode cX9_behindSum 240 = .ok (.iload_n 2, 1) := by decide +kernel
theorem dX9_behindSum_241 : decode cX9_behindSum 241 = .ok (.iconst 0, 1) := by decide +kernel
theorem dX9_behindSum_242 : decode cX9_behindSum 242 = .ok (.invokevirtual 318, 3) := by decide +kernel
theorem dX9_behindSum_245 : decode cX9_behindSum 245 = .ok (.iconst 1, 1) := by decide +kernel
theorem dX9_behindSum_246 : decode cX9_behindSum 246 = .ok (.ireturn, 1) := by decide +kernel
theorem dX9_behindTest_0 : decode cX9_behindTest 0 = .ok (.aload_n 0, 1) := by decide +kernel
theorem dX9_behindTest_1 : decode cX9_behindTest 1 = .ok (.ldc2_w 367, 3) := by decide +kernel
theorem dX9_behindTest_4 : decode cX9_behindTest 4 = .ok (.invokevirtual 312, 3) := by decide +kernel
theorem dX9_behindTest_7 : decode cX9_behindTest 7 = .ok (.istore_n 1, 1) := by decide +kernel
theorem dX9_behindTest_8 : decode cX9_behindTest 8 = .ok (.iload_n 1, 1) := by decide +kernel
theorem dX9_behindTest_9 : decode cX9_behindTest 9 = .ok (.ifCond .ne 13, 3) := by decide +kernel
theorem dX9_behindTest_12 : decode cX9_behindTest 12 = .ok (.aload_n 0, 1) := by decide +kernel
theorem dX9_behindTest_13 : decode cX9_behindTest 13 = .ok (.ldc2_w 369, 3) := by decide +kernel
theorem dX9_behindTest_16 : decode cX9_behindTest 16 = .ok (.invokevirtual 312, 3) := by decide +kernel
theorem dX9_behindTest_19 : decode cX9_behindTest 19 = .ok (.ifCond .eq 57, 3) := by decide +kernel
theorem dX9_behindTest_22 : decode cX9_behindTest 22 = .ok (.aload_n 0, 1) := by decide +kernel
theorem dX9_behindTest_23 : decode cX9_behindTest 23 = .ok (.iload_n 1, 1) := by decide +kernel
theorem dX9_behindTest_24 : decode cX9_behindTest 24 = .ok (.ifCond .eq 7, 3) := by decide +kernel
theorem dX9_behindTest_27 : decode cX9_behindTest 27 = .ok (.iconst 2, 1) := by decide +kernel
theorem dX9_behindTest_28 : decode cX9_behindTest 28 = .ok (.goto 4, 3) := by decide +kernel
theorem dX9_behindTest_31 : decode cX9_behindTest 31 = .ok (.iconst 1, 1) := by decide +kernel
theorem dX9_behindTest_32 : decode cX9_behindTest 32 = .ok (.invokevirtual 357, 3) := by decide +kernel
theorem dX9_behindTest_35 : decode cX9_behindTest 35 = .ok (.aload_n 0, 1) := by decide +kernel
theorem dX9_behindTest_36 : decode cX9_behindTest 36 = .ok (.iload_n 1, 1) := by decide +kernel
theorem dX9_behindTest_37 : decode cX9_behindTest 37 = .ok (.ifCond .eq 8, 3) := by decide +kernel
theorem dX9_behindTest_40 : decode cX9_behindTest 40 = .ok (.bipush 29, 2) := by decide +kernel
theorem dX9_behindTest_42 : decode cX9_behindTest 42 = .ok (.goto 5, 3) := by decide +kernel
theorem dX9_behindTest_45 : decode cX9_behindTest 45 = .ok (.bipush 30, 2) := by decide +kernel
theorem dX9_behindTest_47 : decode cX9_behindTest 47 = .ok (.aload_n 0, 1) := by decide +kernel
theorem dX9_behindTest_48 : decode cX9_behindTest 48 = .ok (.getfield 291, 3) := by decide +kernel
theorem dX9_behindTest_51 : decode cX9_behindTest 51 = .ok (.invokevirtual 318, 3) := by decide +kernel
theorem dX9_behindTest_54 : decode cX9_behindTest 54 = .ok (.aload_n 0, 1) := by decide +kernel
theorem dX9_behindTest_55 : decode cX9_behindTest 55 = .ok (.iload_n 1, 1) := by decide +kernel
theorem dX9_behindTest_56 : decode cX9_behindTest 56 = .ok (.ifCond .eq 8, 3) := by decide +kernel
theorem dX9_behindTest_59 : decode cX9_behindTest 59 = .ok (.bipush 29, 2) := by decide +kernel
theorem dX9_behindTest_61 : decode cX9_behindTest 61 = .ok (.goto 5, 3) := by decide +kernel
theorem dX9_behindTest_64 : decode cX9_behindTest 64 = .ok (.bipush 30, 2) := by decide +kernel
theorem dX9_behindTest_66 : decode cX9_behindTest 66 = .ok (.iconst 0, 1) := by decide +kernel
theorem dX9_behindTest_67 : decode cX9_behindTest 67 = .ok (.invokevirtual 300, 3) := by decide +kernel
theorem dX9_behindTest_70 : decode cX9_behindTest 70 = .ok (.aload_n 0, 1) := by decide +kernel
theorem dX9_behindTest_71 : decode cX9_behindTest 71 = .ok (.invokevirtual 258, 3) := by decide +kernel
theorem dX9_behindTest_74 : decode cX9_behindTest 74 = .ok (.iconst 0, 1) := by decide +kernel
theorem dX9_behindTest_75 : decode cX9_behindTest 75 = .ok (.ireturn, 1) := by decide +kernel
theorem dX9_behindTest_76 : decode cX9_behindTest 76 = .ok (.aload_n 0, 1) := by decide +kernel
theorem dX9_behindTest_77 : decode cX9_behindTest 77 = .ok (.invokevirtual 360, 3) := by decide +kernel
theorem dX9_behindTest_80 : decode cX9_behindTest 80 = .ok (.iconst (-1), 1) := by decide +kernel
theorem dX9_behindTest_81 : decode cX9_behindTest 81 = .ok (.if_icmp .ne 5, 3) := by decide +kernel
theorem dX9_behindTest_84 : decode cX9_behindTest 84 = .ok (.iconst 4, 1) := by decide +kernel
theorem dX9_behindTest_85 : decode cX9_behindTest 85 = .ok (.ireturn, 1) := by decide +kernel
theorem dX9_behindTest_86 : decode cX9_behindTest 86 = .ok (.aload_n 0, 1) := by decide +kernel
theorem dX9_behindTest_87 : decode cX9_behindTest 87 = .ok (.aload_n 0, 1) := by decide +kernel
theorem dX9_behindTest_88 : decode cX9_behindTest 88 = .ok (.bipush 41, 2) := by decide +kernel
theorem dX9_behindTest_90 : decode cX9_behindTest 90 = .ok (.invokevirtual 324, 3) := by decide +kernel
theorem dX9_behindTest_93 : decode cX9_behindTest 93 = .ok (.invokevirtual 287, 3) := by decide +kernel
theorem dX9_behindTest_96 : decode cX9_behindTest 96 = .ok (.aload_n 0, 1) := by decide +kernel
theorem dX9_behindTest_97 : decode cX9_behindTest 97 = .ok (.getfield 254, 3) := by decide +kernel
theorem dX9_behindTest_100 : decode cX9_behindTest 100 = .ok (.ifCond .ne 28, 3) := by decide +kernel
theorem dX9_behindTest_103 : decode cX9_behindTest 103 = .ok (.aload_n 0, 1) := by decide +kernel
theorem dX9_behindTest_104 : decode cX9_behindTest 104 = .ok (.iconst 1, 1) := by decide +kernel
theorem dX9_behindTest_105 : decode cX9_behindTest 105 = .ok (.invokevirtual 357, 3) := by decide +kernel
theorem dX9_behindTest_108 : decode cX9_behindTest 108 = .ok (.aload_n 0, 1) := by decide +kernel
theorem dX9_behindTest_109 : decode cX9_behindTest 109 = .ok (.dup, 1) := by decide +kernel
theorem dX9_behindTest_110 : decode cX9_behindTest 110 = .ok (.getfield 294, 3) := by decide +kernel
theorem dX9_behindTest_113 : decode cX9_behindTest 113 = .ok (.iconst 1, 1) := by decide +kernel
theorem dX9_behindTest_114 : decode cX9_behindTest 114 = .ok (.isub, 1) := by decide +kernel
theorem dX9_behindTest_115 : decode cX9_behindTest 115 = .ok (.putfield 294, 3) := by decide +kernel
theorem dX9_behindTest_118 : decode cX9_behindTest 118 = .ok (.aload_n 0, 1) := by decide +kernel
theorem dX9_behindTest_119 : decode cX9_behindTest 119 = .ok (.dup, 1) := by decide +kernel
theorem dX9_behindTest_120 : decode cX9_behindTest 120 = .ok (.getfield 315, 3) := by decide +kernel
theorem dX9_behindTest_123 : decode cX9_behindTest 123 = .ok (.iconst 1, 1) := by decide +kernel
theorem dX9_behindTest_124 : decode cX9_behindTest 124 = .ok (.isub, 1) := by decide +kernel
theorem dX9_behindTest_125 : decode cX9_behindTest 125 = .ok (.putfield 315, 3) := by decide +kernel
theorem dX9_behindTest_128 : decode cX9_behindTest 128 = .ok (.iconst 2, 1) := by decide +kernel
theorem dX9_behindTest_129 : decode cX9_behindTest 129 = .ok (.ireturn, 1) := by decide +kernel
theorem dX9_readExpression_0 : decode cX9_readExpression 0 = .ok (.aload_n 0, 1) := by decide +kernel
theorem dX9_readExpression_1 : decode cX9_readExpression 1 = .ok (.iconst 0, 1) := by decide +kernel
theorem dX9_readExpression_2 : decode cX9_readExpression 2 = .ok (.putfield 294, 3) := by decide +kernel
theorem dX9_readExpression_5 : decode cX9_readExpression 5 = .ok (.aload_n 0, 1) := by decide +kernel
theorem dX9_readExpression_6 : decode cX9_readExpression 6 = .ok (.iconst 0, 1) := by decide +kernel
theorem dX9_readExpression_7 : decode cX9_readExpression 7 = .ok (.putfield 315, 3) := by decide +kernel
theorem dX9_readExpression_10 : decode cX9_readExpression 10 = .ok (.iload_n 1, 1) := by decide +kernel
theorem dX9_readExpression_11 : decode cX9_readExpression 11 = .ok (.ifCond .eq 7, 3) := by decide +kernel
theorem dX9_readExpression_14 : decode cX9_readExpression 14 = .ok (.iconst 0, 1) := by decide +kernel
theorem dX9_readExpression_15 : decode cX9_readExpression 15 = .ok (.goto 4, 3) := by decide +kernel
theorem dX9_readExpression_18 : decode cX9_readExpression 18 = .ok (.iconst 1, 1) := by decide +kernel
theorem dX9_readExpression_19 : decode cX9_readExpression 19 = .ok (.istore_n 2, 1) := by decide +kernel
theorem dX9_readExpression_20 : decode cX9_readExpression 20 = .ok (.aload_n 0, 1) := by decide +kernel
theorem dX9_readExpression_21 : decode cX9_readExpression 21 = .ok (.getfield 254, 3) := by decide +kernel
theorem dX9_readExpression_24 : decode cX9_readExpression 24 = .ok (.ifCond .ne 52, 3) := by decide +kernel
theorem dX9_readExpression_27 : decode cX9_readExpression 27 = .ok (.iload_n 2, 1) := by decide +kernel
theorem dX9_readExpression_28 : decode cX9_readExpression 28 = .ok (.iconst 4, 1) := by decide +kernel
theorem dX9_readExpression_29 : decode cX9_readExpression 29 = .ok (.if_icmp .eq 47, 3) := by decide +kernel
theorem dX9_readExpression_32 : decode cX9_readExpression 32 = .ok (.iload_n 2, 1) := by decide +kernel
theorem dX9_readExpression_33 : decode cX9_readExpression 33 = .ok (.ifCond .ne 10, 3) := by decide +kernel
theorem dX9_readExpression_36 : decode cX9_readExpression 36 = .ok (.aload_n 0, 1) := by decide +kernel
theorem dX9_readExpression_37 : decode cX9_readExpression 37 = .ok (.invokevirtual 371, 3) := by decide +kernel
theorem dX9_readExpression_40 : decode cX9_readExpression 40 = .ok (.goto 32, 3) := by decide +kernel
theorem dX9_readExpression_43 : decode cX9_readExpression 43 = .ok (.iload_n 2, 1) := by decide +kernel
theorem dX9_readExpression_44 : decode cX9_readExpression 44 = .ok (.iconst 1, 1) := by decide +kernel
theorem dX9_readExpression_45 : decode cX9_readExpression 45 = .ok (.if_icmp .ne 10, 3) := by decide +kernel
theorem dX9_readExpression_48 : decode cX9_readExpression 48 = .ok (.aload_n 0, 1) := by decide +kernel
theorem dX9_readExpression_49 : decode cX9_readExpression 49 = .ok (.invokevirtual 354, 3) := by decide +kernel
theorem dX9_readExpression_52 : decode cX9_readExpression 52 = .ok (.goto 20, 3) := by decide +kernel
theorem dX9_readExpression_55 : decode cX9_readExpression 55 = .ok (.iload_n 2, 1) := by decide +kernel
theorem dX9_readExpression_56 : decode cX9_readExpression 56 = .ok (.iconst 3, 1) := by decide +kernel
theorem dX9_readExpression_57 : decode cX9_readExpression 57 = .ok (.if_icmp .ne 11, 3) := by decide +kernel
theorem dX9_readExpression_60 : decode cX9_readExpression 60 = .ok (.aload_n 0, 1) := by decide +kernel
theorem dX9_readExpression_61 : decode cX9_readExpression 61 = .ok (.iload_n 1, 1) := by decide +kernel
theorem dX9_readExpression_62 : decode cX9_readExpression 62 = .ok (.invokevirtual 374, 3) := by decide +kernel
theorem dX9_readExpression_65 : decode cX9_readExpression 65 = .ok (.goto 7, 3) := by decide +kernel
theorem dX9_readExpression_68 : decode cX9_readExpression 68 = .ok (.aload_n 0, 1) := by decide +kernel
theorem dX9_readExpression_69 : decode cX9_readExpression 69 = .ok (.invokevirtual 378, 3) := by decide +kernel
theorem dX9_readExpression_72 : decode cX9_readExpression 72 = .ok (.istore_n 2, 1) := by decide +kernel
theorem dX9_readExpression_73 : decode cX9_readExpression 73 = .ok (.goto (-53), 3) := by decide +kernel
theorem dX9_readExpression_76 : decode cX9_readExpression 76 = .ok (.aload_n 0, 1) := by decide +kernel
theorem dX9_readExpression_77 : decode cX9_readExpression 77 = .ok (.iconst 1, 1) := by decide +kernel
theorem dX9_readExpression_78 : decode cX9_readExpression 78 = .ok (.invokevirtual 357, 3) := by decide +kernel
theorem dX9_readExpression_81 : decode cX9_readExpression 81 = .ok (.return_, 1) := by decide +kernel
theorem dX9_beginText_0 : decode cX9_beginText 0 = .ok (.aload_n 0, 1) := by decide +kernel
theorem dX9_beginText_1 : decode cX9_beginText 1 = .ok (.iload_n 1, 1) := by decide +kernel
theorem dX9_beginText_2 : decode cX9_beginText 2 = .ok (.putfield 330, 3) := by decide +kernel
theorem dX9_beginText_5 : decode cX9_beginText 5 = .ok (.aload_n 0, 1) := by decide +kernel
theorem dX9_beginText_6 : decode cX9_beginText 6 = .ok (.invokevirtual 381, 3) := by decide +kernel
theorem dX9_beginText_9 : decode cX9_beginText 9 = .ok (.aload_n 0, 1) := by decide +kernel
theorem dX9_beginText_10 : decode cX9_beginText 10 = .ok (.iconst 0, 1) := by decide +kernel
theorem dX9_beginText_11 : decode cX9_beginText 11 = .ok (.putfield 384, 3) := by decide +kernel
theorem dX9_beginText_14 : decode cX9_beginText 14 = .ok (.aload_n 0, 1) := by decide +kernel
theorem dX9_beginText_15 : decode cX9_beginText 15 = .ok (.iconst 0, 1) := by decide +kernel
theorem dX9_beginText_16 : decode cX9_beginText 16 = .ok (.putfield 291, 3) := by decide +kernel
theorem dX9_beginText_19 : decode cX9_beginText 19 = .ok (.aload_n 0, 1) := by decide +kernel
theorem dX9_beginText_20 : decode cX9_beginText 20 = .ok (.iconst 0, 1) := by decide +kernel
theorem dX9_beginText_21 : decode cX9_beginText 21 = .ok (.putfield 321, 3) := by decide +kernel
theorem dX9_beginText_24 : decode cX9_beginText 24 = .ok (.return_, 1) := by decide +kernel
theorem dX9_endText_0 : decode cX9_endText 0 = .ok (.aload_n 0, 1) := by decide +kernel
theorem dX9_endText_1 : decode cX9_endText 1 = .ok (.getfield 254, 3) := by decide +kernel
theorem dX9_endText_4 : decode cX9_endText 4 = .ok (.ifCond .ne 15, 3) := by decide +kernel
theorem dX9_endText_7 : decode cX9_endText 7 = .ok (.aload_n 0, 1) := by decide +kernel
theorem dX9_endText_8 : decode cX9_endText 8 = .ok (.getfield 274, 3) := by decide +kernel
theorem dX9_endText_11 : decode cX9_endText 11 = .ok (.ifCond .eq 8, 3) := by decide +kernel
theorem dX9_endText_14 : decode cX9_endText 14 = .ok (.aload_n 0, 1) := by decide +kernel
theorem dX9_endText_15 : decode cX9_endText 15 = .ok (.iconst 0, 1) := by decide +kernel
theorem dX9_endText_16 : decode cX9_endText 16 = .ok (.invokevirtual 287, 3) := by decide +kernel
theorem dX9_endText_19 : decode cX9_endText 19 = .ok (.aload_n 0, 1) := by decide +kernel
theorem dX9_endText_20 : decode cX9_endText 20 = .ok (.iconst 0, 1) := by decide +kernel
theorem dX9_endText_21 : decode cX9_endText 21 = .ok (.putfield 330, 3) := by decide +kernel
theorem dX9_endText_24 : decode cX9_endText 24 = .ok (.aload_n 0, 1) := by decide +kernel
theorem dX9_endText_25 : decode cX9_endText 25 = .ok (.iconst 0, 1) := by decide +kernel
theorem dX9_endText_26 : decode cX9_endText 26 = .ok (.putfield 242, 3) := by decide +kernel
theorem dX9_endText_29 : decode cX9_endText 29 = .ok (.return_, 1) := by decide +kernel
theorem dX9_readLaw_0 : decode cX9_readLaw 0 = .ok (.iconst (-1), 1) := by decide +kernel
theorem dX9_readLaw_1 : decode cX9_readLaw 1 = .ok (.istore_n 1, 1) := by decide +kernel
theorem dX9_readLaw_2 : decode cX9_readLaw 2 = .ok (.iconst 0, 1) := by decide +kernel
theorem dX9_readLaw_3 : decode cX9_readLaw 3 = .ok (.istore_n 2, 1) := by decide +kernel
theorem dX9_readLaw_4 : decode cX9_readLaw 4 = .ok (.iload_n 2, 1) := by decide +kernel
theorem dX9_readLaw_5 : decode cX9_readLaw 5 = .ok (.iconst 3, 1) := by decide +kernel
theorem dX9_readLaw_6 : decode cX9_readLaw 6 = .ok (.if_icmp .ge 28, 3) := by decide +kernel
theorem dX9_readLaw_9 : decode cX9_readLaw 9 = .ok (.aload_n 0, 1) := by decide +kernel
theorem dX9_readLaw_10 : decode cX9_readLaw 10 = .ok (.aload_n 0, 1) := by decide +kernel
theorem dX9_readLaw_11 : decode cX9_readLaw 11 = .ok (.getfield 98, 3) := by decide +kernel
theorem dX9_readLaw_14 : decode cX9_readLaw 14 = .ok (.iload_n 2, 1) := by decide +kernel
theorem dX9_readLaw_15 : decode cX9_readLaw 15 = .ok (.laload, 1) := by decide +kernel
theorem dX9_readLaw_16 : decode cX9_readLaw 16 = .ok (.invokevirtual 312, 3) := by decide +kernel
theorem dX9_readLaw_19 : decode cX9_readLaw 19 = .ok (.ifCond .eq 7, 3) := by decide +kernel
theorem dX9_readLaw_22 : decode cX9_readLaw 22 = .ok (.iload_n 2, 1) := by decide +kernel
theorem dX9_readLaw_23 : decode cX9_readLaw 23 = .ok (.goto 4, 3) := by decide +kernel
theorem dX9_readLaw_26 : decode cX9_readLaw 26 = .ok (.iload_n 1, 1) := by decide +kernel
theorem dX9_readLaw_27 : decode cX9_readLaw 27 = .ok (.istore_n 1, 1) := by decide +kernel
theorem dX9_readLaw_28 : decode cX9_readLaw 28 = .ok (.iinc 2 1, 3) := by decide +kernel
theorem dX9_readLaw_31 : decode cX9_readLaw 31 = .ok (.goto (-27), 3) := by decide +kernel
theorem dX9_readLaw_34 : decode cX9_readLaw 34 = .ok (.aload_n 0, 1) := by decide +kernel
theorem dX9_readLaw_35 : decode cX9_readLaw 35 = .ok (.iload_n 1, 1) := by decide +kernel
theorem dX9_readLaw_36 : decode cX9_readLaw 36 = .ok (.iconst (-1), 1) := by decide +kernel
theorem dX9_readLaw_37 : decode cX9_readLaw 37 = .ok (.if_icmp .eq 16, 3) := by decide +kernel
theorem dX9_readLaw_40 : decode cX9_readLaw 40 = .ok (.aload_n 0, 1) := by decide +kernel
theorem dX9_readLaw_41 : decode cX9_readLaw 41 = .ok (.getfield 384, 3) := by decide +kernel
theorem dX9_readLaw_44 : decode cX9_readLaw 44 = .ok (.bipush 12, 2) := by decide +kernel
theorem dX9_readLaw_46 : decode cX9_readLaw 46 = .ok (.if_icmp .ge 7, 3) := by decide +kernel
theorem dX9_readLaw_49 : decode cX9_readLaw 49 = .ok (.iconst 1, 1) := by decide +kernel
theorem dX9_readLaw_50 : decode cX9_readLaw 50 = .ok (.goto 4, 3) := by decide +kernel
theorem dX9_readLaw_53 : decode cX9_readLaw 53 = .ok (.iconst 0, 1) := by decide +kernel
theorem dX9_readLaw_54 : decode cX9_readLaw 54 = .ok (.invokevirtual 287, 3) := by decide +kernel
theorem dX9_readLaw_57 : decode cX9_readLaw 57 = .ok (.aload_n 0, 1) := by decide +kernel
theorem dX9_readLaw_58 : decode cX9_readLaw 58 = .ok (.getfield 254, 3) := by decide +kernel
theorem dX9_readLaw_61 : decode cX9_readLaw 61 = .ok (.ifCond .eq 4, 3) := by decide +kernel
theorem dX9_readLaw_64 : decode cX9_readLaw 64 = .ok (.return_, 1) := by decide +kernel
theorem dX9_readLaw_65 : decode cX9_readLaw 65 = .ok (.bipush 8, 2) := by decide +kernel
theorem dX9_readLaw_67 : decode cX9_readLaw 67 = .ok (.aload_n 0, 1) := by decide +kernel
theorem dX9_readLaw_68 : decode cX9_readLaw 68 = .ok (.getfield 384, 3) := by decide +kernel
theorem dX9_readLaw_71 : decode cX9_readLaw 71 = .ok (.imul, 1) := by decide +kernel
theorem dX9_readLaw_72 : decode cX9_readLaw 72 = .ok (.istore_n 2, 1) := by decide +kernel
theorem dX9_readLaw_73 : decode cX9_readLaw 73 = .ok (.iconst 0, 1) := by decide +kernel
theorem dX9_readLaw_74 : decode cX9_readLaw 74 = .ok (.istore_n 3, 1) := by decide +kernel
theorem dX9_readLaw_75 : decode cX9_readLaw 75 = .ok (.iload_n 3, 1) := by decide +kernel
theorem dX9_readLaw_76 : decode cX9_readLaw 76 = .ok (.bipush 8, 2) := by decide +kernel
theorem dX9_readLaw_78 : decode cX9_readLaw 78 = .ok (.if_icmp .ge 18, 3) := by decide +kernel
theorem dX9_readLaw_81 : decode cX9_readLaw 81 = .ok (.aload_n 0, 1) := by decide +kernel
theorem dX9_readLaw_82 : decode cX9_readLaw 82 = .ok (.getfield 42, 3) := by decide +kernel
theorem dX9_readLaw_85 : decode cX9_readLaw 85 = .ok (.iload_n 2, 1) := by decide +kernel
theorem dX9_readLaw_86 : decode cX9_readLaw 86 = .ok (.iload_n 3, 1) := by decide +kernel
theorem dX9_readLaw_87 : decode cX9_readLaw 87 = .ok (.iadd, 1) := by decide +kernel
theorem dX9_readLaw_88 : decode cX9_readLaw 88 = .ok (.iconst 0, 1) := by decide +kernel
theorem dX9_readLaw_89 : decode cX9_readLaw 89 = .ok (.iastore, 1) := by decide +kernel
theorem dX9_readLaw_90 : decode cX9_readLaw 90 = .ok (.iinc 3 1, 3) := by decide +kernel
theorem dX9_readLaw_93 : decode cX9_readLaw 93 = .ok (.goto (-18), 3) := by decide +kernel
theorem dX9_readLaw_96 : decode cX9_readLaw 96 = .ok (.aload_n 0, 1) := by decide +kernel
theorem dX9_readLaw_97 : decode cX9_readLaw 97 = .ok (.getfield 42, 3) := by decide +kernel
theorem dX9_readLaw_100 : decode cX9_readLaw 100 = .ok (.iload_n 2, 1) := by decide +kernel
theorem dX9_readLaw_101 : decode cX9_readLaw 101 = .ok (.iload_n 1, 1) := by decide +kernel
theorem dX9_readLaw_102 : decode cX9_readLaw 102 = .ok (.iastore, 1) := by decide +kernel
theorem dX9_readLaw_103 : decode cX9_readLaw 103 = .ok (.aload_n 0, 1) := by decide +kernel
theorem dX9_readLaw_104 : decode cX9_readLaw 104 = .ok (.dup, 1) := by decide +kernel
theorem dX9_readLaw_105 : decode cX9_readLaw 105 = .ok (.getfield 384, 3) := by decide +kernel
theorem dX9_readLaw_108 : decode cX9_readLaw 108 = .ok (.iconst 1, 1) := by decide +kernel
theorem dX9_readLaw_109 : decode cX9_readLaw 109 = .ok (.iadd, 1) := by decide +kernel
theorem dX9_readLaw_110 : decode cX9_readLaw 110 = .ok (.putfield 384, 3) := by decide +kernel
theorem dX9_readLaw_113 : decode cX9_readLaw 113 = .ok (.aload_n 0, 1) := by decide +kernel
theorem dX9_readLaw_114 : decode cX9_readLaw 114 = .ok (.getfield 42, 3) := by decide +kernel
theorem dX9_readLaw_117 : decode cX9_readLaw 117 = .ok (.iload_n 2, 1) := by decide +kernel
theorem dX9_readLaw_118 : decode cX9_readLaw 118 = .ok (.iconst 3, 1) := by decide +kernel
theorem dX9_readLaw_119 : decode cX9_readLaw 119 = .ok (.iadd, 1) := by decide +kernel
theorem dX9_readLaw_120 : decode cX9_readLaw 120 = .ok (.aload_n 0, 1) := by decide +kernel
theorem dX9_readLaw_121 : decode cX9_readLaw 121 = .ok (.getfield 291, 3) := by decide +kernel
theorem dX9_readLaw_124 : decode cX9_readLaw 124 = .ok (.iastore, 1) := by decide +kernel
theorem dX9_readLaw_125 : decode cX9_readLaw 125 = .ok (.iload_n 1, 1) := by decide +kernel
theorem dX9_readLaw_126 : decode cX9_readLaw 126 = .ok (.iconst 2, 1) := by decide +kernel
theorem dX9_readLaw_127 : decode cX9_readLaw 127 = .ok (.if_icmp .eq 8, 3) := by decide +kernel
theorem dX9_readLaw_130 : decode cX9_readLaw 130 = .ok (.aload_n 0, 1) := by decide +kernel
theorem dX9_readLaw_131 : decode cX9_readLaw 131 = .ok (.iconst 0, 1) := by decide +kernel
theorem dX9_readLaw_132 : decode cX9_readLaw 132 = .ok (.invokevirtual 387, 3) := by decide +kernel
theorem dX9_readLaw_135 : decode cX9_readLaw 135 = .ok (.aload_n 0, 1) := by decide +kernel
theorem dX9_readLaw_136 : decode cX9_readLaw 136 = .ok (.getfield 42, 3) := by decide +kernel
theorem dX9_readLaw_139 : decode cX9_readLaw 139 = .ok (.iload_n 2, 1) := by decide +kernel
theorem dX9_readLaw_140 : decode cX9_readLaw 140 = .ok (.iconst 4, 1) := by decide +kernel
theorem dX9_readLaw_141 : decode cX9_readLaw 141 = .ok (.iadd, 1) := by decide +kernel
theorem dX9_readLaw_142 : decode cX9_readLaw 142 = .ok (.aload_n 0, 1) := by decide +kernel
theorem dX9_readLaw_143 : decode cX9_readLaw 143 = .ok (.getfield 291, 3) := by decide +kernel
theorem dX9_readLaw_146 : decode cX9_readLaw 146 = .ok (.iastore, 1) := by decide +kernel
theorem dX9_readLaw_147 : decode cX9_readLaw 147 = .ok (.aload_n 0, 1) := by decide +kernel
theorem dX9_readLaw_148 : decode cX9_readLaw 148 = .ok (.getfield 42, 3) := by decide +kernel
theorem dX9_readLaw_151 : decode cX9_readLaw 151 = .ok (.iload_n 2, 1) := by decide +kernel
theorem dX9_readLaw_152 : decode cX9_readLaw 152 = .ok (.iconst 5, 1) := by decide +kernel
theorem dX9_readLaw_153 : decode cX9_readLaw 153 = .ok (.iadd, 1) := by decide +kernel
theorem dX9_readLaw_154 : decode cX9_readLaw 154 = .ok (.aload_n 0, 1) := by decide +kernel
theorem dX9_readLaw_155 : decode cX9_readLaw 155 = .ok (.getfield 291, 3) := by decide +kernel
theorem dX9_readLaw_158 : decode cX9_readLaw 158 = .ok (.iastore, 1) := by decide +kernel
theorem dX9_readLaw_159 : decode cX9_readLaw 159 = .ok (.aload_n 0, 1) := by decide +kernel
theorem dX9_readLaw_160 : decode cX9_readLaw 160 = .ok (.getfield 254, 3) := by decide +kernel
theorem dX9_readLaw_163 : decode cX9_readLaw 163 = .ok (.ifCond .ne 22, 3) := by decide +kernel
theorem dX9_readLaw_166 : decode cX9_readLaw 166 = .ok (.aload_n 0, 1) := by decide +kernel
theorem dX9_readLaw_167 : decode cX9_readLaw 167 = .ok (.ldc2_w 390, 3) := by decide +kernel
theorem dX9_readLaw_170 : decode cX9_readLaw 170 = .ok (.invokevirtual 312, 3) := by decide +kernel
theorem dX9_readLaw_173 : decode cX9_readLaw 173 = .ok (.ifCond .eq 12, 3) := by decide +kernel
theorem dX9_readLaw_176 : decode cX9_readLaw 176 = .ok (.aload_n 0, 1) := by decide +kernel
theorem dX9_readLaw_177 : decode cX9_readLaw 177 = .ok (.invokevirtual 258, 3) := by decide +kernel
theorem dX9_readLaw_180 : decode cX9_readLaw 180 = .ok (.aload_n 0, 1) := by decide +kernel
theorem dX9_readLaw_181 : decode cX9_readLaw 181 = .ok (.iconst 1, 1) := by decide +kernel
theorem dX9_readLaw_182 : decode cX9_readLaw 182 = .ok (.invokevirtual 387, 3) := by decide +kernel
theorem dX9_readLaw_185 : decode cX9_readLaw 185 = .ok (.aload_n 0, 1) := by decide +kernel
theorem dX9_readLaw_186 : decode cX9_readLaw 186 = .ok (.getfield 42, 3) := by decide +kernel
theorem dX9_readLaw_189 : decode cX9_readLaw 189 = .ok (.iload_n 2, 1) := by decide +kernel
theorem dX9_readLaw_190 : decode cX9_readLaw 190 = .ok (.bipush 6, 2) := by decide +kernel
theorem dX9_readLaw_192 : decode cX9_readLaw 192 = .ok (.iadd, 1) := by decide +kernel
theorem dX9_readLaw_193 : decode cX9_readLaw 193 = .ok (.aload_n 0, 1) := by decide +kernel
theorem dX9_readLaw_194 : decode cX9_readLaw 194 = .ok (.getfield 291, 3) := by decide +kernel
theorem dX9_readLaw_197 : decode cX9_readLaw 197 = .ok (.iastore, 1) := by decide +kernel
theorem dX9_readLaw_198 : decode cX9_readLaw 198 = .ok (.return_, 1) := by decide +kernel
theorem dX9_law_0 : decode cX9_law 0 = .ok (.aload_n 0, 1) := by decide +kernel
theorem dX9_law_1 : decode cX9_law 1 = .ok (.iconst 0, 1) := by decide +kernel
theorem dX9_law_2 : decode cX9_law 2 = .ok (.putfield 161, 3) := by decide +kernel
theorem dX9_law_5 : decode cX9_law 5 = .ok (.aload_n 0, 1) := by decide +kernel
theorem dX9_law_6 : decode cX9_law 6 = .ok (.getfield 13, 3) := by decide +kernel
theorem dX9_law_9 : decode cX9_law 9 = .ok (.iconst 5, 1) := by decide +kernel
theorem dX9_law_10 : decode cX9_law 10 = .ok (.iaload, 1) := by decide +kernel
theorem dX9_law_11 : decode cX9_law 11 = .ok (.bipush 6, 2) := by decide +kernel
theorem dX9_law_13 : decode cX9_law 13 = .ok (.if_icmp .ne 15, 3) := by decide +kernel
theorem dX9_law_16 : decode cX9_law 16 = .ok (.aload_n 0, 1) := by decide +kernel
theorem dX9_law_17 : decode cX9_law 17 = .ok (.iconst 0, 1) := by decide +kernel
theorem dX9_law_18 : decode cX9_law 18 = .ok (.putfield 242, 3) := by decide +kernel
theorem dX9_law_21 : decode cX9_law 21 = .ok (.aload_n 0, 1) := by decide +kernel
theorem dX9_law_22 : decode cX9_law 22 = .ok (.bipush (-5), 2) := by decide +kernel
theorem dX9_law_24 : decode cX9_law 24 = .ok (.invokevirtual 170, 3) := by decide +kernel
theorem dX9_law_27 : decode cX9_law 27 = .ok (.ireturn, 1) := by decide +kernel
theorem dX9_law_28 : decode cX9_law 28 = .ok (.aload_n 0, 1) := by decide +kernel
theorem dX9_law_29 : decode cX9_law 29 = .ok (.iconst 0, 1) := by decide +kernel
theorem dX9_law_30 : decode cX9_law 30 = .ok (.invokevirtual 392, 3) := by decide +kernel
theorem dX9_law_33 : decode cX9_law 33 = .ok (.aload_n 0, 1) := by decide +kernel
theorem dX9_law_34 : decode cX9_law 34 = .ok (.invokevirtual 395, 3) := by decide +kernel
theorem dX9_law_37 : decode cX9_law 37 = .ok (.aload_n 0, 1) := by decide +kernel
theorem dX9_law_38 : decode cX9_law 38 = .ok (.getfield 254, 3) := by decide +kernel
theorem dX9_law_41 : decode cX9_law 41 = .ok (.ifCond .ne 23, 3) := by decide +kernel
theorem dX9_law_44 : decode cX9_law 44 = .ok (.aload_n 0, 1) := by decide +kernel
theorem dX9_law_45 : decode cX9_law 45 = .ok (.bipush 59, 2) := by decide +kernel
theorem dX9_law_47 : decode cX9_law 47 = .ok (.invokevirtual 324, 3) := by decide +kernel
theorem dX9_law_50 : decode cX9_law 50 = .ok (.ifCond .eq 14, 3) := by decide +kernel
theorem dX9_law_53 : decode cX9_law 53 = .ok (.aload_n 0, 1) := by decide +kernel
theorem dX9_law_54 : decode cX9_law 54 = .ok (.invokevirtual 258, 3) := by decide +kernel
theorem dX9_law_57 : decode cX9_law 57 = .ok (.aload_n 0, 1) := by decide +kernel
theorem dX9_law_58 : decode cX9_law 58 = .ok (.invokevirtual 395, 3) := by decide +kernel
theorem dX9_law_61 : decode cX9_law 61 = .ok (.goto (-24), 3) := by decide +kernel
theorem dX9_law_64 : decode cX9_law 64 = .ok (.aload_n 0, 1) := by decide +kernel
theorem dX9_law_65 : decode cX9_law 65 = .ok (.invokevirtual 398, 3) := by decide +kernel
theorem dX9_law_68 : decode cX9_law 68 = .ok (.aload_n 0, 1) := by decide +kernel
theorem dX9_law_69 : decode cX9_law 69 = .ok (.getfield 254, 3) := by decide +kernel
theorem dX9_law_72 : decode cX9_law 72 = .ok (.ifCond .eq 10, 3) := by decide +kernel
theorem dX9_law_75 : decode cX9_law 75 = .ok (.aload_n 0, 1) := by decide +kernel
theorem dX9_law_76 : decode cX9_law 76 = .ok (.bipush (-6), 2) := by decide +kernel
theorem dX9_law_78 : decode cX9_law 78 = .ok (.invokevirtual 170, 3) := by decide +kernel
theorem dX9_law_81 : decode cX9_law 81 = .ok (.ireturn, 1) := by decide +kernel
theorem dX9_law_82 : decode cX9_law 82 = .ok (.sipush 178, 3) := by decide +kernel
theorem dX9_law_85 : decode cX9_law 85 = .ok (.sipush 900, 3) := by decide +kernel
theorem dX9_law_88 : decode cX9_law 88 = .ok (.aload_n 0, 1) := by decide +kernel
theorem dX9_law_89 : decode cX9_law 89 = .ok (.getfield 13, 3) := by decide +kernel
theorem dX9_law_92 : decode cX9_law 92 = .ok (.iconst 5, 1) := by decide +kernel
theorem dX9_law_93 : decode cX9_law 93 = .ok (.iaload, 1) := by decide +kernel
theorem dX9_law_94 : decode cX9_law 94 = .ok (.imul, 1) := by decide +kernel
theorem dX9_law_95 : decode cX9_law 95 = .ok (.iadd, 1) := by decide +kernel
theorem dX9_law_96 : decode cX9_law 96 = .ok (.istore_n 1, 1) := by decide +kernel
theorem dX9_law_97 : decode cX9_law 97 = .ok (.aload_n 0, 1) := by decide +kernel
theorem dX9_law_98 : decode cX9_law 98 = .ok (.getfield 13, 3) := by decide +kernel
theorem dX9_law_101 : decode cX9_law 101 = .ok (.iload_n 1, 1) := by decide +kernel
theorem dX9_law_102 : decode cX9_law 102 = .ok (.iconst 1, 1) := by decide +kernel
theorem dX9_law_103 : decode cX9_law 103 = .ok (.iadd, 1) := by decide +kernel
theorem dX9_law_104 : decode cX9_law 104 = .ok (.aload_n 0, 1) := by decide +kernel
theorem dX9_law_105 : decode cX9_law 105 = .ok (.getfield 384, 3) := by decide +kernel
theorem dX9_law_108 : decode cX9_law 108 = .ok (.iastore, 1) := by decide +kernel
theorem dX9_law_109 : decode cX9_law 109 = .ok (.iconst 0, 1) := by decide +kernel
theorem dX9_law_110 : decode cX9_law 110 = .ok (.istore_n 2, 1) := by decide +kernel
theorem dX9_law_111 : decode cX9_law 111 = .ok (.iload_n 2, 1) := by decide +kernel
theorem dX9_law_112 : decode cX9_law 112 = .ok (.bipush 8, 2) := by decide +kernel
theorem dX9_law_114 : decode cX9_law 114 = .ok (.aload_n 0, 1) := by decide +kernel
theorem dX9_law_115 : decode cX9_law 115 = .ok (.getfield 384, 3) := by decide +kernel
theorem dX9_law_118 : decode cX9_law 118 = .ok (.imul, 1) := by decide +kernel
theorem dX9_law_119 : decode cX9_law 119 = .ok (.if_icmp .ge 25, 3) := by decide +kernel
theorem dX9_law_122 : decode cX9_law 122 = .ok (.aload_n 0, 1) := by decide +kernel
theorem dX9_law_123 : decode cX9_law 123 = .ok (.getfield 13, 3) := by decide +kernel
theorem dX9_law_126 : decode cX9_law 126 = .ok (.iload_n 1, 1) := by decide +kernel
theorem dX9_law_127 : decode cX9_law 127 = .ok (.iconst 2, 1) := by decide +kernel
theorem dX9_law_128 : decode cX9_law 128 = .ok (.iadd, 1) := by decide +kernel
theorem dX9_law_129 : decode cX9_law 129 = .ok (.iload_n 2, 1) := by decide +kernel
theorem dX9_law_130 : decode cX9_law 130 = .ok (.iadd, 1) := by decide +kernel
theorem dX9_law_131 : decode cX9_law 131 = .ok (.aload_n 0, 1) := by decide +kernel
theorem dX9_law_132 : decode cX9_law 132 = .ok (.getfield 42, 3) := by decide +kernel
theorem dX9_law_135 : decode cX9_law 135 = .ok (.iload_n 2, 1) := by decide +kernel
theorem dX9_law_136 : decode cX9_law 136 = .ok (.iaload, 1) := by decide +kernel
theorem dX9_law_137 : decode cX9_law 137 = .ok (.iastore, 1) := by decide +kernel
theorem dX9_law_138 : decode cX9_law 138 = .ok (.iinc 2 1, 3) := by decide +kernel
theorem dX9_law_141 : decode cX9_law 141 = .ok (.goto (-30), 3) := by decide +kernel
theorem dX9_law_144 : decode cX9_law 144 = .ok (.iconst 0, 1) := by decide +kernel
theorem dX9_law_145 : decode cX9_law 145 = .ok (.istore_n 2, 1) := by decide +kernel
theorem dX9_law_146 : decode cX9_law 146 = .ok (.iload_n 2, 1) := by decide +kernel
theorem dX9_law_147 : decode cX9_law 147 = .ok (.aload_n 0, 1) := by decide +kernel
theorem dX9_law_148 : decode cX9_law 148 = .ok (.getfield 291, 3) := by decide +kernel
theorem dX9_law_151 : decode cX9_law 151 = .ok (.if_icmp .ge 49, 3) := by decide +kernel
theorem dX9_law_154 : decode cX9_law 154 = .ok (.aload_n 0, 1) := by decide +kernel
theorem dX9_law_155 : decode cX9_law 155 = .ok (.getfield 13, 3) := by decide +kernel
theorem dX9_law_158 : decode cX9_law 158 = .ok (.iload_n 1, 1) := by decide +kernel
theorem dX9_law_159 : decode cX9_law 159 = .ok (.bipush 98, 2) := by decide +kernel
theorem dX9_law_161 : decode cX9_law 161 = .ok (.iadd, 1) := by decide +kernel
theorem dX9_law_162 : decode cX9_law 162 = .ok (.iconst 2, 1) := by decide +kernel
theorem dX9_law_163 : decode cX9_law 163 = .ok (.iload_n 2, 1) := by decide +kernel
theorem dX9_law_164 : decode cX9_law 164 = .ok (.imul, 1) := by decide +kernel
theorem dX9_law_165 : decode cX9_law 165 = .ok (.iadd, 1) := by decide +kernel
theorem dX9_law_166 : decode cX9_law 166 = .ok (.aload_n 0, 1) := by decide +kernel
theorem dX9_law_167 : decode cX9_law 167 = .ok (.getfield 45, 3) := by decide +kernel
theorem dX9_law_170 : decode cX9_law 170 = .ok (.iload_n 2, 1) := by decide +kernel
theorem dX9_law_171 : decode cX9_law 171 = .ok (.iaload, 1) := by decide +kernel
theorem dX9_law_172 : decode cX9_law 172 = .ok (.iastore, 1) := by decide +kernel
theorem dX9_law_173 : decode cX9_law 173 = .ok (.aload_n 0, 1) := by decide +kernel
theorem dX9_law_174 : decode cX9_law 174 = .ok (.getfield 13, 3) := by decide +kernel
theorem dX9_law_177 : decode cX9_law 177 = .ok (.iload_n 1, 1) := by decide +kernel
theorem dX9_law_178 : decode cX9_law 178 = .ok (.bipush 98, 2) := by decide +kernel
theorem dX9_law_180 : decode cX9_law 180 = .ok (.iadd, 1) := by decide +kernel
theorem dX9_law_181 : decode cX9_law 181 = .ok (.iconst 2, 1) := by decide +kernel
theorem dX9_law_182 : decode cX9_law 182 = .ok (.iload_n 2, 1) := by decide +kernel
theorem dX9_law_183 : decode cX9_law 183 = .ok (.imul, 1) := by decide +kernel
theorem dX9_law_184 : decode cX9_law 184 = .ok (.iadd, 1) := by decide +kernel
theorem dX9_law_185 : decode cX9_law 185 = .ok (.iconst 1, 1) := by decide +kernel
theorem dX9_law_186 : decode cX9_law 186 = .ok (.iadd, 1) := by decide +kernel
theorem dX9_law_187 : decode cX9_law 187 = .ok (.aload_n 0, 1) := by decide +kernel
theorem dX9_law_188 : decode cX9_law 188 = .ok (.getfield 48, 3) := by decide +kernel
theorem dX9_law_191 : decode cX9_law 191 = .ok (.iload_n 2, 1) := by decide +kernel
theorem dX9_law_192 : decode cX9_law 192 = .ok (.iaload, 1) := by decide +kernel
theorem dX9_law_193 : decode cX9_law 193 = .ok (.iastore, 1) := by decide +kernel
theorem dX9_law_194 : decode cX9_law 194 = .ok (.iinc 2 1, 3) := by decide +kernel
theorem dX9_law_197 : decode cX9_law 197 = .ok (.goto (-51), 3) := by decide +kernel
theorem dX9_law_200 : decode cX9_law 200 = .ok (.aload_n 0, 1) := by decide +kernel
theorem dX9_law_201 : decode cX9_law 201 = .ok (.getfield 13, 3) := by decide +kernel
theorem dX9_law_204 : decode cX9_law 204 = .ok (.iconst 5, 1) := by decide +kernel
theorem dX9_law_205 : decode cX9_law 205 = .ok (.dup2, 1) := by decide +kernel
theorem dX9_law_206 : decode cX9_law 206 = .ok (.iaload, 1) := by decide +kernel
theorem dX9_law_207 : decode cX9_law 207 = .ok (.iconst 1, 1) := by decide +kernel
theorem dX9_law_208 : decode cX9_law 208 = .ok (.iadd, 1) := by decide +kernel
theorem dX9_law_209 : decode cX9_law 209 = .ok (.iastore, 1) := by decide +kernel
theorem dX9_law_210 : decode cX9_law 210 = .ok (.aload_n 0, 1) := by decide +kernel
theorem dX9_law_211 : decode cX9_law 211 = .ok (.aload_n 0, 1) := by decide +kernel
theorem dX9_law_212 : decode cX9_law 212 = .ok (.getfield 13, 3) := by decide +kernel
theorem dX9_law_215 : decode cX9_law 215 = .ok (.iconst 5, 1) := by decide +kernel
theorem dX9_law_216 : decode cX9_law 216 = .ok (.iaload, 1) := by decide +kernel
theorem dX9_law_217 : decode cX9_law 217 = .ok (.iconst 1, 1) := by decide +kernel
theorem dX9_law_218 : decode cX9_law 218 = .ok (.isub, 1) := by decide +kernel
theorem dX9_law_219 : decode cX9_law 219 = .ok (.invokevirtual 170, 3) := by decide +kernel
theorem dX9_law_222 : decode cX9_law 222 = .ok (.ireturn, 1) := by decide +kernel
theorem dX9_isLaw_0 : decode cX9_isLaw 0 = .ok (.iload_n 1, 1) := by decide +kernel
theorem dX9_isLaw_1 : decode cX9_isLaw 1 = .ok (.iconst (-1), 1) := by decide +kernel
theorem dX9_isLaw_2 : decode cX9_isLaw 2 = .ok (.if_icmp .eq 21, 3) := by decide +kernel
theorem dX9_isLaw_5 : decode cX9_isLaw 5 = .ok (.iload_n 1, 1) := by decide +kernel
theorem dX9_isLaw_6 : decode cX9_isLaw 6 = .ok (.i2l, 1) := by decide +kernel
theorem dX9_isLaw_7 : decode cX9_isLaw 7 = .ok (.lconst 0, 1) := by decide +kernel
theorem dX9_isLaw_8 : decode cX9_isLaw 8 = .ok (.aload_n 0, 1) := by decide +kernel
theorem dX9_isLaw_9 : decode cX9_isLaw 9 = .ok (.getfield 13, 3) := by decide +kernel
theorem dX9_isLaw_12 : decode cX9_isLaw 12 = .ok (.iconst 5, 1) := by decide +kernel
theorem dX9_isLaw_13 : decode cX9_isLaw 13 = .ok (.iaload, 1) := by decide +kernel
theorem dX9_isLaw_14 : decode cX9_isLaw 14 = .ok (.i2l, 1) := by decide +kernel
theorem dX9_isLaw_15 : decode cX9_isLaw 15 = .ok (.lconst 1, 1) := by decide +kernel
theorem dX9_isLaw_16 : decode cX9_isLaw 16 = .ok (.lsub, 1) := by decide +kernel
theorem dX9_isLaw_17 : decode cX9_isLaw 17 = .ok (.invokestatic 181, 3) := by decide +kernel
theorem dX9_isLaw_20 : decode cX9_isLaw 20 = .ok (.ifCond .eq 7, 3) := by decide +kernel
theorem dX9_isLaw_23 : decode cX9_isLaw 23 = .ok (.iconst 1, 1) := by decide +kernel
theorem dX9_isLaw_24 : decode cX9_isLaw 24 = .ok (.goto 4, 3) := by decide +kernel
theorem dX9_isLaw_27 : decode cX9_isLaw 27 = .ok (.iconst 0, 1) := by decide +kernel
theorem dX9_isLaw_28 : decode cX9_isLaw 28 = .ok (.ireturn, 1) := by decide +kernel
theorem dX9_force_0 : decode cX9_force 0 = .ok (.aload_n 0, 1) := by decide +kernel
theorem dX9_force_1 : decode cX9_force 1 = .ok (.iconst 0, 1) := by decide +kernel
theorem dX9_force_2 : decode cX9_force 2 = .ok (.putfield 161, 3) := by decide +kernel
theorem dX9_force_5 : decode cX9_force 5 = .ok (.aload_n 0, 1) := by decide +kernel
theorem dX9_force_6 : decode cX9_force 6 = .ok (.iload_n 1, 1) := by decide +kernel
theorem dX9_force_7 : decode cX9_force 7 = .ok (.invokevirtual 401, 3) := by decide +kernel
theorem dX9_force_10 : decode cX9_force 10 = .ok (.ifCond .eq 13, 3) := by decide +kernel
theorem dX9_force_13 : decode cX9_force 13 = .ok (.aload_n 0, 1) := by decide +kernel
theorem dX9_force_14 : decode cX9_force 14 = .ok (.bipush 6, 2) := by decide +kernel
theorem dX9_force_16 : decode cX9_force 16 = .ok (.iload_n 1, 1) := by decide +kernel
theorem dX9_force_17 : decode cX9_force 17 = .ok (.invokevirtual 239, 3) := by decide +kernel
theorem dX9_force_20 : decode cX9_force 20 = .ok (.goto 9, 3) := by decide +kernel
theorem dX9_force_23 : decode cX9_force 23 = .ok (.aload_n 0, 1) := by decide +kernel
theorem dX9_force_24 : decode cX9_force 24 = .ok (.bipush (-2), 2) := by decide +kernel
theorem dX9_force_26 : decode cX9_force 26 = .ok (.invokevirtual 170, 3) := by decide +kernel
theorem dX9_force_29 : decode cX9_force 29 = .ok (.ireturn, 1) := by decide +kernel
theorem dX9_reckon_0 : decode cX9_reckon 0 = .ok (.iload_n 1, 1) := by decide +kernel
theorem dX9_reckon_1 : decode cX9_reckon 1 = .ok (.tableswitch 148 20 26 #[43, 48, 53, 58, 90, 122, 135], 43) := by decide +kernel
theorem dX9_reckon_44 : decode cX9_reckon 44 = .ok (.lload_n 2, 1) := by decide +kernel
theorem dX9_reckon_45 : decode cX9_reckon 45 = .ok (.lload 4, 2) := by decide +kernel
theorem dX9_reckon_47 : decode cX9_reckon 47 = .ok (.ladd, 1) := by decide +kernel
theorem dX9_reckon_48 : decode cX9_reckon 48 = .ok (.lreturn, 1) := by decide +kernel
theorem dX9_reckon_49 : decode cX9_reckon 49 = .ok (.lload_n 2, 1) := by decide +kernel
theorem dX9_reckon_50 : decode cX9_reckon 50 = .ok (.lload 4, 2) := by decide +kernel
theorem dX9_reckon_52 : decode cX9_reckon 52 = .ok (.lsub, 1) := by decide +kernel
theorem dX9_reckon_53 : decode cX9_reckon 53 = .ok (.lreturn, 1) := by decide +kernel
theorem dX9_reckon_54 : decode cX9_reckon 54 = .ok (.lload_n 2, 1) := by decide +kernel
theorem dX9_reckon_55 : decode cX9_reckon 55 = .ok (.lload 4, 2) := by decide +kernel
theorem dX9_reckon_57 : decode cX9_reckon 57 = .ok (.lmul, 1) := by decide +kernel
theorem dX9_reckon_58 : decode cX9_reckon 58 = .ok (.lreturn, 1) := by decide +kernel
theorem dX9_reckon_59 : decode cX9_reckon 59 = .ok (.aload_n 0, 1) := by decide +kernel
theorem dX9_reckon_60 : decode cX9_reckon 60 = .ok (.lload 4, 2) := by decide +kernel
theorem dX9_reckon_62 : decode cX9_reckon 62 = .ok (.lconst 0, 1) := by decide +kernel
theorem dX9_reckon_63 : decode cX9_reckon 63 = .ok (.lcmp, 1) := by decide +kernel
theorem dX9_reckon_64 : decode cX9_reckon 64 = .ok (.ifCond .ne 7, 3) := by decide +kernel
theorem dX9_reckon_67 : decode cX9_reckon 67 = .ok (.iconst 1, 1) := by decide +kernel
theorem dX9_reckon_68 : decode cX9_reckon 68 = .ok (.goto 4, 3) := by decide +kernel
theorem dX9_reckon_71 : decode cX9_reckon 71 = .ok (.iconst 0, 1) := by decide +kernel
theorem dX9_reckon_72 : decode cX9_reckon 72 = .ok (.putfield 404, 3) := by decide +kernel
theorem dX9_reckon_75 : decode cX9_reckon 75 = .ok (.aload_n 0, 1) := by decide +kernel
theorem dX9_reckon_76 : decode cX9_reckon 76 = .ok (.getfield 404, 3) := by decide +kernel
theorem dX9_reckon_79 : decode cX9_reckon 79 = .ok (.ifCond .eq 7, 3) := by decide +kernel
theorem dX9_reckon_82 : decode cX9_reckon 82 = .ok (.lconst 0, 1) := by decide +kernel
theorem dX9_reckon_83 : decode cX9_reckon 83 = .ok (.goto 7, 3) := by decide +kernel
theorem dX9_reckon_86 : decode cX9_reckon 86 = .ok (.lload_n 2, 1) := by decide +kernel
theorem dX9_reckon_87 : decode cX9_reckon 87 = .ok (.lload 4, 2) := by decide +kernel
theorem dX9_reckon_89 : decode cX9_reckon 89 = .ok (.ldiv, 1) := by decide +kernel
theorem dX9_reckon_90 : decode cX9_reckon 90 = .ok (.lreturn, 1) := by decide +kernel
theorem dX9_reckon_91 : decode cX9_reckon 91 = .ok (.aload_n 0, 1) := by decide +kernel
theorem dX9_reckon_92 : decode cX9_reckon 92 = .ok (.lload 4, 2) := by decide +kernel
theorem dX9_reckon_94 : decode cX9_reckon 94 = .ok (.lconst 0, 1) := by decide +kernel
theorem dX9_reckon_95 : decode cX9_reckon 95 = .ok (.lcmp, 1) := by decide +kernel
theorem dX9_reckon_96 : decode cX9_reckon 96 = .ok (.ifCond .ne 7, 3) := by decide +kernel
theorem dX9_reckon_99 : decode cX9_reckon 99 = .ok (.iconst 1, 1) := by decide +kernel
theorem dX9_reckon_100 : decode cX9_reckon 100 = .ok (.goto 4, 3) := by decide +kernel
theorem dX9_reckon_103 : decode cX9_reckon 103 = .ok (.iconst 0, 1) := by decide +kernel
theorem dX9_reckon_104 : decode cX9_reckon 104 = .ok (.putfield 404, 3) := by decide +kernel
theorem dX9_reckon_107 : decode cX9_reckon 107 = .ok (.aload_n 0, 1) := by decide +kernel
theorem dX9_reckon_108 : decode cX9_reckon 108 = .ok (.getfield 404, 3) := by decide +kernel
theorem dX9_reckon_111 : decode cX9_reckon 111 = .ok (.ifCond .eq 7, 3) := by decide +kernel
theorem dX9_reckon_114 : decode cX9_reckon 114 = .ok (.lconst 0, 1) := by decide +kernel
theorem dX9_reckon_115 : decode cX9_reckon 115 = .ok (.goto 7, 3) := by decide +kernel
theorem dX9_reckon_118 : decode cX9_reckon 118 = .ok (.lload_n 2, 1) := by decide +kernel
theorem dX9_reckon_119 : decode cX9_reckon 119 = .ok (.lload 4, 2) := by decide +kernel
theorem dX9_reckon_121 : decode cX9_reckon 121 = .ok (.lrem, 1) := by decide +kernel
theorem dX9_reckon_122 : decode cX9_reckon 122 = .ok (.lreturn, 1) := by decide +kernel
theorem dX9_reckon_123 : decode cX9_reckon 123 = .ok (.lload_n 2, 1) := by decide +kernel
theorem dX9_reckon_124 : decode cX9_reckon 124 = .ok (.lload 4, 2) := by decide +kernel
theorem dX9_reckon_126 : decode cX9_reckon 126 = .ok (.lcmp, 1) := by decide +kernel
theorem dX9_reckon_127 : decode cX9_reckon 127 = .ok (.ifCond .ge 7, 3) := by decide +kernel
theorem dX9_reckon_130 : decode cX9_reckon 130 = .ok (.lconst 1, 1) := by decide +kernel
theorem dX9_reckon_131 : decode cX9_reckon 131 = .ok (.goto 4, 3) := by decide +kernel
theorem dX9_reckon_134 : decode cX9_reckon 134 = .ok (.lconst 0, 1) := by decide +kernel
theorem dX9_reckon_135 : decode cX9_reckon 135 = .ok (.lreturn, 1) := by decide +kernel
theorem dX9_reckon_136 : decode cX9_reckon 136 = .ok (.lload_n 2, 1) := by decide +kernel
theorem dX9_reckon_137 : decode cX9_reckon 137 = .ok (.lload 4, 2) := by decide +kernel
theorem dX9_reckon_139 : decode cX9_reckon 139 = .ok (.lcmp, 1) := by decide +kernel
theorem dX9_reckon_140 : decode cX9_reckon 140 = .ok (.ifCond .le 7, 3) := by decide +kernel
theorem dX9_reckon_143 : decode cX9_reckon 143 = .ok (.lconst 1, 1) := by decide +kernel
theorem dX9_reckon_144 : decode cX9_reckon 144 = .ok (.goto 4, 3) := by decide +kernel
theorem dX9_reckon_147 : decode cX9_reckon 147 = .ok (.lconst 0, 1) := by decide +kernel
theorem dX9_reckon_148 : decode cX9_reckon 148 = .ok (.lreturn, 1) := by decide +kernel
theorem dX9_reckon_149 : decode cX9_reckon 149 = .ok (.lload_n 2, 1) := by decide +kernel
theorem dX9_reckon_150 : decode cX9_reckon 150 = .ok (.lload 4, 2) := by decide +kernel
theorem dX9_reckon_152 : decode cX9_reckon 152 = .ok (.lcmp, 1) := by decide +kernel
theorem dX9_reckon_153 : decode cX9_reckon 153 = .ok (.ifCond .ne 7, 3) := by decide +kernel
theorem dX9_reckon_156 : decode cX9_reckon 156 = .ok (.lconst 1, 1) := by decide +kernel
theorem dX9_reckon_157 : decode cX9_reckon 157 = .ok (.goto 4, 3) := by decide +kernel
theorem dX9_reckon_160 : decode cX9_reckon 160 = .ok (.lconst 0, 1) := by decide +kernel
theorem dX9_reckon_161 : decode cX9_reckon 161 = .ok (.lreturn, 1) := by decide +kernel
theorem dX9_reckonAll_0 : decode cX9_reckonAll 0 = .ok (.aload_n 0, 1) := by decide +kernel
theorem dX9_reckonAll_1 : decode cX9_reckonAll 1 = .ok (.iconst 0, 1) := by decide +kernel
theorem dX9_reckonAll_2 : decode cX9_reckonAll 2 = .ok (.putfield 404, 3) := by decide +kernel
theorem dX9_reckonAll_5 : decode cX9_reckonAll 5 = .ok (.iconst 0, 1) := by decide +kernel
theorem dX9_reckonAll_6 : decode cX9_reckonAll 6 = .ok (.istore_n 3, 1) := by decide +kernel
theorem dX9_reckonAll_7 : decode cX9_reckonAll 7 = .ok (.iload_n 1, 1) := by decide +kernel
theorem dX9_reckonAll_8 : decode cX9_reckonAll 8 = .ok (.istore 4, 2) := by decide +kernel
theorem dX9_reckonAll_10 : decode cX9_reckonAll 10 = .ok (.iload 4, 2) := by decide +kernel
theorem dX9_reckonAll_12 : decode cX9_reckonAll 12 = .ok (.iload_n 2, 1) := by decide +kernel
theorem dX9_reckonAll_13 : decode cX9_reckonAll 13 = .ok (.if_icmp .ge 387, 3) := by decide +kernel
theorem dX9_reckonAll_16 : decode cX9_reckonAll 16 = .ok (.aload_n 0, 1) := by decide +kernel
theorem dX9_reckonAll_17 : decode cX9_reckonAll 17 = .ok (.getfield 404, 3) := by decide +kernel
theorem dX9_reckonAll_20 : decode cX9_reckonAll 20 = .ok (.ifCond .ne 380, 3) := by decide +kernel
theorem dX9_reckonAll_23 : decode cX9_reckonAll 23 = .ok (.aload_n 0, 1) := by decide +kernel
theorem dX9_reckonAll_24 : decode cX9_reckonAll 24 = .ok (.getfield 330, 3) := by decide +kernel
theorem dX9_reckonAll_27 : decode cX9_reckonAll 27 = .ok (.ifCond .eq 13, 3) := by decide +kernel
theorem dX9_reckonAll_30 : decode cX9_reckonAll 30 = .ok (.aload_n 0, 1) := by decide +kernel
theorem dX9_reckonAll_31 : decode cX9_reckonAll 31 = .ok (.getfield 45, 3) := by decide +kernel
theorem dX9_reckonAll_34 : decode cX9_reckonAll 34 = .ok (.iload 4, 2) := by decide +kernel
theorem dX9_reckonAll_36 : decode cX9_reckonAll 36 = .ok (.iaload, 1) := by decide +kernel
theorem dX9_reckonAll_37 : decode cX9_reckonAll 37 = .ok (.goto 20, 3) := by decide +kernel
theorem dX9_reckonAll_40 : decode cX9_reckonAll 40 = .ok (.aload_n 0, 1) := by decide +kernel
theorem dX9_reckonAll_41 : decode cX9_reckonAll 41 = .ok (.getfield 13, 3) := by decide +kernel
theorem dX9_reckonAll_44 : decode cX9_reckonAll 44 = .ok (.aload_n 0, 1) := by decide +kernel
theorem dX9_reckonAll_45 : decode cX9_reckonAll 45 = .ok (.getfield 407, 3) := by decide +kernel
theorem dX9_reckonAll_48 : decode cX9_reckonAll 48 = .ok (.bipush 98, 2) := by decide +kernel
theorem dX9_reckonAll_50 : decode cX9_reckonAll 50 = .ok (.iadd, 1) := by decide +kernel
theorem dX9_reckonAll_51 : decode cX9_reckonAll 51 = .ok (.iconst 2, 1) := by decide +kernel
theorem dX9_reckonAll_52 : decode cX9_reckonAll 52 = .ok (.iload 4, 2) := by decide +kernel
theorem dX9_reckonAll_54 : decode cX9_reckonAll 54 = .ok (.imul, 1) := by decide +kernel
theorem dX9_reckonAll_55 : decode cX9_reckonAll 55 = .ok (.iadd, 1) := by decide +kernel
theorem dX9_reckonAll_56 : decode cX9_reckonAll 56 = .ok (.iaload, 1) := by decide +kernel
theorem dX9_reckonAll_57 : decode cX9_reckonAll 57 = .ok (.istore 5, 2) := by decide +kernel
theorem dX9_reckonAll_59 : decode cX9_reckonAll 59 = .ok (.aload_n 0, 1) := by decide +kernel
theorem dX9_reckonAll_60 : decode cX9_reckonAll 60 = .ok (.getfield 330, 3) := by decide +kernel
theorem dX9_reckonAll_63 : decode cX9_reckonAll 63 = .ok (.ifCond .eq 13, 3) := by decide +kernel
theorem dX9_reckonAll_66 : decode cX9_reckonAll 66 = .ok (.aload_n 0, 1) := by decide +kernel
theorem dX9_reckonAll_67 : decode cX9_reckonAll 67 = .ok (.getfield 48, 3) := by decide +kernel
theorem dX9_reckonAll_70 : decode cX9_reckonAll 70 = .ok (.iload 4, 2) := by decide +kernel
theorem dX9_reckonAll_72 : decode cX9_reckonAll 72 = .ok (.iaload, 1) := by decide +kernel
theorem dX9_reckonAll_73 : decode cX9_reckonAll 73 = .ok (.goto 22, 3) := by decide +kernel
theorem dX9_reckonAll_76 : decode cX9_reckonAll 76 = .ok (.aload_n 0, 1) := by decide +kernel
theorem dX9_reckonAll_77 : decode cX9_reckonAll 77 = .ok (.getfield 13, 3) := by decide +kernel
theorem dX9_reckonAll_80 : decode cX9_reckonAll 80 = .ok (.aload_n 0, 1) := by decide +kernel
theorem dX9_reckonAll_81 : decode cX9_reckonAll 81 = .ok (.getfield 407, 3) := by decide +kernel
theorem dX9_reckonAll_84 : decode cX9_reckonAll 84 = .ok (.bipush 98, 2) := by decide +kernel
theorem dX9_reckonAll_86 : decode cX9_reckonAll 86 = .ok (.iadd, 1) := by decide +kernel
theorem dX9_reckonAll_87 : decode cX9_reckonAll 87 = .ok (.iconst 2, 1) := by decide +kernel
theorem dX9_reckonAll_88 : decode cX9_reckonAll 88 = .ok (.iload 4, 2) := by decide +kernel
theorem dX9_reckonAll_90 : decode cX9_reckonAll 90 = .ok (.imul, 1) := by decide +kernel
theorem dX9_reckonAll_91 : decode cX9_reckonAll 91 = .ok (.iadd, 1) := by decide +kernel
theorem dX9_reckonAll_92 : decode cX9_reckonAll 92 = .ok (.iconst 1, 1) := by decide +kernel
theorem dX9_reckonAll_93 : decode cX9_reckonAll 93 = .ok (.iadd, 1) := by decide +kernel
theorem dX9_reckonAll_94 : decode cX9_reckonAll 94 = .ok (.iaload, 1) := by decide +kernel
theorem dX9_reckonAll_95 : decode cX9_reckonAll 95 = .ok (.istore 6, 2) := by decide +kernel
theorem dX9_reckonAll_97 : decode cX9_reckonAll 97 = .ok (.iinc 4 1, 3) := by decide +kernel
theorem dX9_reckonAll_100 : decode cX9_reckonAll 100 = .ok (.iload 5, 2) := by decide +kernel
theorem dX9_reckonAll_102 : decode cX9_reckonAll 102 = .ok (.bipush 20, 2) := by decide +kernel
theorem dX9_reckonAll_104 : decode cX9_reckonAll 104 = .ok (.if_icmp .ge 154, 3) := by decide +kernel
theorem dX9_reckonAll_107 : decode cX9_reckonAll 107 = .ok (.aload_n 0, 1) := by decide +kernel
theorem dX9_reckonAll_108 : decode cX9_reckonAll 108 = .ok (.getfield 107, 3) := by decide +kernel
theorem dX9_reckonAll_111 : decode cX9_reckonAll 111 = .ok (.iload_n 3, 1) := by decide +kernel
theorem dX9_reckonAll_112 : decode cX9_reckonAll 112 = .ok (.iload 5, 2) := by decide +kernel
theorem dX9_reckonAll_114 : decode cX9_reckonAll 114 = .ok (.ifCond .ne 9, 3) := by decide +kernel
theorem dX9_reckonAll_117 : decode cX9_reckonAll 117 = .ok (.iload 6, 2) := by decide +kernel
theorem dX9_reckonAll_119 : decode cX9_reckonAll 119 = .ok (.i2l, 1) := by decide +kernel
theorem dX9_reckonAll_120 : decode cX9_reckonAll 120 = .ok (.goto 131, 3) := by decide +kernel
theorem dX9_reckonAll_123 : decode cX9_reckonAll 123 = .ok (.aload_n 0, 1) := by decide +kernel
theorem dX9_reckonAll_124 : decode cX9_reckonAll 124 = .ok (.getfield 330, 3) := by decide +kernel
theorem dX9_reckonAll_127 : decode cX9_reckonAll 127 = .ok (.ifCond .ne 13, 3) := by decide +kernel
theorem dX9_reckonAll_130 : decode cX9_reckonAll 130 = .ok (.aload_n 0, 1) := by decide +kernel
theorem dX9_reckonAll_131 : decode cX9_reckonAll 131 = .ok (.getfield 101, 3) := by decide +kernel
theorem dX9_reckonAll_134 : decode cX9_reckonAll 134 = .ok (.iload 5, 2) := by decide +kernel
theorem dX9_reckonAll_136 : decode cX9_reckonAll 136 = .ok (.laload, 1) := by decide +kernel
theorem dX9_reckonAll_137 : decode cX9_reckonAll 137 = .ok (.goto 114, 3) := by decide +kernel
theorem dX9_reckonAll_140 : decode cX9_reckonAll 140 = .ok (.iload 5, 2) := by decide +kernel
theorem dX9_reckonAll_142 : decode cX9_reckonAll 142 = .ok (.bipush 6, 2) := by decide +kernel
theorem dX9_reckonAll_144 : decode cX9_reckonAll 144 = .ok (.if_icmp .ge 13, 3) := by decide +kernel
theorem dX9_reckonAll_147 : decode cX9_reckonAll 147 = .ok (.aload_n 0, 1) := by decide +kernel
theorem dX9_reckonAll_148 : decode cX9_reckonAll 148 = .ok (.getfield 104, 3) := by decide +kernel
theorem dX9_reckonAll_151 : decode cX9_reckonAll 151 = .ok (.iload 5, 2) := by decide +kernel
theorem dX9_reckonAll_153 : decode cX9_reckonAll 153 = .ok (.laload, 1) := by decide +kernel
theorem dX9_reckonAll_154 : decode cX9_reckonAll 154 = .ok (.goto 97, 3) := by decide +kernel
theorem dX9_reckonAll_157 : decode cX9_reckonAll 157 = .ok (.iload 5, 2) := by decide +kernel
theorem dX9_reckonAll_159 : decode cX9_reckonAll 159 = .ok (.bipush 6, 2) := by decide +kernel
theorem dX9_reckonAll_161 : decode cX9_reckonAll 161 = .ok (.if_icmp .ne 30, 3) := by decide +kernel
theorem dX9_reckonAll_164 : decode cX9_reckonAll 164 = .ok (.aload_n 0, 1) := by decide +kernel
theorem dX9_reckonAll_165 : decode cX9_reckonAll 165 = .ok (.iload 6, 2) := by decide +kernel
theorem dX9_reckonAll_167 : decode cX9_reckonAll 167 = .ok (.invokevirtual 209, 3) := by decide +kernel
theorem dX9_reckonAll_170 : decode cX9_reckonAll 170 = .ok (.ifCond .eq 16, 3) := by decide +kernel
theorem dX9_reckonAll_173 : decode cX9_reckonAll 173 = .ok (.aload_n 0, 1) := by decide +kernel
theorem dX9_reckonAll_174 : decode cX9_reckonAll 174 = .ok (.getfield 13, 3) := by decide +kernel
theorem dX9_reckonAll_177 : decode cX9_reckonAll 177 = .ok (.bipush 17, 2) := by decide +kernel
theorem dX9_reckonAll_179 : decode cX9_reckonAll 179 = .ok (.iload 6, 2) := by decide +kernel
theorem dX9_reckonAll_181 : decode cX9_reckonAll 181 = .ok (.iadd, 1) := by decide +kernel
theorem dX9_reckonAll_182 : decode cX9_reckonAll 182 = .ok (.iaload, 1) := by decide +kernel
theorem dX9_reckonAll_183 : decode cX9_reckonAll 183 = .ok (.goto 4, 3) := by decide +kernel
theorem dX9_reckonAll_186 : decode cX9_reckonAll 186 = .ok (.iconst (-1), 1) := by decide +kernel
theorem dX9_reckonAll_187 : decode cX9_reckonAll 187 = .ok (.i2l, 1) := by decide +kernel
theorem dX9_reckonAll_188 : decode cX9_reckonAll 188 = .ok (.goto 63, 3) := by decide +kernel
theorem dX9_reckonAll_191 : decode cX9_reckonAll 191 = .ok (.iload 5, 2) := by decide +kernel
theorem dX9_reckonAll_193 : decode cX9_reckonAll 193 = .ok (.bipush 7, 2) := by decide +kernel
theorem dX9_reckonAll_195 : decode cX9_reckonAll 195 = .ok (.if_icmp .ne 30, 3) := by decide +kernel
theorem dX9_reckonAll_198 : decode cX9_reckonAll 198 = .ok (.aload_n 0, 1) := by decide +kernel
theorem dX9_reckonAll_199 : decode cX9_reckonAll 199 = .ok (.iload 6, 2) := by decide +kernel
theorem dX9_reckonAll_201 : decode cX9_reckonAll 201 = .ok (.invokevirtual 212, 3) := by decide +kernel
theorem dX9_reckonAll_204 : decode cX9_reckonAll 204 = .ok (.ifCond .eq 16, 3) := by decide +kernel
theorem dX9_reckonAll_207 : decode cX9_reckonAll 207 = .ok (.aload_n 0, 1) := by decide +kernel
theorem dX9_reckonAll_208 : decode cX9_reckonAll 208 = .ok (.getfield 13, 3) := by decide +kernel
theorem dX9_reckonAll_211 : decode cX9_reckonAll 211 = .ok (.bipush 21, 2) := by decide +kernel
theorem dX9_reckonAll_213 : decode cX9_reckonAll 213 = .ok (.iload 6, 2) := by decide +kernel
theorem dX9_reckonAll_215 : decode cX9_reckonAll 215 = .ok (.iadd, 1) := by decide +kernel
theorem dX9_reckonAll_216 : decode cX9_reckonAll 216 = .ok (.iaload, 1) := by decide +kernel
theorem dX9_reckonAll_217 : decode cX9_reckonAll 217 = .ok (.goto 4, 3) := by decide +kernel
theorem dX9_reckonAll_220 : decode cX9_reckonAll 220 = .ok (.iconst (-1), 1) := by decide +kernel
theorem dX9_reckonAll_221 : decode cX9_reckonAll 221 = .ok (.i2l, 1) := by decide +kernel
theorem dX9_reckonAll_222 : decode cX9_reckonAll 222 = .ok (.goto 29, 3) := by decide +kernel
theorem dX9_reckonAll_225 : decode cX9_reckonAll 225 = .ok (.aload_n 0, 1) := by decide +kernel
theorem dX9_reckonAll_226 : decode cX9_reckonAll 226 = .ok (.iload 6, 2) := by decide +kernel
theorem dX9_reckonAll_228 : decode cX9_reckonAll 228 = .ok (.invokevirtual 218, 3) := by decide +kernel
theorem dX9_reckonAll_231 : decode cX9_reckonAll 231 = .ok (.ifCond .eq 17, 3) := by decide +kernel
theorem dX9_reckonAll_234 : decode cX9_reckonAll 234 = .ok (.aload_n 0, 1) := by decide +kernel
theorem dX9_reckonAll_235 : decode cX9_reckonAll 235 = .ok (.getfield 13, 3) := by decide +kernel
theorem dX9_reckonAll_238 : decode cX9_reckonAll 238 = .ok (.bipush 24, 2) := by decide +kernel
theorem dX9_reckonAll_240 : decode cX9_reckonAll 240 = .ok (.iload 6, 2) := by decide +kernel
theorem dX9_reckonAll_242 : decode cX9_reckonAll 242 = .ok (.iadd, 1) := by decide +kernel
theorem dX9_reckonAll_243 : decode cX9_reckonAll 243 = .ok (.iaload, 1) := by decide +kernel
theorem dX9_reckonAll_244 : decode cX9_reckonAll 244 = .ok (.i2l, 1) := by decide +kernel
theorem dX9_reckonAll_245 : decode cX9_reckonAll 245 = .ok (.goto 6, 3) := by decide +kernel
theorem dX9_reckonAll_248 : decode cX9_reckonAll 248 = .ok (.ldc2_w 281, 3) := by decide +kernel
theorem dX9_reckonAll_251 : decode cX9_reckonAll 251 = .ok (.lastore, 1) := by decide +kernel
theorem dX9_reckonAll_252 : decode cX9_reckonAll 252 = .ok (.iinc 3 1, 3) := by decide +kernel
theorem dX9_reckonAll_255 : decode cX9_reckonAll 255 = .ok (.goto 142, 3) := by decide +kernel
theorem dX9_reckonAll_258 : decode cX9_reckonAll 258 = .ok (.iload 5, 2) := by decide +kernel
theorem dX9_reckonAll_260 : decode cX9_reckonAll 260 = .ok (.bipush 28, 2) := by decide +kernel
theorem dX9_reckonAll_262 : decode cX9_reckonAll 262 = .ok (.if_icmp .ge 73, 3) := by decide +kernel
theorem dX9_reckonAll_265 : decode cX9_reckonAll 265 = .ok (.iinc 3 (-1), 3) := by decide +kernel
theorem dX9_reckonAll_268 : decode cX9_reckonAll 268 = .ok (.aload_n 0, 1) := by decide +kernel
theorem dX9_reckonAll_269 : decode cX9_reckonAll 269 = .ok (.getfield 107, 3) := by decide +kernel
theorem dX9_reckonAll_272 : decode cX9_reckonAll 272 = .ok (.iload_n 3, 1) := by decide +kernel
theorem dX9_reckonAll_273 : decode cX9_reckonAll 273 = .ok (.iconst 1, 1) := by decide +kernel
theorem dX9_reckonAll_274 : decode cX9_reckonAll 274 = .ok (.isub, 1) := by decide +kernel
theorem dX9_reckonAll_275 : decode cX9_reckonAll 275 = .ok (.aload_n 0, 1) := by decide +kernel
theorem dX9_reckonAll_276 : decode cX9_reckonAll 276 = .ok (.iload 5, 2) := by decide +kernel
theorem dX9_reckonAll_278 : decode cX9_reckonAll 278 = .ok (.aload_n 0, 1) := by decide +kernel
theorem dX9_reckonAll_279 : decode cX9_reckonAll 279 = .ok (.getfield 107, 3) := by decide +kernel
theorem dX9_reckonAll_282 : decode cX9_reckonAll 282 = .ok (.iload_n 3, 1) := by decide +kernel
theorem dX9_reckonAll_283 : decode cX9_reckonAll 283 = .ok (.iconst 1, 1) := by decide +kernel
theorem dX9_reckonAll_284 : decode cX9_reckonAll 284 = .ok (.isub, 1) := by decide +kernel
theorem dX9_reckonAll_285 : decode cX9_reckonAll 285 = .ok (.laload, 1) := by decide +kernel
theorem dX9_reckonAll_286 : decode cX9_reckonAll 286 = .ok (.aload_n 0, 1) := by decide +kernel
theorem dX9_reckonAll_287 : decode cX9_reckonAll 287 = .ok (.getfield 107, 3) := by decide +kernel
theorem dX9_reckonAll_290 : decode cX9_reckonAll 290 = .ok (.iload_n 3, 1) := by decide +kernel
theorem dX9_reckonAll_291 : decode cX9_reckonAll 291 = .ok (.laload, 1) := by decide +kernel
theorem dX9_reckonAll_292 : decode cX9_reckonAll 292 = .ok (.invokevirtual 410, 3) := by decide +kernel
theorem dX9_reckonAll_295 : decode cX9_reckonAll 295 = .ok (.lastore, 1) := by decide +kernel
theorem dX9_reckonAll_296 : decode cX9_reckonAll 296 = .ok (.aload_n 0, 1) := by decide +kernel
theorem dX9_reckonAll_297 : decode cX9_reckonAll 297 = .ok (.aload_n 0, 1) := by decide +kernel
theorem dX9_reckonAll_298 : decode cX9_reckonAll 298 = .ok (.getfield 404, 3) := by decide +kernel
theorem dX9_reckonAll_301 : decode cX9_reckonAll 301 = .ok (.ifCond .ne 23, 3) := by decide +kernel
theorem dX9_reckonAll_304 : decode cX9_reckonAll 304 = .ok (.aload_n 0, 1) := by decide +kernel
theorem dX9_reckonAll_305 : decode cX9_reckonAll 305 = .ok (.getfield 107, 3) := by decide +kernel
theorem dX9_reckonAll_308 : decode cX9_reckonAll 308 = .ok (.iload_n 3, 1) := by decide +kernel
theorem dX9_reckonAll_309 : decode cX9_reckonAll 309 = .ok (.iconst 1, 1) := by decide +kernel
theorem dX9_reckonAll_310 : decode cX9_reckonAll 310 = .ok (.isub, 1) := by decide +kernel
theorem dX9_reckonAll_311 : decode cX9_reckonAll 311 = .ok (.laload, 1) := by decide +kernel
theorem dX9_reckonAll_312 : decode cX9_reckonAll 312 = .ok (.ldc2_w 414, 3) := by decide +kernel
theorem dX9_reckonAll_315 : decode cX9_reckonAll 315 = .ok (.ldc2_w 416, 3) := by decide +kernel
theorem dX9_reckonAll_318 : decode cX9_reckonAll 318 = .ok (.invokestatic 181, 3) := by decide +kernel
theorem dX9_reckonAll_321 : decode cX9_reckonAll 321 = .ok (.ifCond .ne 7, 3) := by decide +kernel
theorem dX9_reckonAll_324 : decode cX9_reckonAll 324 = .ok (.iconst 1, 1) := by decide +kernel
theorem dX9_reckonAll_325 : decode cX9_reckonAll 325 = .ok (.goto 4, 3) := by decide +kernel
theorem dX9_reckonAll_328 : decode cX9_reckonAll 328 = .ok (.iconst 0, 1) := by decide +kernel
theorem dX9_reckonAll_329 : decode cX9_reckonAll 329 = .ok (.putfield 404, 3) := by decide +kernel
theorem dX9_reckonAll_332 : decode cX9_reckonAll 332 = .ok (.goto 65, 3) := by decide +kernel
theorem dX9_reckonAll_335 : decode cX9_reckonAll 335 = .ok (.iload 5, 2) := by decide +kernel
theorem dX9_reckonAll_337 : decode cX9_reckonAll 337 = .ok (.bipush 28, 2) := by decide +kernel
theorem dX9_reckonAll_339 : decode cX9_reckonAll 339 = .ok (.if_icmp .ne 24, 3) := by decide +kernel
theorem dX9_reckonAll_342 : decode cX9_reckonAll 342 = .ok (.aload_n 0, 1) := by decide +kernel
theorem dX9_reckonAll_343 : decode cX9_reckonAll 343 = .ok (.getfield 107, 3) := by decide +kernel
theorem dX9_reckonAll_346 : decode cX9_reckonAll 346 = .ok (.iload_n 3, 1) := by decide +kernel
theorem dX9_reckonAll_347 : decode cX9_reckonAll 347 = .ok (.iconst 1, 1) := by decide +kernel
theorem dX9_reckonAll_348 : decode cX9_reckonAll 348 = .ok (.isub, 1) := by decide +kernel
theorem dX9_reckonAll_349 : decode cX9_reckonAll 349 = .ok (.lconst 1, 1) := by decide +kernel
theorem dX9_reckonAll_350 : decode cX9_reckonAll 350 = .ok (.aload_n 0, 1) := by decide +kernel
theorem dX9_reckonAll_351 : decode cX9_reckonAll 351 = .ok (.getfield 107, 3) := by decide +kernel
theorem dX9_reckonAll_354 : decode cX9_reckonAll 354 = .ok (.iload_n 3, 1) := by decide +kernel
theorem dX9_reckonAll_355 : decode cX9_reckonAll 355 = .ok (.iconst 1, 1) := by decide +kernel
theorem dX9_reckonAll_356 : decode cX9_reckonAll 356 = .ok (.isub, 1) := by decide +kernel
theorem dX9_reckonAll_357 : decode cX9_reckonAll 357 = .ok (.laload, 1) := by decide +kernel
theorem dX9_reckonAll_358 : decode cX9_reckonAll 358 = .ok (.lsub, 1) := by decide +kernel
theorem dX9_reckonAll_359 : decode cX9_reckonAll 359 = .ok (.lastore, 1) := by decide +kernel
theorem dX9_reckonAll_360 : decode cX9_reckonAll 360 = .ok (.goto 37, 3) := by decide +kernel
theorem dX9_reckonAll_363 : decode cX9_reckonAll 363 = .ok (.aload_n 0, 1) := by decide +kernel
theorem dX9_reckonAll_364 : decode cX9_reckonAll 364 = .ok (.getfield 107, 3) := by decide +kernel
theorem dX9_reckonAll_367 : decode cX9_reckonAll 367 = .ok (.iload_n 3, 1) := by decide +kernel
theorem dX9_reckonAll_368 : decode cX9_reckonAll 368 = .ok (.iconst 1, 1) := by decide +kernel
theorem dX9_reckonAll_369 : decode cX9_reckonAll 369 = .ok (.isub, 1) := by decide +kernel
theorem dX9_reckonAll_370 : decode cX9_reckonAll 370 = .ok (.laload, 1) := by decide +kernel
theorem dX9_reckonAll_371 : decode cX9_reckonAll 371 = .ok (.iload 5, 2) := by decide +kernel
theorem dX9_reckonAll_373 : decode cX9_reckonAll 373 = .ok (.bipush 29, 2) := by decide +kernel
theorem dX9_reckonAll_375 : decode cX9_reckonAll 375 = .ok (.if_icmp .ne 7, 3) := by decide +kernel
theorem dX9_reckonAll_378 : decode cX9_reckonAll 378 = .ok (.lconst 0, 1) := by decide +kernel
theorem dX9_reckonAll_379 : decode cX9_reckonAll 379 = .ok (.goto 4, 3) := by decide +kernel
theorem dX9_reckonAll_382 : decode cX9_reckonAll 382 = .ok (.lconst 1, 1) := by decide +kernel
theorem dX9_reckonAll_383 : decode cX9_reckonAll 383 = .ok (.lcmp, 1) := by decide +kernel
theorem dX9_reckonAll_384 : decode cX9_reckonAll 384 = .ok (.ifCond .ne 10, 3) := by decide +kernel
theorem dX9_reckonAll_387 : decode cX9_reckonAll 387 = .ok (.iload 6, 2) := by decide +kernel
theorem dX9_reckonAll_389 : decode cX9_reckonAll 389 = .ok (.istore 4, 2) := by decide +kernel
theorem dX9_reckonAll_391 : decode cX9_reckonAll 391 = .ok (.goto 6, 3) := by decide +kernel
theorem dX9_reckonAll_394 : decode cX9_reckonAll 394 = .ok (.iinc 3 (-1), 3) := by decide +kernel
theorem dX9_reckonAll_397 : decode cX9_reckonAll 397 = .ok (.goto (-387), 3) := by decide +kernel
theorem dX9_reckonAll_400 : decode cX9_reckonAll 400 = .ok (.aload_n 0, 1) := by decide +kernel
theorem dX9_reckonAll_401 : decode cX9_reckonAll 401 = .ok (.iload_n 3, 1) := by decide +kernel
theorem dX9_reckonAll_402 : decode cX9_reckonAll 402 = .ok (.ifCond .le 12, 3) := by decide +kernel
theorem dX9_reckonAll_405 : decode cX9_reckonAll 405 = .ok (.aload_n 0, 1) := by decide +kernel
theorem dX9_reckonAll_406 : decode cX9_reckonAll 406 = .ok (.getfield 107, 3) := by decide +kernel
theorem dX9_reckonAll_409 : decode cX9_reckonAll 409 = .ok (.iconst 0, 1) := by decide +kernel
theorem dX9_reckonAll_410 : decode cX9_reckonAll 410 = .ok (.laload, 1) := by decide +kernel
theorem dX9_reckonAll_411 : decode cX9_reckonAll 411 = .ok (.goto 4, 3) := by decide +kernel
theorem dX9_reckonAll_414 : decode cX9_reckonAll 414 = .ok (.lconst 0, 1) := by decide +kernel
theorem dX9_reckonAll_415 : decode cX9_reckonAll 415 = .ok (.putfield 418, 3) := by decide +kernel
theorem dX9_reckonAll_418 : decode cX9_reckonAll 418 = .ok (.return_, 1) := by decide +kernel
theorem dX9_isSo_0 : decode cX9_isSo 0 = .ok (.aload_n 0, 1) := by decide +kernel
theorem dX9_isSo_1 : decode cX9_isSo 1 = .ok (.getfield 13, 3) := by decide +kernel
theorem dX9_isSo_4 : decode cX9_isSo 4 = .ok (.iload_n 1, 1) := by decide +kernel
theorem dX9_isSo_5 : decode cX9_isSo 5 = .ok (.iconst 5, 1) := by decide +kernel
theorem dX9_isSo_6 : decode cX9_isSo 6 = .ok (.iadd, 1) := by decide +kernel
theorem dX9_isSo_7 : decode cX9_isSo 7 = .ok (.iaload, 1) := by decide +kernel
theorem dX9_isSo_8 : decode cX9_isSo 8 = .ok (.aload_n 0, 1) := by decide +kernel
theorem dX9_isSo_9 : decode cX9_isSo 9 = .ok (.getfield 13, 3) := by decide +kernel
theorem dX9_isSo_12 : decode cX9_isSo 12 = .ok (.iload_n 1, 1) := by decide +kernel
theorem dX9_isSo_13 : decode cX9_isSo 13 = .ok (.bipush 6, 2) := by decide +kernel
theorem dX9_isSo_15 : decode cX9_isSo 15 = .ok (.iadd, 1) := by decide +kernel
theorem dX9_isSo_16 : decode cX9_isSo 16 = .ok (.iaload, 1) := by decide +kernel
theorem dX9_isSo_17 : decode cX9_isSo 17 = .ok (.if_icmp .ge 42, 3) := by decide +kernel
theorem dX9_isSo_20 : decode cX9_isSo 20 = .ok (.aload_n 0, 1) := by decide +kernel
theorem dX9_isSo_21 : decode cX9_isSo 21 = .ok (.aload_n 0, 1) := by decide +kernel
theorem dX9_isSo_22 : decode cX9_isSo 22 = .ok (.getfield 13, 3) := by decide +kernel
theorem dX9_isSo_25 : decode cX9_isSo 25 = .ok (.iload_n 1, 1) := by decide +kernel
theorem dX9_isSo_26 : decode cX9_isSo 26 = .ok (.iconst 5, 1) := by decide +kernel
theorem dX9_isSo_27 : decode cX9_isSo 27 = .ok (.iadd, 1) := by decide +kernel
theorem dX9_isSo_28 : decode cX9_isSo 28 = .ok (.iaload, 1) := by decide +kernel
theorem dX9_isSo_29 : decode cX9_isSo 29 = .ok (.aload_n 0, 1) := by decide +kernel
theorem dX9_isSo_30 : decode cX9_isSo 30 = .ok (.getfield 13, 3) := by decide +kernel
theorem dX9_isSo_33 : decode cX9_isSo 33 = .ok (.iload_n 1, 1) := by decide +kernel
theorem dX9_isSo_34 : decode cX9_isSo 34 = .ok (.bipush 6, 2) := by decide +kernel
theorem dX9_isSo_36 : decode cX9_isSo 36 = .ok (.iadd, 1) := by decide +kernel
theorem dX9_isSo_37 : decode cX9_isSo 37 = .ok (.iaload, 1) := by decide +kernel
theorem dX9_isSo_38 : decode cX9_isSo 38 = .ok (.invokevirtual 421, 3) := by decide +kernel
theorem dX9_isSo_41 : decode cX9_isSo 41 = .ok (.aload_n 0, 1) := by decide +kernel
theorem dX9_isSo_42 : decode cX9_isSo 42 = .ok (.getfield 404, 3) := by decide +kernel
theorem dX9_isSo_45 : decode cX9_isSo 45 = .ok (.ifCond .ne 12, 3) := by decide +kernel
theorem dX9_isSo_48 : decode cX9_isSo 48 = .ok (.aload_n 0, 1) := by decide +kernel
theorem dX9_isSo_49 : decode cX9_isSo 49 = .ok (.getfield 418, 3) := by decide +kernel
theorem dX9_isSo_52 : decode cX9_isSo 52 = .ok (.lconst 0, 1) := by decide +kernel
theorem dX9_isSo_53 : decode cX9_isSo 53 = .ok (.lcmp, 1) := by decide +kernel
theorem dX9_isSo_54 : decode cX9_isSo 54 = .ok (.ifCond .ne 5, 3) := by decide +kernel
theorem dX9_isSo_57 : decode cX9_isSo 57 = .ok (.iconst 0, 1) := by decide +kernel
theorem dX9_isSo_58 : decode cX9_isSo 58 = .ok (.ireturn, 1) := by decide +kernel
theorem dX9_isSo_59 : decode cX9_isSo 59 = .ok (.aload_n 0, 1) := by decide +kernel
theorem dX9_isSo_60 : decode cX9_isSo 60 = .ok (.getfield 13, 3) := by decide +kernel
theorem dX9_isSo_63 : decode cX9_isSo 63 = .ok (.iload_n 1, 1) := by decide +kernel
theorem dX9_isSo_64 : decode cX9_isSo 64 = .ok (.iaload, 1) := by decide +kernel
theorem dX9_isSo_65 : decode cX9_isSo 65 = .ok (.iconst 2, 1) := by decide +kernel
theorem dX9_isSo_66 : decode cX9_isSo 66 = .ok (.if_icmp .eq 44, 3) := by decide +kernel
theorem dX9_isSo_69 : decode cX9_isSo 69 = .ok (.aload_n 0, 1) := by decide +kernel
theorem dX9_isSo_70 : decode cX9_isSo 70 = .ok (.aload_n 0, 1) := by decide +kernel
theorem dX9_isSo_71 : decode cX9_isSo 71 = .ok (.getfield 13, 3) := by decide +kernel
theorem dX9_isSo_74 : decode cX9_isSo 74 = .ok (.iload_n 1, 1) := by decide +kernel
theorem dX9_isSo_75 : decode cX9_isSo 75 = .ok (.iconst 3, 1) := by decide +kernel
theorem dX9_isSo_76 : decode cX9_isSo 76 = .ok (.iadd, 1) := by decide +kernel
theorem dX9_isSo_77 : decode cX9_isSo 77 = .ok (.iaload, 1) := by decide +kernel
theorem dX9_isSo_78 : decode cX9_isSo 78 = .ok (.aload_n 0, 1) := by decide +kernel
theorem dX9_isSo_79 : decode cX9_isSo 79 = .ok (.getfield 13, 3) := by decide +kernel
theorem dX9_isSo_82 : decode cX9_isSo 82 = .ok (.iload_n 1, 1) := by decide +kernel
theorem dX9_isSo_83 : decode cX9_isSo 83 = .ok (.iconst 4, 1) := by decide +kernel
theorem dX9_isSo_84 : decode cX9_isSo 84 = .ok (.iadd, 1) := by decide +kernel
theorem dX9_isSo_85 : decode cX9_isSo 85 = .ok (.iaload, 1) := by decide +kernel
theorem dX9_isSo_86 : decode cX9_isSo 86 = .ok (.invokevirtual 421, 3) := by decide +kernel
theorem dX9_isSo_89 : decode cX9_isSo 89 = .ok (.aload_n 0, 1) := by decide +kernel
theorem dX9_isSo_90 : decode cX9_isSo 90 = .ok (.aload_n 0, 1) := by decide +kernel
theorem dX9_isSo_91 : decode cX9_isSo 91 = .ok (.getfield 418, 3) := by decide +kernel
theorem dX9_isSo_94 : decode cX9_isSo 94 = .ok (.putfield 424, 3) := by decide +kernel
theorem dX9_isSo_97 : decode cX9_isSo 97 = .ok (.aload_n 0, 1) := by decide +kernel
theorem dX9_isSo_98 : decode cX9_isSo 98 = .ok (.getfield 404, 3) := by decide +kernel
theorem dX9_isSo_101 : decode cX9_isSo 101 = .ok (.ifCond .ne 7, 3) := by decide +kernel
theorem dX9_isSo_104 : decode cX9_isSo 104 = .ok (.iconst 1, 1) := by decide +kernel
theorem dX9_isSo_105 : decode cX9_isSo 105 = .ok (.goto 4, 3) := by decide +kernel
theorem dX9_isSo_108 : decode cX9_isSo 108 = .ok (.iconst 0, 1) := by decide +kernel
theorem dX9_isSo_109 : decode cX9_isSo 109 = .ok (.ireturn, 1) := by decide +kernel
theorem dX9_isSo_110 : decode cX9_isSo 110 = .ok (.iconst 1, 1) := by decide +kernel
theorem dX9_isSo_111 : decode cX9_isSo 111 = .ok (.ireturn, 1) := by decide +kernel
theorem dX9_tells_0 : decode cX9_tells 0 = .ok (.aload_n 0, 1) := by decide +kernel
theorem dX9_tells_1 : decode cX9_tells 1 = .ok (.getfield 13, 3) := by decide +kernel
theorem dX9_tells_4 : decode cX9_tells 4 = .ok (.bipush 6, 2) := by decide +kernel
theorem dX9_tells_6 : decode cX9_tells 6 = .ok (.iaload, 1) := by decide +kernel
theorem dX9_tells_7 : decode cX9_tells 7 = .ok (.iconst (-1), 1) := by decide +kernel
theorem dX9_tells_8 : decode cX9_tells 8 = .ok (.if_icmp .ne 6, 3) := by decide +kernel
theorem dX9_tells_11 : decode cX9_tells 11 = .ok (.lload 6, 2) := by decide +kernel
theorem dX9_tells_13 : decode cX9_tells 13 = .ok (.lreturn, 1) := by decide +kernel
theorem dX9_tells_14 : decode cX9_tells 14 = .ok (.aload_n 0, 1) := by decide +kernel
theorem dX9_tells_15 : decode cX9_tells 15 = .ok (.sipush 178, 3) := by decide +kernel
theorem dX9_tells_18 : decode cX9_tells 18 = .ok (.sipush 900, 3) := by decide +kernel
theorem dX9_tells_21 : decode cX9_tells 21 = .ok (.aload_n 0, 1) := by decide +kernel
theorem dX9_tells_22 : decode cX9_tells 22 = .ok (.getfield 13, 3) := by decide +kernel
theorem dX9_tells_25 : decode cX9_tells 25 = .ok (.bipush 6, 2) := by decide +kernel
theorem dX9_tells_27 : decode cX9_tells 27 = .ok (.iaload, 1) := by decide +kernel
theorem dX9_tells_28 : decode cX9_tells 28 = .ok (.imul, 1) := by decide +kernel
theorem dX9_tells_29 : decode cX9_tells 29 = .ok (.iadd, 1) := by decide +kernel
theorem dX9_tells_30 : decode cX9_tells 30 = .ok (.putfield 407, 3) := by decide +kernel
theorem dX9_tells_33 : decode cX9_tells 33 = .ok (.aload_n 0, 1) := by decide +kernel
theorem dX9_tells_34 : decode cX9_tells 34 = .ok (.getfield 101, 3) := by decide +kernel
theorem dX9_tells_37 : decode cX9_tells 37 = .ok (.iconst 1, 1) := by decide +kernel
theorem dX9_tells_38 : decode cX9_tells 38 = .ok (.iload_n 2, 1) := by decide +kernel
theorem dX9_tells_39 : decode cX9_tells 39 = .ok (.i2l, 1) := by decide +kernel
theorem dX9_tells_40 : decode cX9_tells 40 = .ok (.lastore, 1) := by decide +kernel
theorem dX9_tells_41 : decode cX9_tells 41 = .ok (.aload_n 0, 1) := by decide +kernel
theorem dX9_tells_42 : decode cX9_tells 42 = .ok (.getfield 101, 3) := by decide +kernel
theorem dX9_tells_45 : decode cX9_tells 45 = .ok (.iconst 2, 1) := by decide +kernel
theorem dX9_tells_46 : decode cX9_tells 46 = .ok (.aload_n 0, 1) := by decide +kernel
theorem dX9_tells_47 : decode cX9_tells 47 = .ok (.getfield 13, 3) := by decide +kernel
theorem dX9_tells_50 : decode cX9_tells 50 = .ok (.bipush 7, 2) := by decide +kernel
theorem dX9_tells_52 : decode cX9_tells 52 = .ok (.iaload, 1) := by decide +kernel
theorem dX9_tells_53 : decode cX9_tells 53 = .ok (.bipush 24, 2) := by decide +kernel
theorem dX9_tells_55 : decode cX9_tells 55 = .ok (.irem, 1) := by decide +kernel
theorem dX9_tells_56 : decode cX9_tells 56 = .ok (.i2l, 1) := by decide +kernel
theorem dX9_tells_57 : decode cX9_tells 57 = .ok (.lastore, 1) := by decide +kernel
theorem dX9_tells_58 : decode cX9_tells 58 = .ok (.aload_n 0, 1) := by decide +kernel
theorem dX9_tells_59 : decode cX9_tells 59 = .ok (.getfield 101, 3) := by decide +kernel
theorem dX9_tells_62 : decode cX9_tells 62 = .ok (.iconst 3, 1) := by decide +kernel
theorem dX9_tells_63 : decode cX9_tells 63 = .ok (.aload_n 0, 1) := by decide +kernel
theorem dX9_tells_64 : decode cX9_tells 64 = .ok (.getfield 13, 3) := by decide +kernel
theorem dX9_tells_67 : decode cX9_tells 67 = .ok (.bipush 7, 2) := by decide +kernel
theorem dX9_tells_69 : decode cX9_tells 69 = .ok (.iaload, 1) := by decide +kernel
theorem dX9_tells_70 : decode cX9_tells 70 = .ok (.i2l, 1) := by decide +kernel
theorem dX9_tells_71 : decode cX9_tells 71 = .ok (.lastore, 1) := by decide +kernel
theorem dX9_tells_72 : decode cX9_tells 72 = .ok (.aload_n 0, 1) := by decide +kernel
theorem dX9_tells_73 : decode cX9_tells 73 = .ok (.getfield 101, 3) := by decide +kernel
theorem dX9_tells_76 : decode cX9_tells 76 = .ok (.iconst 4, 1) := by decide +kernel
theorem dX9_tells_77 : decode cX9_tells 77 = .ok (.iload_n 3, 1) := by decide +kernel
theorem dX9_tells_78 : decode cX9_tells 78 = .ok (.i2l, 1) := by decide +kernel
theorem dX9_tells_79 : decode cX9_tells 79 = .ok (.lastore, 1) := by decide +kernel
theorem dX9_tells_80 : decode cX9_tells 80 = .ok (.aload_n 0, 1) := by decide +kernel
theorem dX9_tells_81 : decode cX9_tells 81 = .ok (.getfield 101, 3) := by decide +kernel
theorem dX9_tells_84 : decode cX9_tells 84 = .ok (.iconst 5, 1) := by decide +kernel
theorem dX9_tells_85 : decode cX9_tells 85 = .ok (.iload 4, 2) := by decide +kernel
theorem dX9_tells_87 : decode cX9_tells 87 = .ok (.i2l, 1) := by decide +kernel
theorem dX9_tells_88 : decode cX9_tells 88 = .ok (.lastore, 1) := by decide +kernel
theorem dX9_tells_89 : decode cX9_tells 89 = .ok (.aload_n 0, 1) := by decide +kernel
theorem dX9_tells_90 : decode cX9_tells 90 = .ok (.getfield 101, 3) := by decide +kernel
theorem dX9_tells_93 : decode cX9_tells 93 = .ok (.bipush 6, 2) := by decide +kernel
theorem dX9_tells_95 : decode cX9_tells 95 = .ok (.iload 4, 2) := by decide +kernel
theorem dX9_tells_97 : decode cX9_tells 97 = .ok (.iconst (-1), 1) := by decide +kernel
theorem dX9_tells_98 : decode cX9_tells 98 = .ok (.if_icmp .ne 9, 3) := by decide +kernel
theorem dX9_tells_101 : decode cX9_tells 101 = .ok (.ldc2_w 281, 3) := by decide +kernel
theorem dX9_tells_104 : decode cX9_tells 104 = .ok (.goto 15, 3) := by decide +kernel
theorem dX9_tells_107 : decode cX9_tells 107 = .ok (.aload_n 0, 1) := by decide +kernel
theorem dX9_tells_108 : decode cX9_tells 108 = .ok (.getfield 13, 3) := by decide +kernel
theorem dX9_tells_111 : decode cX9_tells 111 = .ok (.sipush 150, 3) := by decide +kernel
theorem dX9_tells_114 : decode cX9_tells 114 = .ok (.iload 4, 2) := by decide +kernel
theorem dX9_tells_116 : decode cX9_tells 116 = .ok (.iadd, 1) := by decide +kernel
theorem dX9_tells_117 : decode cX9_tells 117 = .ok (.iaload, 1) := by decide +kernel
theorem dX9_tells_118 : decode cX9_tells 118 = .ok (.i2l, 1) := by decide +kernel
theorem dX9_tells_119 : decode cX9_tells 119 = .ok (.lastore, 1) := by decide +kernel
theorem dX9_tells_120 : decode cX9_tells 120 = .ok (.aload_n 0, 1) := by decide +kernel
theorem dX9_tells_121 : decode cX9_tells 121 = .ok (.getfield 101, 3) := by decide +kernel
theorem dX9_tells_124 : decode cX9_tells 124 = .ok (.bipush 7, 2) := by decide +kernel
theorem dX9_tells_126 : decode cX9_tells 126 = .ok (.iload 5, 2) := by decide +kernel
theorem dX9_tells_128 : decode cX9_tells 128 = .ok (.i2l, 1) := by decide +kernel
theorem dX9_tells_129 : decode cX9_tells 129 = .ok (.lastore, 1) := by decide +kernel
theorem dX9_tells_130 : decode cX9_tells 130 = .ok (.aload_n 0, 1) := by decide +kernel
theorem dX9_tells_131 : decode cX9_tells 131 = .ok (.getfield 101, 3) := by decide +kernel
theorem dX9_tells_134 : decode cX9_tells 134 = .ok (.bipush 8, 2) := by decide +kernel
theorem dX9_tells_136 : decode cX9_tells 136 = .ok (.iload 5, 2) := by decide +kernel
theorem dX9_tells_138 : decode cX9_tells 138 = .ok (.iconst (-1), 1) := by decide +kernel
theorem dX9_tells_139 : decode cX9_tells 139 = .ok (.if_icmp .ne 9, 3) := by decide +kernel
theorem dX9_tells_142 : decode cX9_tells 142 = .ok (.ldc2_w 281, 3) := by decide +kernel
theorem dX9_tells_145 : decode cX9_tells 145 = .ok (.goto 14, 3) := by decide +kernel
theorem dX9_tells_148 : decode cX9_tells 148 = .ok (.aload_n 0, 1) := by decide +kernel
theorem dX9_tells_149 : decode cX9_tells 149 = .ok (.getfield 13, 3) := by decide +kernel
theorem dX9_tells_152 : decode cX9_tells 152 = .ok (.bipush 40, 2) := by decide +kernel
theorem dX9_tells_154 : decode cX9_tells 154 = .ok (.iload 5, 2) := by decide +kernel
theorem dX9_tells_156 : decode cX9_tells 156 = .ok (.iadd, 1) := by decide +kernel
theorem dX9_tells_157 : decode cX9_tells 157 = .ok (.iaload, 1) := by decide +kernel
theorem dX9_tells_158 : decode cX9_tells 158 = .ok (.i2l, 1) := by decide +kernel
theorem dX9_tells_159 : decode cX9_tells 159 = .ok (.lastore, 1) := by decide +kernel
theorem dX9_tells_160 : decode cX9_tells 160 = .ok (.aload_n 0, 1) := by decide +kernel
theorem dX9_tells_161 : decode cX9_tells 161 = .ok (.getfield 101, 3) := by decide +kernel
theorem dX9_tells_164 : decode cX9_tells 164 = .ok (.bipush 9, 2) := by decide +kernel
theorem dX9_tells_166 : decode cX9_tells 166 = .ok (.aload_n 0, 1) := by decide +kernel
theorem dX9_tells_167 : decode cX9_tells 167 = .ok (.getfield 13, 3) := by decide +kernel
theorem dX9_tells_170 : decode cX9_tells 170 = .ok (.bipush 9, 2) := by decide +kernel
theorem dX9_tells_172 : decode cX9_tells 172 = .ok (.iaload, 1) := by decide +kernel
theorem dX9_tells_173 : decode cX9_tells 173 = .ok (.i2l, 1) := by decide +kernel
theorem dX9_tells_174 : decode cX9_tells 174 = .ok (.lastore, 1) := by decide +kernel
theorem dX9_tells_175 : decode cX9_tells 175 = .ok (.lload 6, 2) := by decide +kernel
theorem dX9_tells_177 : decode cX9_tells 177 = .ok (.lstore 8, 2) := by decide +kernel
theorem dX9_tells_179 : decode cX9_tells 179 = .ok (.iconst 0, 1) := by decide +kernel
theorem dX9_tells_180 : decode cX9_tells 180 = .ok (.istore 10, 2) := by decide +kernel
theorem dX9_tells_182 : decode cX9_tells 182 = .ok (.iload 10, 2) := by decide +kernel
theorem dX9_tells_184 : decode cX9_tells 184 = .ok (.aload_n 0, 1) := by decide +kernel
theorem dX9_tells_185 : decode cX9_tells 185 = .ok (.getfield 13, 3) := by decide +kernel
theorem dX9_tells_188 : decode cX9_tells 188 = .ok (.aload_n 0, 1) := by decide +kernel
theorem dX9_tells_189 : decode cX9_tells 189 = .ok (.getfield 407, 3) := by decide +kernel
theorem dX9_tells_192 : decode cX9_tells 192 = .ok (.iconst 1, 1) := by decide +kernel
theorem dX9_tells_193 : decode cX9_tells 193 = .ok (.iadd, 1) := by decide +kernel
theorem dX9_tells_194 : decode cX9_tells 194 = .ok (.iaload, 1) := by decide +kernel
theorem dX9_tells_195 : decode cX9_tells 195 = .ok (.if_icmp .ge 58, 3) := by decide +kernel
theorem dX9_tells_198 : decode cX9_tells 198 = .ok (.aload_n 0, 1) := by decide +kernel
theorem dX9_tells_199 : decode cX9_tells 199 = .ok (.getfield 407, 3) := by decide +kernel
theorem dX9_tells_202 : decode cX9_tells 202 = .ok (.iconst 2, 1) := by decide +kernel
theorem dX9_tells_203 : decode cX9_tells 203 = .ok (.iadd, 1) := by decide +kernel
theorem dX9_tells_204 : decode cX9_tells 204 = .ok (.bipush 8, 2) := by decide +kernel
theorem dX9_tells_206 : decode cX9_tells 206 = .ok (.iload 10, 2) := by decide +kernel
theorem dX9_tells_208 : decode cX9_tells 208 = .ok (.imul, 1) := by decide +kernel
theorem dX9_tells_209 : decode cX9_tells 209 = .ok (.iadd, 1) := by decide +kernel
theorem dX9_tells_210 : decode cX9_tells 210 = .ok (.istore 11, 2) := by decide +kernel
theorem dX9_tells_212 : decode cX9_tells 212 = .ok (.aload_n 0, 1) := by decide +kernel
theorem dX9_tells_213 : decode cX9_tells 213 = .ok (.getfield 13, 3) := by decide +kernel
theorem dX9_tells_216 : decode cX9_tells 216 = .ok (.iload 11, 2) := by decide +kernel
theorem dX9_tells_218 : decode cX9_tells 218 = .ok (.iaload, 1) := by decide +kernel
theorem dX9_tells_219 : decode cX9_tells 219 = .ok (.iload_n 1, 1) := by decide +kernel
theorem dX9_tells_220 : decode cX9_tells 220 = .ok (.if_icmp .ne 27, 3) := by decide +kernel
theorem dX9_tells_223 : decode cX9_tells 223 = .ok (.aload_n 0, 1) := by decide +kernel
theorem dX9_tells_224 : decode cX9_tells 224 = .ok (.iload 11, 2) := by decide +kernel
theorem dX9_tells_226 : decode cX9_tells 226 = .ok (.invokevirtual 427, 3) := by decide +kernel
theorem dX9_tells_229 : decode cX9_tells 229 = .ok (.ifCond .eq 18, 3) := by decide +kernel
theorem dX9_tells_232 : decode cX9_tells 232 = .ok (.iload_n 1, 1) := by decide +kernel
theorem dX9_tells_233 : decode cX9_tells 233 = .ok (.iconst 2, 1) := by decide +kernel
theorem dX9_tells_234 : decode cX9_tells 234 = .ok (.if_icmp .ne 7, 3) := by decide +kernel
theorem dX9_tells_237 : decode cX9_tells 237 = .ok (.lconst 1, 1) := by decide +kernel
theorem dX9_tells_238 : decode cX9_tells 238 = .ok (.goto 7, 3) := by decide +kernel
theorem dX9_tells_241 : decode cX9_tells 241 = .ok (.aload_n 0, 1) := by decide +kernel
theorem dX9_tells_242 : decode cX9_tells 242 = .ok (.getfield 424, 3) := by decide +kernel
theorem dX9_tells_245 : decode cX9_tells 245 = .ok (.lstore 8, 2) := by decide +kernel
theorem dX9_tells_247 : decode cX9_tells 247 = .ok (.iinc 10 1, 3) := by decide +kernel
theorem dX9_tells_250 : decode cX9_tells 250 = .ok (.goto (-68), 3) := by decide +kernel
theorem dX9_tells_253 : decode cX9_tells 253 = .ok (.lload 8, 2) := by decide +kernel
theorem dX9_tells_255 : decode cX9_tells 255 = .ok (.lreturn, 1) := by decide +kernel
theorem dX9_theirsIn_0 : decode cX9_theirsIn 0 = .ok (.aload_n 0, 1) := by decide +kernel
theorem dX9_theirsIn_1 : decode cX9_theirsIn 1 = .ok (.getfield 13, 3) := by decide +kernel
theorem dX9_theirsIn_4 : decode cX9_theirsIn 4 = .ok (.bipush 7, 2) := by decide +kernel
theorem dX9_theirsIn_6 : decode cX9_theirsIn 6 = .ok (.iaload, 1) := by decide +kernel
theorem dX9_theirsIn_7 : decode cX9_theirsIn 7 = .ok (.bipush 24, 2) := by decide +kernel
theorem dX9_theirsIn_9 : decode cX9_theirsIn 9 = .ok (.irem, 1) := by decide +kernel
theorem dX9_theirsIn_10 : decode cX9_theirsIn 10 = .ok (.istore_n 2, 1) := by decide +kernel
theorem dX9_theirsIn_11 : decode cX9_theirsIn 11 = .ok (.aload_n 0, 1) := by decide +kernel
theorem dX9_theirsIn_12 : decode cX9_theirsIn 12 = .ok (.iconst 0, 1) := by decide +kernel
theorem dX9_theirsIn_13 : decode cX9_theirsIn 13 = .ok (.iload_n 1, 1) := by decide +kernel
theorem dX9_theirsIn_14 : decode cX9_theirsIn 14 = .ok (.iconst (-1), 1) := by decide +kernel
theorem dX9_theirsIn_15 : decode cX9_theirsIn 15 = .ok (.iconst (-1), 1) := by decide +kernel
theorem dX9_theirsIn_16 : decode cX9_theirsIn 16 = .ok (.iconst (-1), 1) := by decide +kernel
theorem dX9_theirsIn_17 : decode cX9_theirsIn 17 = .ok (.iload_n 2, 1) := by decide +kernel
theorem dX9_theirsIn_18 : decode cX9_theirsIn 18 = .ok (.bipush 17, 2) := by decide +kernel
theorem dX9_theirsIn_20 : decode cX9_theirsIn 20 = .ok (.if_icmp .gt 9, 3) := by decide +kernel
theorem dX9_theirsIn_23 : decode cX9_theirsIn 23 = .ok (.iload_n 2, 1) := by decide +kernel
theorem dX9_theirsIn_24 : decode cX9_theirsIn 24 = .ok (.bipush 6, 2) := by decide +kernel
theorem dX9_theirsIn_26 : decode cX9_theirsIn 26 = .ok (.if_icmp .ge 9, 3) := by decide +kernel
theorem dX9_theirsIn_29 : decode cX9_theirsIn 29 = .ok (.ldc2_w 346, 3) := by decide +kernel
theorem dX9_theirsIn_32 : decode cX9_theirsIn 32 = .ok (.goto 4, 3) := by decide +kernel
theorem dX9_theirsIn_35 : decode cX9_theirsIn 35 = .ok (.lconst 0, 1) := by decide +kernel
theorem dX9_theirsIn_36 : decode cX9_theirsIn 36 = .ok (.invokevirtual 430, 3) := by decide +kernel
theorem dX9_theirsIn_39 : decode cX9_theirsIn 39 = .ok (.iconst 0, 1) := by decide +kernel
theorem dX9_theirsIn_40 : decode cX9_theirsIn 40 = .ok (.bipush 10, 2) := by decide +kernel
theorem dX9_theirsIn_42 : decode cX9_theirsIn 42 = .ok (.invokestatic 434, 3) := by decide +kernel
theorem dX9_theirsIn_45 : decode cX9_theirsIn 45 = .ok (.ireturn, 1) := by decide +kernel
theorem dX9_isSafe_0 : decode cX9_isSafe 0 = .ok (.aload_n 0, 1) := by decide +kernel
theorem dX9_isSafe_1 : decode cX9_isSafe 1 = .ok (.getfield 13, 3) := by decide +kernel
theorem dX9_isSafe_4 : decode cX9_isSafe 4 = .ok (.bipush 40, 2) := by decide +kernel
theorem dX9_isSafe_6 : decode cX9_isSafe 6 = .ok (.iload_n 1, 1) := by decide +kernel
theorem dX9_isSafe_7 : decode cX9_isSafe 7 = .ok (.iadd, 1) := by decide +kernel
theorem dX9_isSafe_8 : decode cX9_isSafe 8 = .ok (.iaload, 1) := by decide +kernel
theorem dX9_isSafe_9 : decode cX9_isSafe 9 = .ok (.aload_n 0, 1) := by decide +kernel
theorem dX9_isSafe_10 : decode cX9_isSafe 10 = .ok (.aload_n 0, 1) := by decide +kernel
theorem dX9_isSafe_11 : decode cX9_isSafe 11 = .ok (.getfield 13, 3) := by decide +kernel
theorem dX9_isSafe_14 : decode cX9_isSafe 14 = .ok (.bipush 30, 2) := by decide +kernel
theorem dX9_isSafe_16 : decode cX9_isSafe 16 = .ok (.iload_n 1, 1) := by decide +kernel
theorem dX9_isSafe_17 : decode cX9_isSafe 17 = .ok (.iadd, 1) := by decide +kernel
theorem dX9_isSafe_18 : decode cX9_isSafe 18 = .ok (.iaload, 1) := by decide +kernel
theorem dX9_isSafe_19 : decode cX9_isSafe 19 = .ok (.invokevirtual 225, 3) := by decide +kernel
theorem dX9_isSafe_22 : decode cX9_isSafe 22 = .ok (.if_icmp .lt 7, 3) := by decide +kernel
theorem dX9_isSafe_25 : decode cX9_isSafe 25 = .ok (.iconst 1, 1) := by decide +kernel
theorem dX9_isSafe_26 : decode cX9_isSafe 26 = .ok (.goto 4, 3) := by decide +kernel
theorem dX9_isSafe_29 : decode cX9_isSafe 29 = .ok (.iconst 0, 1) := by decide +kernel
theorem dX9_isSafe_30 : decode cX9_isSafe 30 = .ok (.ireturn, 1) := by decide +kernel
theorem dX9_goesTo_0 : decode cX9_goesTo 0 = .ok (.aload_n 0, 1) := by decide +kernel
theorem dX9_goesTo_1 : decode cX9_goesTo 1 = .ok (.getfield 13, 3) := by decide +kernel
theorem dX9_goesTo_4 : decode cX9_goesTo 4 = .ok (.bipush 21, 2) := by decide +kernel
theorem dX9_goesTo_6 : decode cX9_goesTo 6 = .ok (.iload_n 1, 1) := by decide +kernel
theorem dX9_goesTo_7 : decode cX9_goesTo 7 = .ok (.iadd, 1) := by decide +kernel
theorem dX9_goesTo_8 : decode cX9_goesTo 8 = .ok (.iaload, 1) := by decide +kernel
theorem dX9_goesTo_9 : decode cX9_goesTo 9 = .ok (.istore_n 2, 1) := by decide +kernel
theorem dX9_goesTo_10 : decode cX9_goesTo 10 = .ok (.aload_n 0, 1) := by decide +kernel
theorem dX9_goesTo_11 : decode cX9_goesTo 11 = .ok (.iconst 1, 1) := by decide +kernel
theorem dX9_goesTo_12 : decode cX9_goesTo 12 = .ok (.iload_n 2, 1) := by decide +kernel
theorem dX9_goesTo_13 : decode cX9_goesTo 13 = .ok (.iload_n 1, 1) := by decide +kernel
theorem dX9_goesTo_14 : decode cX9_goesTo 14 = .ok (.iconst (-1), 1) := by decide +kernel
theorem dX9_goesTo_15 : decode cX9_goesTo 15 = .ok (.iconst (-1), 1) := by decide +kernel
theorem dX9_goesTo_16 : decode cX9_goesTo 16 = .ok (.iload_n 2, 1) := by decide +kernel
theorem dX9_goesTo_17 : decode cX9_goesTo 17 = .ok (.iconst 1, 1) := by decide +kernel
theorem dX9_goesTo_18 : decode cX9_goesTo 18 = .ok (.iadd, 1) := by decide +kernel
theorem dX9_goesTo_19 : decode cX9_goesTo 19 = .ok (.bipush 6, 2) := by decide +kernel
theorem dX9_goesTo_21 : decode cX9_goesTo 21 = .ok (.irem, 1) := by decide +kernel
theorem dX9_goesTo_22 : decode cX9_goesTo 22 = .ok (.i2l, 1) := by decide +kernel
theorem dX9_goesTo_23 : decode cX9_goesTo 23 = .ok (.invokevirtual 430, 3) := by decide +kernel
theorem dX9_goesTo_26 : decode cX9_goesTo 26 = .ok (.lstore_n 3, 1) := by decide +kernel
theorem dX9_goesTo_27 : decode cX9_goesTo 27 = .ok (.lload_n 3, 1) := by decide +kernel
theorem dX9_goesTo_28 : decode cX9_goesTo 28 = .ok (.invokestatic 190, 3) := by decide +kernel
theorem dX9_goesTo_31 : decode cX9_goesTo 31 = .ok (.ifCond .eq 25, 3) := by decide +kernel
theorem dX9_goesTo_34 : decode cX9_goesTo 34 = .ok (.aload_n 0, 1) := by decide +kernel
theorem dX9_goesTo_35 : decode cX9_goesTo 35 = .ok (.getfield 13, 3) := by decide +kernel
theorem dX9_goesTo_38 : decode cX9_goesTo 38 = .ok (.bipush 11, 2) := by decide +kernel
theorem dX9_goesTo_40 : decode cX9_goesTo 40 = .ok (.iload_n 2, 1) := by decide +kernel
theorem dX9_goesTo_41 : decode cX9_goesTo 41 = .ok (.iadd, 1) := by decide +kernel
theorem dX9_goesTo_42 : decode cX9_goesTo 42 = .ok (.iaload, 1) := by decide +kernel
theorem dX9_goesTo_43 : decode cX9_goesTo 43 = .ok (.lload_n 3, 1) := by decide +kernel
theorem dX9_goesTo_44 : decode cX9_goesTo 44 = .ok (.l2i, 1) := by decide +kernel
theorem dX9_goesTo_45 : decode cX9_goesTo 45 = .ok (.invokestatic 438, 3) := by decide +kernel
theorem dX9_goesTo_48 : decode cX9_goesTo 48 = .ok (.ifCond .eq 8, 3) := by decide +kernel
theorem dX9_goesTo_51 : decode cX9_goesTo 51 = .ok (.lload_n 3, 1) := by decide +kernel
theorem dX9_goesTo_52 : decode cX9_goesTo 52 = .ok (.l2i, 1) := by decide +kernel
theorem dX9_goesTo_53 : decode cX9_goesTo 53 = .ok (.goto 4, 3) := by decide +kernel
theorem dX9_goesTo_56 : decode cX9_goesTo 56 = .ok (.iload_n 2, 1) := by decide +kernel
theorem dX9_goesTo_57 : decode cX9_goesTo 57 = .ok (.ireturn, 1) := by decide +kernel
theorem dX9_canStride_0 : decode cX9_canStride 0 = .ok (.aload_n 0, 1) := by decide +kernel
theorem dX9_canStride_1 : decode cX9_canStride 1 = .ok (.iload_n 2, 1) := by decide +kernel
theorem dX9_canStride_2 : decode cX9_canStride 2 = .ok (.iload_n 3, 1) := by decide +kernel
theorem dX9_canStride_3 : decode cX9_canStride 3 = .ok (.invokevirtual 205, 3) := by decide +kernel
theorem dX9_canStride_6 : decode cX9_canStride 6 = .ok (.istore 4, 2) := by decide +kernel
theorem dX9_canStride_8 : decode cX9_canStride 8 = .ok (.aload_n 0, 1) := by decide +kernel
theorem dX9_canStride_9 : decode cX9_canStride 9 = .ok (.getfield 13, 3) := by decide +kernel
theorem dX9_canStride_12 : decode cX9_canStride 12 = .ok (.bipush 30, 2) := by decide +kernel
theorem dX9_canStride_14 : decode cX9_canStride 14 = .ok (.iload_n 2, 1) := by decide +kernel
theorem dX9_canStride_15 : decode cX9_canStride 15 = .ok (.iadd, 1) := by decide +kernel
theorem dX9_canStride_16 : decode cX9_canStride 16 = .ok (.iaload, 1) := by decide +kernel
theorem dX9_canStride_17 : decode cX9_canStride 17 = .ok (.istore 5, 2) := by decide +kernel
theorem dX9_canStride_19 : decode cX9_canStride 19 = .ok (.aload_n 0, 1) := by decide +kernel
theorem dX9_canStride_20 : decode cX9_canStride 20 = .ok (.getfield 13, 3) := by decide +kernel
theorem dX9_canStride_23 : decode cX9_canStride 23 = .ok (.bipush 30, 2) := by decide +kernel
theorem dX9_canStride_25 : decode cX9_canStride 25 = .ok (.iload_n 3, 1) := by decide +kernel
theorem dX9_canStride_26 : decode cX9_canStride 26 = .ok (.iadd, 1) := by decide +kernel
theorem dX9_canStride_27 : decode cX9_canStride 27 = .ok (.iaload, 1) := by decide +kernel
theorem dX9_canStride_28 : decode cX9_canStride 28 = .ok (.istore 6, 2) := by decide +kernel
theorem dX9_canStride_30 : decode cX9_canStride 30 = .ok (.iload_n 2, 1) := by decide +kernel
theorem dX9_canStride_31 : decode cX9_canStride 31 = .ok (.iload_n 3, 1) := by decide +kernel
theorem dX9_canStride_32 : decode cX9_canStride 32 = .ok (.if_icmp .eq 68, 3) := by decide +kernel
theorem dX9_canStride_35 : decode cX9_canStride 35 = .ok (.iload 4, 2) := by decide +kernel
theorem dX9_canStride_37 : decode cX9_canStride 37 = .ok (.ifCond .le 63, 3) := by decide +kernel
theorem dX9_canStride_40 : decode cX9_canStride 40 = .ok (.iload 4, 2) := by decide +kernel
theorem dX9_canStride_42 : decode cX9_canStride 42 = .ok (.aload_n 0, 1) := by decide +kernel
theorem dX9_canStride_43 : decode cX9_canStride 43 = .ok (.getfield 13, 3) := by decide +kernel
theorem dX9_canStride_46 : decode cX9_canStride 46 = .ok (.sipush 150, 3) := by decide +kernel
theorem dX9_canStride_49 : decode cX9_canStride 49 = .ok (.iload_n 1, 1) := by decide +kernel
theorem dX9_canStride_50 : decode cX9_canStride 50 = .ok (.iadd, 1) := by decide +kernel
theorem dX9_canStride_51 : decode cX9_canStride 51 = .ok (.iaload, 1) := by decide +kernel
theorem dX9_canStride_52 : decode cX9_canStride 52 = .ok (.if_icmp .gt 48, 3) := by decide +kernel
theorem dX9_canStride_55 : decode cX9_canStride 55 = .ok (.iload 5, 2) := by decide +kernel
theorem dX9_canStride_57 : decode cX9_canStride 57 = .ok (.iload 6, 2) := by decide +kernel
theorem dX9_canStride_59 : decode cX9_canStride 59 = .ok (.if_icmp .eq 21, 3) := by decide +kernel
theorem dX9_canStride_62 : decode cX9_canStride 62 = .ok (.aload_n 0, 1) := by decide +kernel
theorem dX9_canStride_63 : decode cX9_canStride 63 = .ok (.getfield 13, 3) := by decide +kernel
theorem dX9_canStride_66 : decode cX9_canStride 66 = .ok (.bipush 11, 2) := by decide +kernel
theorem dX9_canStride_68 : decode cX9_canStride 68 = .ok (.iload 5, 2) := by decide +kernel
theorem dX9_canStride_70 : decode cX9_canStride 70 = .ok (.iadd, 1) := by decide +kernel
theorem dX9_canStride_71 : decode cX9_canStride 71 = .ok (.iaload, 1) := by decide +kernel
theorem dX9_canStride_72 : decode cX9_canStride 72 = .ok (.iload 6, 2) := by decide +kernel
theorem dX9_canStride_74 : decode cX9_canStride 74 = .ok (.invokestatic 438, 3) := by decide +kernel
theorem dX9_canStride_77 : decode cX9_canStride 77 = .ok (.ifCond .eq 23, 3) := by decide +kernel
theorem dX9_canStride_80 : decode cX9_canStride 80 = .ok (.aload_n 0, 1) := by decide +kernel
theorem dX9_canStride_81 : decode cX9_canStride 81 = .ok (.iconst 2, 1) := by decide +kernel
theorem dX9_canStride_82 : decode cX9_canStride 82 = .ok (.iload 6, 2) := by decide +kernel
theorem dX9_canStride_84 : decode cX9_canStride 84 = .ok (.iconst (-1), 1) := by decide +kernel
theorem dX9_canStride_85 : decode cX9_canStride 85 = .ok (.iload_n 1, 1) := by decide +kernel
theorem dX9_canStride_86 : decode cX9_canStride 86 = .ok (.iload_n 3, 1) := by decide +kernel
theorem dX9_canStride_87 : decode cX9_canStride 87 = .ok (.lconst 0, 1) := by decide +kernel
theorem dX9_canStride_88 : decode cX9_canStride 88 = .ok (.invokevirtual 430, 3) := by decide +kernel
theorem dX9_canStride_91 : decode cX9_canStride 91 = .ok (.lconst 0, 1) := by decide +kernel
theorem dX9_canStride_92 : decode cX9_canStride 92 = .ok (.lcmp, 1) := by decide +kernel
theorem dX9_canStride_93 : decode cX9_canStride 93 = .ok (.ifCond .ne 7, 3) := by decide +kernel
theorem dX9_canStride_96 : decode cX9_canStride 96 = .ok (.iconst 1, 1) := by decide +kernel
theorem dX9_canStride_97 : decode cX9_canStride 97 = .ok (.goto 4, 3) := by decide +kernel
theorem dX9_canStride_100 : decode cX9_canStride 100 = .ok (.iconst 0, 1) := by decide +kernel
theorem dX9_canStride_101 : decode cX9_canStride 101 = .ok (.ireturn, 1) := by decide +kernel
theorem dX9_strideNow_0 : decode cX9_strideNow 0 = .ok (.aload_n 0, 1) := by decide +kernel
theorem dX9_strideNow_1 : decode cX9_strideNow 1 = .ok (.iload_n 1, 1) := by decide +kernel
theorem dX9_strideNow_2 : decode cX9_strideNow 2 = .ok (.invokevirtual 209, 3) := by decide +kernel
theorem dX9_strideNow_5 : decode cX9_strideNow 5 = .ok (.ifCond .eq 11, 3) := by decide +kernel
theorem dX9_strideNow_8 : decode cX9_strideNow 8 = .ok (.aload_n 0, 1) := by decide +kernel
theorem dX9_strideNow_9 : decode cX9_strideNow 9 = .ok (.iload_n 2, 1) := by decide +kernel
theorem dX9_strideNow_10 : decode cX9_strideNow 10 = .ok (.invokevirtual 196, 3) := by decide +kernel
theorem dX9_strideNow_13 : decode cX9_strideNow 13 = .ok (.ifCond .ne 6, 3) := by decide +kernel
theorem dX9_strideNow_16 : decode cX9_strideNow 16 = .ok (.bipush (-2), 2) := by decide +kernel
theorem dX9_strideNow_18 : decode cX9_strideNow 18 = .ok (.ireturn, 1) := by decide +kernel
theorem dX9_strideNow_19 : decode cX9_strideNow 19 = .ok (.aload_n 0, 1) := by decide +kernel
theorem dX9_strideNow_20 : decode cX9_strideNow 20 = .ok (.iload_n 1, 1) := by decide +kernel
theorem dX9_strideNow_21 : decode cX9_strideNow 21 = .ok (.aload_n 0, 1) := by decide +kernel
theorem dX9_strideNow_22 : decode cX9_strideNow 22 = .ok (.getfield 13, 3) := by decide +kernel
theorem dX9_strideNow_25 : decode cX9_strideNow 25 = .ok (.bipush 17, 2) := by decide +kernel
theorem dX9_strideNow_27 : decode cX9_strideNow 27 = .ok (.iload_n 1, 1) := by decide +kernel
theorem dX9_strideNow_28 : decode cX9_strideNow 28 = .ok (.iadd, 1) := by decide +kernel
theorem dX9_strideNow_29 : decode cX9_strideNow 29 = .ok (.iaload, 1) := by decide +kernel
theorem dX9_strideNow_30 : decode cX9_strideNow 30 = .ok (.iload_n 2, 1) := by decide +kernel
theorem dX9_strideNow_31 : decode cX9_strideNow 31 = .ok (.invokevirtual 231, 3) := by decide +kernel
theorem dX9_strideNow_34 : decode cX9_strideNow 34 = .ok (.ifCond .ne 6, 3) := by decide +kernel
theorem dX9_strideNow_37 : decode cX9_strideNow 37 = .ok (.bipush (-3), 2) := by decide +kernel
theorem dX9_strideNow_39 : decode cX9_strideNow 39 = .ok (.ireturn, 1) := by decide +kernel
theorem dX9_strideNow_40 : decode cX9_strideNow 40 = .ok (.aload_n 0, 1) := by decide +kernel
theorem dX9_strideNow_41 : decode cX9_strideNow 41 = .ok (.iconst 0, 1) := by decide +kernel
theorem dX9_strideNow_42 : decode cX9_strideNow 42 = .ok (.invokevirtual 442, 3) := by decide +kernel
theorem dX9_strideNow_45 : decode cX9_strideNow 45 = .ok (.aload_n 0, 1) := by decide +kernel
theorem dX9_strideNow_46 : decode cX9_strideNow 46 = .ok (.getfield 13, 3) := by decide +kernel
theorem dX9_strideNow_49 : decode cX9_strideNow 49 = .ok (.bipush 17, 2) := by decide +kernel
theorem dX9_strideNow_51 : decode cX9_strideNow 51 = .ok (.iload_n 1, 1) := by decide +kernel
theorem dX9_strideNow_52 : decode cX9_strideNow 52 = .ok (.iadd, 1) := by decide +kernel
theorem dX9_strideNow_53 : decode cX9_strideNow 53 = .ok (.iload_n 2, 1) := by decide +kernel
theorem dX9_strideNow_54 : decode cX9_strideNow 54 = .ok (.iastore, 1) := by decide +kernel
theorem dX9_strideNow_55 : decode cX9_strideNow 55 = .ok (.aload_n 0, 1) := by decide +kernel
theorem dX9_strideNow_56 : decode cX9_strideNow 56 = .ok (.iload_n 2, 1) := by decide +kernel
theorem dX9_strideNow_57 : decode cX9_strideNow 57 = .ok (.invokevirtual 200, 3) := by decide +kernel
theorem dX9_strideNow_60 : decode cX9_strideNow 60 = .ok (.ifCond .eq 7, 3) := by decide +kernel
theorem dX9_strideNow_63 : decode cX9_strideNow 63 = .ok (.iconst 1, 1) := by decide +kernel
theorem dX9_strideNow_64 : decode cX9_strideNow 64 = .ok (.goto 4, 3) := by decide +kernel
theorem dX9_strideNow_67 : decode cX9_strideNow 67 = .ok (.iconst 0, 1) := by decide +kernel
theorem dX9_strideNow_68 : decode cX9_strideNow 68 = .ok (.ireturn, 1) := by decide +kernel
theorem dX9_stride_0 : decode cX9_stride 0 = .ok (.aload_n 0, 1) := by decide +kernel
theorem dX9_stride_1 : decode cX9_stride 1 = .ok (.iconst 0, 1) := by decide +kernel
theorem dX9_stride_2 : decode cX9_stride 2 = .ok (.putfield 161, 3) := by decide +kernel
theorem dX9_stride_5 : decode cX9_stride 5 = .ok (.aload_n 0, 1) := by decide +kernel
theorem dX9_stride_6 : decode cX9_stride 6 = .ok (.aload_n 0, 1) := by decide +kernel
theorem dX9_stride_7 : decode cX9_stride 7 = .ok (.iload_n 1, 1) := by decide +kernel
theorem dX9_stride_8 : decode cX9_stride 8 = .ok (.iload_n 2, 1) := by decide +kernel
theorem dX9_stride_9 : decode cX9_stride 9 = .ok (.invokevirtual 445, 3) := by decide +kernel
theorem dX9_stride_12 : decode cX9_stride 12 = .ok (.invokevirtual 170, 3) := by decide +kernel
theorem dX9_stride_15 : decode cX9_stride 15 = .ok (.ireturn, 1) := by decide +kernel
theorem dX9_putNow_0 : decode cX9_putNow 0 = .ok (.aload_n 0, 1) := by decide +kernel
theorem dX9_putNow_1 : decode cX9_putNow 1 = .ok (.iload_n 1, 1) := by decide +kernel
theorem dX9_putNow_2 : decode cX9_putNow 2 = .ok (.invokevirtual 218, 3) := by decide +kernel
theorem dX9_putNow_5 : decode cX9_putNow 5 = .ok (.ifCond .eq 11, 3) := by decide +kernel
theorem dX9_putNow_8 : decode cX9_putNow 8 = .ok (.aload_n 0, 1) := by decide +kernel
theorem dX9_putNow_9 : decode cX9_putNow 9 = .ok (.iload_n 2, 1) := by decide +kernel
theorem dX9_putNow_10 : decode cX9_putNow 10 = .ok (.invokevirtual 196, 3) := by decide +kernel
theorem dX9_putNow_13 : decode cX9_putNow 13 = .ok (.ifCond .ne 6, 3) := by decide +kernel
theorem dX9_putNow_16 : decode cX9_putNow 16 = .ok (.bipush (-2), 2) := by decide +kernel
theorem dX9_putNow_18 : decode cX9_putNow 18 = .ok (.ireturn, 1) := by decide +kernel
theorem dX9_putNow_19 : decode cX9_putNow 19 = .ok (.aload_n 0, 1) := by decide +kernel
theorem dX9_putNow_20 : decode cX9_putNow 20 = .ok (.getfield 13, 3) := by decide +kernel
theorem dX9_putNow_23 : decode cX9_putNow 23 = .ok (.bipush 24, 2) := by decide +kernel
theorem dX9_putNow_25 : decode cX9_putNow 25 = .ok (.iload_n 1, 1) := by decide +kernel
theorem dX9_putNow_26 : decode cX9_putNow 26 = .ok (.iadd, 1) := by decide +kernel
theorem dX9_putNow_27 : decode cX9_putNow 27 = .ok (.iaload, 1) := by decide +kernel
theorem dX9_putNow_28 : decode cX9_putNow 28 = .ok (.istore_n 3, 1) := by decide +kernel
theorem dX9_putNow_29 : decode cX9_putNow 29 = .ok (.iload_n 3, 1) := by decide +kernel
theorem dX9_putNow_30 : decode cX9_putNow 30 = .ok (.iload_n 2, 1) := by decide +kernel
theorem dX9_putNow_31 : decode cX9_putNow 31 = .ok (.if_icmp .ne 6, 3) := by decide +kernel
theorem dX9_putNow_34 : decode cX9_putNow 34 = .ok (.bipush (-3), 2) := by decide +kernel
theorem dX9_putNow_36 : decode cX9_putNow 36 = .ok (.ireturn, 1) := by decide +kernel
theorem dX9_putNow_37 : decode cX9_putNow 37 = .ok (.aload_n 0, 1) := by decide +kernel
theorem dX9_putNow_38 : decode cX9_putNow 38 = .ok (.iconst 1, 1) := by decide +kernel
theorem dX9_putNow_39 : decode cX9_putNow 39 = .ok (.invokevirtual 442, 3) := by decide +kernel
theorem dX9_putNow_42 : decode cX9_putNow 42 = .ok (.aload_n 0, 1) := by decide +kernel
theorem dX9_putNow_43 : decode cX9_putNow 43 = .ok (.getfield 13, 3) := by decide +kernel
theorem dX9_putNow_46 : decode cX9_putNow 46 = .ok (.bipush 24, 2) := by decide +kernel
theorem dX9_putNow_48 : decode cX9_putNow 48 = .ok (.iload_n 1, 1) := by decide +kernel
theorem dX9_putNow_49 : decode cX9_putNow 49 = .ok (.iadd, 1) := by decide +kernel
theorem dX9_putNow_50 : decode cX9_putNow 50 = .ok (.iload_n 2, 1) := by decide +kernel
theorem dX9_putNow_51 : decode cX9_putNow 51 = .ok (.iastore, 1) := by decide +kernel
theorem dX9_putNow_52 : decode cX9_putNow 52 = .ok (.iload_n 3, 1) := by decide +kernel
theorem dX9_putNow_53 : decode cX9_putNow 53 = .ok (.ireturn, 1) := by decide +kernel
theorem dX9_put_0 : decode cX9_put 0 = .ok (.aload_n 0, 1) := by decide +kernel
theorem dX9_put_1 : decode cX9_put 1 = .ok (.iconst 0, 1) := by decide +kernel
theorem dX9_put_2 : decode cX9_put 2 = .ok (.putfield 161, 3) := by decide +kernel
theorem dX9_put_5 : decode cX9_put 5 = .ok (.aload_n 0, 1) := by decide +kernel
theorem dX9_put_6 : decode cX9_put 6 = .ok (.aload_n 0, 1) := by decide +kernel
theorem dX9_put_7 : decode cX9_put 7 = .ok (.iload_n 1, 1) := by decide +kernel
theorem dX9_put_8 : decode cX9_put 8 = .ok (.iload_n 2, 1) := by decide +kernel
theorem dX9_put_9 : decode cX9_put 9 = .ok (.invokevirtual 448, 3) := by decide +kernel
theorem dX9_put_12 : decode cX9_put 12 = .ok (.invokevirtual 170, 3) := by decide +kernel
theorem dX9_put_15 : decode cX9_put 15 = .ok (.ireturn, 1) := by decide +kernel
theorem dX9_doorNow_0 : decode cX9_doorNow 0 = .ok (.iload_n 1, 1) := by decide +kernel
theorem dX9_doorNow_1 : decode cX9_doorNow 1 = .ok (.i2l, 1) := by decide +kernel
theorem dX9_doorNow_2 : decode cX9_doorNow 2 = .ok (.invokestatic 190, 3) := by decide +kernel
theorem dX9_doorNow_5 : decode cX9_doorNow 5 = .ok (.ifCond .eq 16, 3) := by decide +kernel
theorem dX9_doorNow_8 : decode cX9_doorNow 8 = .ok (.iload_n 2, 1) := by decide +kernel
theorem dX9_doorNow_9 : decode cX9_doorNow 9 = .ok (.i2l, 1) := by decide +kernel
theorem dX9_doorNow_10 : decode cX9_doorNow 10 = .ok (.invokestatic 190, 3) := by decide +kernel
theorem dX9_doorNow_13 : decode cX9_doorNow 13 = .ok (.ifCond .eq 8, 3) := by decide +kernel
theorem dX9_doorNow_16 : decode cX9_doorNow 16 = .ok (.iload_n 1, 1) := by decide +kernel
theorem dX9_doorNow_17 : decode cX9_doorNow 17 = .ok (.iload_n 2, 1) := by decide +kernel
theorem dX9_doorNow_18 : decode cX9_doorNow 18 = .ok (.if_icmp .ne 5, 3) := by decide +kernel
theorem dX9_doorNow_21 : decode cX9_doorNow 21 = .ok (.iconst (-1), 1) := by decide +kernel
theorem dX9_doorNow_22 : decode cX9_doorNow 22 = .ok (.ireturn, 1) := by decide +kernel
theorem dX9_doorNow_23 : decode cX9_doorNow 23 = .ok (.aload_n 0, 1) := by decide +kernel
theorem dX9_doorNow_24 : decode cX9_doorNow 24 = .ok (.iconst 2, 1) := by decide +kernel
theorem dX9_doorNow_25 : decode cX9_doorNow 25 = .ok (.invokevirtual 442, 3) := by decide +kernel
theorem dX9_doorNow_28 : decode cX9_doorNow 28 = .ok (.aload_n 0, 1) := by decide +kernel
theorem dX9_doorNow_29 : decode cX9_doorNow 29 = .ok (.getfield 13, 3) := by decide +kernel
theorem dX9_doorNow_32 : decode cX9_doorNow 32 = .ok (.bipush 11, 2) := by decide +kernel
theorem dX9_doorNow_34 : decode cX9_doorNow 34 = .ok (.iload_n 1, 1) := by decide +kernel
theorem dX9_doorNow_35 : decode cX9_doorNow 35 = .ok (.iadd, 1) := by decide +kernel
theorem dX9_doorNow_36 : decode cX9_doorNow 36 = .ok (.dup2, 1) := by decide +kernel
theorem dX9_doorNow_37 : decode cX9_doorNow 37 = .ok (.iaload, 1) := by decide +kernel
theorem dX9_doorNow_38 : decode cX9_doorNow 38 = .ok (.iconst 1, 1) := by decide +kernel
theorem dX9_doorNow_39 : decode cX9_doorNow 39 = .ok (.iload_n 2, 1) := by decide +kernel
theorem dX9_doorNow_40 : decode cX9_doorNow 40 = .ok (.ishl, 1) := by decide +kernel
theorem dX9_doorNow_41 : decode cX9_doorNow 41 = .ok (.ixor, 1) := by decide +kernel
theorem dX9_doorNow_42 : decode cX9_doorNow 42 = .ok (.iastore, 1) := by decide +kernel
theorem dX9_doorNow_43 : decode cX9_doorNow 43 = .ok (.aload_n 0, 1) := by decide +kernel
theorem dX9_doorNow_44 : decode cX9_doorNow 44 = .ok (.getfield 13, 3) := by decide +kernel
theorem dX9_doorNow_47 : decode cX9_doorNow 47 = .ok (.bipush 11, 2) := by decide +kernel
theorem dX9_doorNow_49 : decode cX9_doorNow 49 = .ok (.iload_n 2, 1) := by decide +kernel
theorem dX9_doorNow_50 : decode cX9_doorNow 50 = .ok (.iadd, 1) := by decide +kernel
theorem dX9_doorNow_51 : decode cX9_doorNow 51 = .ok (.dup2, 1) := by decide +kernel
theorem dX9_doorNow_52 : decode cX9_doorNow 52 = .ok (.iaload, 1) := by decide +kernel
theorem dX9_doorNow_53 : decode cX9_doorNow 53 = .ok (.iconst 1, 1) := by decide +kernel
theorem dX9_doorNow_54 : decode cX9_doorNow 54 = .ok (.iload_n 1, 1) := by decide +kernel
theorem dX9_doorNow_55 : decode cX9_doorNow 55 = .ok (.ishl, 1) := by decide +kernel
theorem dX9_doorNow_56 : decode cX9_doorNow 56 = .ok (.ixor, 1) := by decide +kernel
theorem dX9_doorNow_57 : decode cX9_doorNow 57 = .ok (.iastore, 1) := by decide +kernel
theorem dX9_doorNow_58 : decode cX9_doorNow 58 = .ok (.aload_n 0, 1) := by decide +kernel
theorem dX9_doorNow_59 : decode cX9_doorNow 59 = .ok (.getfield 13, 3) := by decide +kernel
theorem dX9_doorNow_62 : decode cX9_doorNow 62 = .ok (.bipush 11, 2) := by decide +kernel
theorem dX9_doorNow_64 : decode cX9_doorNow 64 = .ok (.iload_n 1, 1) := by decide +kernel
theorem dX9_doorNow_65 : decode cX9_doorNow 65 = .ok (.iadd, 1) := by decide +kernel
theorem dX9_doorNow_66 : decode cX9_doorNow 66 = .ok (.iaload, 1) := by decide +kernel
theorem dX9_doorNow_67 : decode cX9_doorNow 67 = .ok (.iload_n 2, 1) := by decide +kernel
theorem dX9_doorNow_68 : decode cX9_doorNow 68 = .ok (.ishr, 1) := by decide +kernel
theorem dX9_doorNow_69 : decode cX9_doorNow 69 = .ok (.iconst 1, 1) := by decide +kernel
theorem dX9_doorNow_70 : decode cX9_doorNow 70 = .ok (.iand, 1) := by decide +kernel
theorem dX9_doorNow_71 : decode cX9_doorNow 71 = .ok (.ireturn, 1) := by decide +kernel
theorem dX9_door_0 : decode cX9_door 0 = .ok (.aload_n 0, 1) := by decide +kernel
theorem dX9_door_1 : decode cX9_door 1 = .ok (.iconst 0, 1) := by decide +kernel
theorem dX9_door_2 : decode cX9_door 2 = .ok (.putfield 161, 3) := by decide +kernel
theorem dX9_door_5 : decode cX9_door 5 = .ok (.aload_n 0, 1) := by decide +kernel
theorem dX9_door_6 : decode cX9_door 6 = .ok (.aload_n 0, 1) := by decide +kernel
theorem dX9_door_7 : decode cX9_door 7 = .ok (.iload_n 1, 1) := by decide +kernel
theorem dX9_door_8 : decode cX9_door 8 = .ok (.iload_n 2, 1) := by decide +kernel
theorem dX9_door_9 : decode cX9_door 9 = .ok (.invokevirtual 451, 3) := by decide +kernel
theorem dX9_door_12 : decode cX9_door 12 = .ok (.invokevirtual 170, 3) := by decide +kernel
theorem dX9_door_15 : decode cX9_door 15 = .ok (.ireturn, 1) := by decide +kernel
theorem dX9_allGo_0 : decode cX9_allGo 0 = .ok (.iconst 0, 1) := by decide +kernel
theorem dX9_allGo_1 : decode cX9_allGo 1 = .ok (.istore_n 1, 1) := by decide +kernel
theorem dX9_allGo_2 : decode cX9_allGo 2 = .ok (.iload_n 1, 1) := by decide +kernel
theorem dX9_allGo_3 : decode cX9_allGo 3 = .ok (.aload_n 0, 1) := by decide +kernel
theorem dX9_allGo_4 : decode cX9_allGo 4 = .ok (.getfield 13, 3) := by decide +kernel
theorem dX9_allGo_7 : decode cX9_allGo 7 = .ok (.iconst 2, 1) := by decide +kernel
theorem dX9_allGo_8 : decode cX9_allGo 8 = .ok (.iaload, 1) := by decide +kernel
theorem dX9_allGo_9 : decode cX9_allGo 9 = .ok (.if_icmp .ge 20, 3) := by decide +kernel
theorem dX9_allGo_12 : decode cX9_allGo 12 = .ok (.aload_n 0, 1) := by decide +kernel
theorem dX9_allGo_13 : decode cX9_allGo 13 = .ok (.getfield 110, 3) := by decide +kernel
theorem dX9_allGo_16 : decode cX9_allGo 16 = .ok (.iload_n 1, 1) := by decide +kernel
theorem dX9_allGo_17 : decode cX9_allGo 17 = .ok (.aload_n 0, 1) := by decide +kernel
theorem dX9_allGo_18 : decode cX9_allGo 18 = .ok (.iload_n 1, 1) := by decide +kernel
theorem dX9_allGo_19 : decode cX9_allGo 19 = .ok (.invokevirtual 215, 3) := by decide +kernel
theorem dX9_allGo_22 : decode cX9_allGo 22 = .ok (.iastore, 1) := by decide +kernel
theorem dX9_allGo_23 : decode cX9_allGo 23 = .ok (.iinc 1 1, 3) := by decide +kernel
theorem dX9_allGo_26 : decode cX9_allGo 26 = .ok (.goto (-24), 3) := by decide +kernel
theorem dX9_allGo_29 : decode cX9_allGo 29 = .ok (.iconst 0, 1) := by decide +kernel
theorem dX9_allGo_30 : decode cX9_allGo 30 = .ok (.istore_n 1, 1) := by decide +kernel
theorem dX9_allGo_31 : decode cX9_allGo 31 = .ok (.iload_n 1, 1) := by decide +kernel
theorem dX9_allGo_32 : decode cX9_allGo 32 = .ok (.aload_n 0, 1) := by decide +kernel
theorem dX9_allGo_33 : decode cX9_allGo 33 = .ok (.getfield 13, 3) := by decide +kernel
theorem dX9_allGo_36 : decode cX9_allGo 36 = .ok (.iconst 2, 1) := by decide +kernel
theorem dX9_allGo_37 : decode cX9_allGo 37 = .ok (.iaload, 1) := by decide +kernel
theorem dX9_allGo_38 : decode cX9_allGo 38 = .ok (.if_icmp .ge 24, 3) := by decide +kernel
theorem dX9_allGo_41 : decode cX9_allGo 41 = .ok (.aload_n 0, 1) := by decide +kernel
theorem dX9_allGo_42 : decode cX9_allGo 42 = .ok (.getfield 13, 3) := by decide +kernel
theorem dX9_allGo_45 : decode cX9_allGo 45 = .ok (.bipush 21, 2) := by decide +kernel
theorem dX9_allGo_47 : decode cX9_allGo 47 = .ok (.iload_n 1, 1) := by decide +kernel
theorem dX9_allGo_48 : decode cX9_allGo 48 = .ok (.iadd, 1) := by decide +kernel
theorem dX9_allGo_49 : decode cX9_allGo 49 = .ok (.aload_n 0, 1) := by decide +kernel
theorem dX9_allGo_50 : decode cX9_allGo 50 = .ok (.getfield 110, 3) := by decide +kernel
theorem dX9_allGo_53 : decode cX9_allGo 53 = .ok (.iload_n 1, 1) := by decide +kernel
theorem dX9_allGo_54 : decode cX9_allGo 54 = .ok (.iaload, 1) := by decide +kernel
theorem dX9_allGo_55 : decode cX9_allGo 55 = .ok (.iastore, 1) := by decide +kernel
theorem dX9_allGo_56 : decode cX9_allGo 56 = .ok (.iinc 1 1, 3) := by decide +kernel
theorem dX9_allGo_59 : decode cX9_allGo 59 = .ok (.goto (-28), 3) := by decide +kernel
theorem dX9_allGo_62 : decode cX9_allGo 62 = .ok (.aload_n 0, 1) := by decide +kernel
theorem dX9_allGo_63 : decode cX9_allGo 63 = .ok (.getfield 13, 3) := by decide +kernel
theorem dX9_allGo_66 : decode cX9_allGo 66 = .ok (.bipush 7, 2) := by decide +kernel
theorem dX9_allGo_68 : decode cX9_allGo 68 = .ok (.dup2, 1) := by decide +kernel
theorem dX9_allGo_69 : decode cX9_allGo 69 = .ok (.iaload, 1) := by decide +kernel
theorem dX9_allGo_70 : decode cX9_allGo 70 = .ok (.iconst 1, 1) := by decide +kernel
theorem dX9_allGo_71 : decode cX9_allGo 71 = .ok (.iadd, 1) := by decide +kernel
theorem dX9_allGo_72 : decode cX9_allGo 72 = .ok (.iastore, 1) := by decide +kernel
theorem dX9_allGo_73 : decode cX9_allGo 73 = .ok (.return_, 1) := by decide +kernel
theorem dX9_passIt_0 : decode cX9_passIt 0 = .ok (.iconst 0, 1) := by decide +kernel
theorem dX9_passIt_1 : decode cX9_passIt 1 = .ok (.istore_n 1, 1) := by decide +kernel
theorem dX9_passIt_2 : decode cX9_passIt 2 = .ok (.iconst 0, 1) := by decide +kernel
theorem dX9_passIt_3 : decode cX9_passIt 3 = .ok (.istore_n 2, 1) := by decide +kernel
theorem dX9_passIt_4 : decode cX9_passIt 4 = .ok (.iload_n 2, 1) := by decide +kernel
theorem dX9_passIt_5 : decode cX9_passIt 5 = .ok (.aload_n 0, 1) := by decide +kernel
theorem dX9_passIt_6 : decode cX9_passIt 6 = .ok (.getfield 13, 3) := by decide +kernel
theorem dX9_passIt_9 : decode cX9_passIt 9 = .ok (.iconst 1, 1) := by decide +kernel
theorem dX9_passIt_10 : decode cX9_passIt 10 = .ok (.iaload, 1) := by decide +kernel
theorem dX9_passIt_11 : decode cX9_passIt 11 = .ok (.if_icmp .ge 51, 3) := by decide +kernel
theorem dX9_passIt_14 : decode cX9_passIt 14 = .ok (.aload_n 0, 1) := by decide +kernel
theorem dX9_passIt_15 : decode cX9_passIt 15 = .ok (.getfield 13, 3) := by decide +kernel
theorem dX9_passIt_18 : decode cX9_passIt 18 = .ok (.bipush 17, 2) := by decide +kernel
theorem dX9_passIt_20 : decode cX9_passIt 20 = .ok (.iload_n 2, 1) := by decide +kernel
theorem dX9_passIt_21 : decode cX9_passIt 21 = .ok (.iadd, 1) := by decide +kernel
theorem dX9_passIt_22 : decode cX9_passIt 22 = .ok (.iaload, 1) := by decide +kernel
theorem dX9_passIt_23 : decode cX9_passIt 23 = .ok (.istore_n 3, 1) := by decide +kernel
theorem dX9_passIt_24 : decode cX9_passIt 24 = .ok (.iload_n 1, 1) := by decide +kernel
theorem dX9_passIt_25 : decode cX9_passIt 25 = .ok (.aload_n 0, 1) := by decide +kernel
theorem dX9_passIt_26 : decode cX9_passIt 26 = .ok (.iload_n 3, 1) := by decide +kernel
theorem dX9_passIt_27 : decode cX9_passIt 27 = .ok (.invokevirtual 200, 3) := by decide +kernel
theorem dX9_passIt_30 : decode cX9_passIt 30 = .ok (.ifCond .ne 23, 3) := by decide +kernel
theorem dX9_passIt_33 : decode cX9_passIt 33 = .ok (.aload_n 0, 1) := by decide +kernel
theorem dX9_passIt_34 : decode cX9_passIt 34 = .ok (.aload_n 0, 1) := by decide +kernel
theorem dX9_passIt_35 : decode cX9_passIt 35 = .ok (.getfield 13, 3) := by decide +kernel
theorem dX9_passIt_38 : decode cX9_passIt 38 = .ok (.bipush 30, 2) := by decide +kernel
theorem dX9_passIt_40 : decode cX9_passIt 40 = .ok (.iload_n 3, 1) := by decide +kernel
theorem dX9_passIt_41 : decode cX9_passIt 41 = .ok (.iadd, 1) := by decide +kernel
theorem dX9_passIt_42 : decode cX9_passIt 42 = .ok (.iaload, 1) := by decide +kernel
theorem dX9_passIt_43 : decode cX9_passIt 43 = .ok (.invokevirtual 228, 3) := by decide +kernel
theorem dX9_passIt_46 : decode cX9_passIt 46 = .ok (.ifCond .le 7, 3) := by decide +kernel
theorem dX9_passIt_49 : decode cX9_passIt 49 = .ok (.iconst 1, 1) := by decide +kernel
theorem dX9_passIt_50 : decode cX9_passIt 50 = .ok (.goto 4, 3) := by decide +kernel
theorem dX9_passIt_53 : decode cX9_passIt 53 = .ok (.iconst 0, 1) := by decide +kernel
theorem dX9_passIt_54 : decode cX9_passIt 54 = .ok (.iadd, 1) := by decide +kernel
theorem dX9_passIt_55 : decode cX9_passIt 55 = .ok (.istore_n 1, 1) := by decide +kernel
theorem dX9_passIt_56 : decode cX9_passIt 56 = .ok (.iinc 2 1, 3) := by decide +kernel
theorem dX9_passIt_59 : decode cX9_passIt 59 = .ok (.goto (-55), 3) := by decide +kernel
theorem dX9_passIt_62 : decode cX9_passIt 62 = .ok (.aload_n 0, 1) := by decide +kernel
theorem dX9_passIt_63 : decode cX9_passIt 63 = .ok (.getfield 13, 3) := by decide +kernel
theorem dX9_passIt_66 : decode cX9_passIt 66 = .ok (.bipush 10, 2) := by decide +kernel
theorem dX9_passIt_68 : decode cX9_passIt 68 = .ok (.aload_n 0, 1) := by decide +kernel
theorem dX9_passIt_69 : decode cX9_passIt 69 = .ok (.getfield 13, 3) := by decide +kernel
theorem dX9_passIt_72 : decode cX9_passIt 72 = .ok (.bipush 10, 2) := by decide +kernel
theorem dX9_passIt_74 : decode cX9_passIt 74 = .ok (.iaload, 1) := by decide +kernel
theorem dX9_passIt_75 : decode cX9_passIt 75 = .ok (.iload_n 1, 1) := by decide +kernel
theorem dX9_passIt_76 : decode cX9_passIt 76 = .ok (.iadd, 1) := by decide +kernel
theorem dX9_passIt_77 : decode cX9_passIt 77 = .ok (.i2l, 1) := by decide +kernel
theorem dX9_passIt_78 : decode cX9_passIt 78 = .ok (.iconst 0, 1) := by decide +kernel
theorem dX9_passIt_79 : decode cX9_passIt 79 = .ok (.sipush 999, 3) := by decide +kernel
theorem dX9_passIt_82 : decode cX9_passIt 82 = .ok (.invokestatic 434, 3) := by decide +kernel
theorem dX9_passIt_85 : decode cX9_passIt 85 = .ok (.iastore, 1) := by decide +kernel
theorem dX9_passIt_86 : decode cX9_passIt 86 = .ok (.aload_n 0, 1) := by decide +kernel
theorem dX9_passIt_87 : decode cX9_passIt 87 = .ok (.invokevirtual 454, 3) := by decide +kernel
theorem dX9_passIt_90 : decode cX9_passIt 90 = .ok (.iload_n 1, 1) := by decide +kernel
theorem dX9_passIt_91 : decode cX9_passIt 91 = .ok (.ireturn, 1) := by decide +kernel
theorem dX9_passNow_0 : decode cX9_passNow 0 = .ok (.aload_n 0, 1) := by decide +kernel
theorem dX9_passNow_1 : decode cX9_passNow 1 = .ok (.getfield 13, 3) := by decide +kernel
theorem dX9_passNow_4 : decode cX9_passNow 4 = .ok (.bipush 7, 2) := by decide +kernel
theorem dX9_passNow_6 : decode cX9_passNow 6 = .ok (.iaload, 1) := by decide +kernel
theorem dX9_passNow_7 : decode cX9_passNow 7 = .ok (.sipush 999, 3) := by decide +kernel
theorem dX9_passNow_10 : decode cX9_passNow 10 = .ok (.if_icmp .ne 6, 3) := by decide +kernel
theorem dX9_passNow_13 : decode cX9_passNow 13 = .ok (.bipush (-3), 2) := by decide +kernel
theorem dX9_passNow_15 : decode cX9_passNow 15 = .ok (.ireturn, 1) := by decide +kernel
theorem dX9_passNow_16 : decode cX9_passNow 16 = .ok (.aload_n 0, 1) := by decide +kernel
theorem dX9_passNow_17 : decode cX9_passNow 17 = .ok (.iconst 3, 1) := by decide +kernel
theorem dX9_passNow_18 : decode cX9_passNow 18 = .ok (.invokevirtual 442, 3) := by decide +kernel
theorem dX9_passNow_21 : decode cX9_passNow 21 = .ok (.aload_n 0, 1) := by decide +kernel
theorem dX9_passNow_22 : decode cX9_passNow 22 = .ok (.invokevirtual 457, 3) := by decide +kernel
theorem dX9_passNow_25 : decode cX9_passNow 25 = .ok (.ireturn, 1) := by decide +kernel
theorem dX9_pass_0 : decode cX9_pass 0 = .ok (.aload_n 0, 1) := by decide +kernel
theorem dX9_pass_1 : decode cX9_pass 1 = .ok (.iconst 0, 1) := by decide +kernel
theorem dX9_pass_2 : decode cX9_pass 2 = .ok (.putfield 161, 3) := by decide +kernel
theorem dX9_pass_5 : decode cX9_pass 5 = .ok (.aload_n 0, 1) := by decide +kernel
theorem dX9_pass_6 : decode cX9_pass 6 = .ok (.aload_n 0, 1) := by decide +kernel
theorem dX9_pass_7 : decode cX9_pass 7 = .ok (.invokevirtual 460, 3) := by decide +kernel
theorem dX9_pass_10 : decode cX9_pass 10 = .ok (.invokevirtual 170, 3) := by decide +kernel
theorem dX9_pass_13 : decode cX9_pass 13 = .ok (.ireturn, 1) := by decide +kernel
theorem dX9_goesOn_0 : decode cX9_goesOn 0 = .ok (.aload_n 0, 1) := by decide +kernel
theorem dX9_goesOn_1 : decode cX9_goesOn 1 = .ok (.getfield 13, 3) := by decide +kernel
theorem dX9_goesOn_4 : decode cX9_goesOn 4 = .ok (.bipush 7, 2) := by decide +kernel
theorem dX9_goesOn_6 : decode cX9_goesOn 6 = .ok (.iload_n 2, 1) := by decide +kernel
theorem dX9_goesOn_7 : decode cX9_goesOn 7 = .ok (.iload_n 3, 1) := by decide +kernel
theorem dX9_goesOn_8 : decode cX9_goesOn 8 = .ok (.iadd, 1) := by decide +kernel
theorem dX9_goesOn_9 : decode cX9_goesOn 9 = .ok (.iastore, 1) := by decide +kernel
theorem dX9_goesOn_10 : decode cX9_goesOn 10 = .ok (.iload 4, 2) := by decide +kernel
theorem dX9_goesOn_12 : decode cX9_goesOn 12 = .ok (.iload 5, 2) := by decide +kernel
theorem dX9_goesOn_14 : decode cX9_goesOn 14 = .ok (.if_icmp .eq 15, 3) := by decide +kernel
theorem dX9_goesOn_17 : decode cX9_goesOn 17 = .ok (.aload_n 0, 1) := by decide +kernel
theorem dX9_goesOn_18 : decode cX9_goesOn 18 = .ok (.iload_n 1, 1) := by decide +kernel
theorem dX9_goesOn_19 : decode cX9_goesOn 19 = .ok (.iload 4, 2) := by decide +kernel
theorem dX9_goesOn_21 : decode cX9_goesOn 21 = .ok (.iload 5, 2) := by decide +kernel
theorem dX9_goesOn_23 : decode cX9_goesOn 23 = .ok (.invokevirtual 231, 3) := by decide +kernel
theorem dX9_goesOn_26 : decode cX9_goesOn 26 = .ok (.ifCond .eq 7, 3) := by decide +kernel
theorem dX9_goesOn_29 : decode cX9_goesOn 29 = .ok (.iconst 1, 1) := by decide +kernel
theorem dX9_goesOn_30 : decode cX9_goesOn 30 = .ok (.goto 4, 3) := by decide +kernel
theorem dX9_goesOn_33 : decode cX9_goesOn 33 = .ok (.iconst 0, 1) := by decide +kernel
theorem dX9_goesOn_34 : decode cX9_goesOn 34 = .ok (.istore 6, 2) := by decide +kernel
theorem dX9_goesOn_36 : decode cX9_goesOn 36 = .ok (.aload_n 0, 1) := by decide +kernel
theorem dX9_goesOn_37 : decode cX9_goesOn 37 = .ok (.getfield 13, 3) := by decide +kernel
theorem dX9_goesOn_40 : decode cX9_goesOn 40 = .ok (.bipush 7, 2) := by decide +kernel
theorem dX9_goesOn_42 : decode cX9_goesOn 42 = .ok (.iload_n 2, 1) := by decide +kernel
theorem dX9_goesOn_43 : decode cX9_goesOn 43 = .ok (.iload_n 3, 1) := by decide +kernel
theorem dX9_goesOn_44 : decode cX9_goesOn 44 = .ok (.iadd, 1) := by decide +kernel
theorem dX9_goesOn_45 : decode cX9_goesOn 45 = .ok (.iconst 1, 1) := by decide +kernel
theorem dX9_goesOn_46 : decode cX9_goesOn 46 = .ok (.iadd, 1) := by decide +kernel
theorem dX9_goesOn_47 : decode cX9_goesOn 47 = .ok (.iastore, 1) := by decide +kernel
theorem dX9_goesOn_48 : decode cX9_goesOn 48 = .ok (.iload 6, 2) := by decide +kernel
theorem dX9_goesOn_50 : decode cX9_goesOn 50 = .ok (.ifCond .eq 16, 3) := by decide +kernel
theorem dX9_goesOn_53 : decode cX9_goesOn 53 = .ok (.aload_n 0, 1) := by decide +kernel
theorem dX9_goesOn_54 : decode cX9_goesOn 54 = .ok (.iload 5, 2) := by decide +kernel
theorem dX9_goesOn_56 : decode cX9_goesOn 56 = .ok (.invokevirtual 200, 3) := by decide +kernel
theorem dX9_goesOn_59 : decode cX9_goesOn 59 = .ok (.ifCond .eq 7, 3) := by decide +kernel
theorem dX9_goesOn_62 : decode cX9_goesOn 62 = .ok (.iconst 1, 1) := by decide +kernel
theorem dX9_goesOn_63 : decode cX9_goesOn 63 = .ok (.goto 4, 3) := by decide +kernel
theorem dX9_goesOn_66 : decode cX9_goesOn 66 = .ok (.iconst 0, 1) := by decide +kernel
theorem dX9_goesOn_67 : decode cX9_goesOn 67 = .ok (.istore 6, 2) := by decide +kernel
theorem dX9_goesOn_69 : decode cX9_goesOn 69 = .ok (.aload_n 0, 1) := by decide +kernel
theorem dX9_goesOn_70 : decode cX9_goesOn 70 = .ok (.getfield 13, 3) := by decide +kernel
theorem dX9_goesOn_73 : decode cX9_goesOn 73 = .ok (.bipush 7, 2) := by decide +kernel
theorem dX9_goesOn_75 : decode cX9_goesOn 75 = .ok (.iload_n 2, 1) := by decide +kernel
theorem dX9_goesOn_76 : decode cX9_goesOn 76 = .ok (.iastore, 1) := by decide +kernel
theorem dX9_goesOn_77 : decode cX9_goesOn 77 = .ok (.iload 6, 2) := by decide +kernel
theorem dX9_goesOn_79 : decode cX9_goesOn 79 = .ok (.ireturn, 1) := by decide +kernel
theorem dX9_laySoonest_0 : decode cX9_laySoonest 0 = .ok (.aload_n 0, 1) := by decide +kernel
theorem dX9_laySoonest_1 : decode cX9_laySoonest 1 = .ok (.getfield 13, 3) := by decide +kernel
theorem dX9_laySoonest_4 : decode cX9_laySoonest 4 = .ok (.bipush 7, 2) := by decide +kernel
theorem dX9_laySoonest_6 : decode cX9_laySoonest 6 = .ok (.iaload, 1) := by decide +kernel
theorem dX9_laySoonest_7 : decode cX9_laySoonest 7 = .ok (.istore_n 3, 1) := by decide +kernel
theorem dX9_laySoonest_8 : decode cX9_laySoonest 8 = .ok (.iconst 0, 1) := by decide +kernel
theorem dX9_laySoonest_9 : decode cX9_laySoonest 9 = .ok (.istore 4, 2) := by decide +kernel
theorem dX9_laySoonest_11 : decode cX9_laySoonest 11 = .ok (.iload 4, 2) := by decide +kernel
theorem dX9_laySoonest_13 : decode cX9_laySoonest 13 = .ok (.bipush 10, 2) := by decide +kernel
theorem dX9_laySoonest_15 : decode cX9_laySoonest 15 = .ok (.if_icmp .ge 35, 3) := by decide +kernel
theorem dX9_laySoonest_18 : decode cX9_laySoonest 18 = .ok (.aload_n 0, 1) := by decide +kernel
theorem dX9_laySoonest_19 : decode cX9_laySoonest 19 = .ok (.getfield 113, 3) := by decide +kernel
theorem dX9_laySoonest_22 : decode cX9_laySoonest 22 = .ok (.iload 4, 2) := by decide +kernel
theorem dX9_laySoonest_24 : decode cX9_laySoonest 24 = .ok (.iload 4, 2) := by decide +kernel
theorem dX9_laySoonest_26 : decode cX9_laySoonest 26 = .ok (.aload_n 0, 1) := by decide +kernel
theorem dX9_laySoonest_27 : decode cX9_laySoonest 27 = .ok (.getfield 13, 3) := by decide +kernel
theorem dX9_laySoonest_30 : decode cX9_laySoonest 30 = .ok (.bipush 17, 2) := by decide +kernel
theorem dX9_laySoonest_32 : decode cX9_laySoonest 32 = .ok (.iload_n 1, 1) := by decide +kernel
theorem dX9_laySoonest_33 : decode cX9_laySoonest 33 = .ok (.iadd, 1) := by decide +kernel
theorem dX9_laySoonest_34 : decode cX9_laySoonest 34 = .ok (.iaload, 1) := by decide +kernel
theorem dX9_laySoonest_35 : decode cX9_laySoonest 35 = .ok (.if_icmp .ne 7, 3) := by decide +kernel
theorem dX9_laySoonest_38 : decode cX9_laySoonest 38 = .ok (.iconst 1, 1) := by decide +kernel
theorem dX9_laySoonest_39 : decode cX9_laySoonest 39 = .ok (.goto 4, 3) := by decide +kernel
theorem dX9_laySoonest_42 : decode cX9_laySoonest 42 = .ok (.iconst 0, 1) := by decide +kernel
theorem dX9_laySoonest_43 : decode cX9_laySoonest 43 = .ok (.bastore, 1) := by decide +kernel
theorem dX9_laySoonest_44 : decode cX9_laySoonest 44 = .ok (.iinc 4 1, 3) := by decide +kernel
theorem dX9_laySoonest_47 : decode cX9_laySoonest 47 = .ok (.goto (-36), 3) := by decide +kernel
theorem dX9_laySoonest_50 : decode cX9_laySoonest 50 = .ok (.iconst 0, 1) := by decide +kernel
theorem dX9_laySoonest_51 : decode cX9_laySoonest 51 = .ok (.istore 4, 2) := by decide +kernel
theorem dX9_laySoonest_53 : decode cX9_laySoonest 53 = .ok (.iload 4, 2) := by decide +kernel
theorem dX9_laySoonest_55 : decode cX9_laySoonest 55 = .ok (.bipush 48, 2) := by decide +kernel
theorem dX9_laySoonest_57 : decode cX9_laySoonest 57 = .ok (.if_icmp .ge 127, 3) := by decide +kernel
theorem dX9_laySoonest_60 : decode cX9_laySoonest 60 = .ok (.aload_n 0, 1) := by decide +kernel
theorem dX9_laySoonest_61 : decode cX9_laySoonest 61 = .ok (.getfield 113, 3) := by decide +kernel
theorem dX9_laySoonest_64 : decode cX9_laySoonest 64 = .ok (.bipush 10, 2) := by decide +kernel
theorem dX9_laySoonest_66 : decode cX9_laySoonest 66 = .ok (.iload 4, 2) := by decide +kernel
theorem dX9_laySoonest_68 : decode cX9_laySoonest 68 = .ok (.imul, 1) := by decide +kernel
theorem dX9_laySoonest_69 : decode cX9_laySoonest 69 = .ok (.iload_n 2, 1) := by decide +kernel
theorem dX9_laySoonest_70 : decode cX9_laySoonest 70 = .ok (.iadd, 1) := by decide +kernel
theorem dX9_laySoonest_71 : decode cX9_laySoonest 71 = .ok (.baload, 1) := by decide +kernel
theorem dX9_laySoonest_72 : decode cX9_laySoonest 72 = .ok (.ifCond .ne 112, 3) := by decide +kernel
theorem dX9_laySoonest_75 : decode cX9_laySoonest 75 = .ok (.iconst 0, 1) := by decide +kernel
theorem dX9_laySoonest_76 : decode cX9_laySoonest 76 = .ok (.istore 5, 2) := by decide +kernel
theorem dX9_laySoonest_78 : decode cX9_laySoonest 78 = .ok (.iload 5, 2) := by decide +kernel
theorem dX9_laySoonest_80 : decode cX9_laySoonest 80 = .ok (.aload_n 0, 1) := by decide +kernel
theorem dX9_laySoonest_81 : decode cX9_laySoonest 81 = .ok (.getfield 13, 3) := by decide +kernel
theorem dX9_laySoonest_84 : decode cX9_laySoonest 84 = .ok (.iconst 0, 1) := by decide +kernel
theorem dX9_laySoonest_85 : decode cX9_laySoonest 85 = .ok (.iaload, 1) := by decide +kernel
theorem dX9_laySoonest_86 : decode cX9_laySoonest 86 = .ok (.if_icmp .ge 92, 3) := by decide +kernel
theorem dX9_laySoonest_89 : decode cX9_laySoonest 89 = .ok (.iconst 0, 1) := by decide +kernel
theorem dX9_laySoonest_90 : decode cX9_laySoonest 90 = .ok (.istore 6, 2) := by decide +kernel
theorem dX9_laySoonest_92 : decode cX9_laySoonest 92 = .ok (.iconst 0, 1) := by decide +kernel
theorem dX9_laySoonest_93 : decode cX9_laySoonest 93 = .ok (.istore 7, 2) := by decide +kernel
theorem dX9_laySoonest_95 : decode cX9_laySoonest 95 = .ok (.iload 7, 2) := by decide +kernel
theorem dX9_laySoonest_97 : decode cX9_laySoonest 97 = .ok (.aload_n 0, 1) := by decide +kernel
theorem dX9_laySoonest_98 : decode cX9_laySoonest 98 = .ok (.getfield 13, 3) := by decide +kernel
theorem dX9_laySoonest_101 : decode cX9_laySoonest 101 = .ok (.iconst 0, 1) := by decide +kernel
theorem dX9_laySoonest_102 : decode cX9_laySoonest 102 = .ok (.iaload, 1) := by decide +kernel
theorem dX9_laySoonest_103 : decode cX9_laySoonest 103 = .ok (.if_icmp .ge 52, 3) := by decide +kernel
theorem dX9_laySoonest_106 : decode cX9_laySoonest 106 = .ok (.iload 6, 2) := by decide +kernel
theorem dX9_laySoonest_108 : decode cX9_laySoonest 108 = .ok (.ifCond .ne 34, 3) := by decide +kernel
theorem dX9_laySoonest_111 : decode cX9_laySoonest 111 = .ok (.aload_n 0, 1) := by decide +kernel
theorem dX9_laySoonest_112 : decode cX9_laySoonest 112 = .ok (.getfield 113, 3) := by decide +kernel
theorem dX9_laySoonest_115 : decode cX9_laySoonest 115 = .ok (.bipush 10, 2) := by decide +kernel
theorem dX9_laySoonest_117 : decode cX9_laySoonest 117 = .ok (.iload 4, 2) := by decide +kernel
theorem dX9_laySoonest_119 : decode cX9_laySoonest 119 = .ok (.imul, 1) := by decide +kernel
theorem dX9_laySoonest_120 : decode cX9_laySoonest 120 = .ok (.iload 7, 2) := by decide +kernel
theorem dX9_laySoonest_122 : decode cX9_laySoonest 122 = .ok (.iadd, 1) := by decide +kernel
theorem dX9_laySoonest_123 : decode cX9_laySoonest 123 = .ok (.baload, 1) := by decide +kernel
theorem dX9_laySoonest_124 : decode cX9_laySoonest 124 = .ok (.ifCond .eq 22, 3) := by decide +kernel
theorem dX9_laySoonest_127 : decode cX9_laySoonest 127 = .ok (.aload_n 0, 1) := by decide +kernel
theorem dX9_laySoonest_128 : decode cX9_laySoonest 128 = .ok (.iload_n 1, 1) := by decide +kernel
theorem dX9_laySoonest_129 : decode cX9_laySoonest 129 = .ok (.iload_n 3, 1) := by decide +kernel
theorem dX9_laySoonest_130 : decode cX9_laySoonest 130 = .ok (.iload 4, 2) := by decide +kernel
theorem dX9_laySoonest_132 : decode cX9_laySoonest 132 = .ok (.iload 7, 2) := by decide +kernel
theorem dX9_laySoonest_134 : decode cX9_laySoonest 134 = .ok (.iload 5, 2) := by decide +kernel
theorem dX9_laySoonest_136 : decode cX9_laySoonest 136 = .ok (.invokevirtual 463, 3) := by decide +kernel
theorem dX9_laySoonest_139 : decode cX9_laySoonest 139 = .ok (.ifCond .eq 7, 3) := by decide +kernel
theorem dX9_laySoonest_142 : decode cX9_laySoonest 142 = .ok (.iconst 1, 1) := by decide +kernel
theorem dX9_laySoonest_143 : decode cX9_laySoonest 143 = .ok (.goto 4, 3) := by decide +kernel
theorem dX9_laySoonest_146 : decode cX9_laySoonest 146 = .ok (.iconst 0, 1) := by decide +kernel
theorem dX9_laySoonest_147 : decode cX9_laySoonest 147 = .ok (.istore 6, 2) := by decide +kernel
theorem dX9_laySoonest_149 : decode cX9_laySoonest 149 = .ok (.iinc 7 1, 3) := by decide +kernel
theorem dX9_laySoonest_152 : decode cX9_laySoonest 152 = .ok (.goto (-57), 3) := by decide +kernel
theorem dX9_laySoonest_155 : decode cX9_laySoonest 155 = .ok (.aload_n 0, 1) := by decide +kernel
theorem dX9_laySoonest_156 : decode cX9_laySoonest 156 = .ok (.getfield 113, 3) := by decide +kernel
theorem dX9_laySoonest_159 : decode cX9_laySoonest 159 = .ok (.bipush 10, 2) := by decide +kernel
theorem dX9_laySoonest_161 : decode cX9_laySoonest 161 = .ok (.iload 4, 2) := by decide +kernel
theorem dX9_laySoonest_163 : decode cX9_laySoonest 163 = .ok (.iconst 1, 1) := by decide +kernel
theorem dX9_laySoonest_164 : decode cX9_laySoonest 164 = .ok (.iadd, 1) := by decide +kernel
theorem dX9_laySoonest_165 : decode cX9_laySoonest 165 = .ok (.imul, 1) := by decide +kernel
theorem dX9_laySoonest_166 : decode cX9_laySoonest 166 = .ok (.iload 5, 2) := by decide +kernel
theorem dX9_laySoonest_168 : decode cX9_laySoonest 168 = .ok (.iadd, 1) := by decide +kernel
theorem dX9_laySoonest_169 : decode cX9_laySoonest 169 = .ok (.iload 6, 2) := by decide +kernel
theorem dX9_laySoonest_171 : decode cX9_laySoonest 171 = .ok (.bastore, 1) := by decide +kernel
theorem dX9_laySoonest_172 : decode cX9_laySoonest 172 = .ok (.iinc 5 1, 3) := by decide +kernel
theorem dX9_laySoonest_175 : decode cX9_laySoonest 175 = .ok (.goto (-97), 3) := by decide +kernel
theorem dX9_laySoonest_178 : decode cX9_laySoonest 178 = .ok (.iinc 4 1, 3) := by decide +kernel
theorem dX9_laySoonest_181 : decode cX9_laySoonest 181 = .ok (.goto (-128), 3) := by decide +kernel
theorem dX9_laySoonest_184 : decode cX9_laySoonest 184 = .ok (.aload_n 0, 1) := by decide +kernel
theorem dX9_laySoonest_185 : decode cX9_laySoonest 185 = .ok (.getfield 113, 3) := by decide +kernel
theorem dX9_laySoonest_188 : decode cX9_laySoonest 188 = .ok (.bipush 10, 2) := by decide +kernel
theorem dX9_laySoonest_190 : decode cX9_laySoonest 190 = .ok (.iload 4, 2) := by decide +kernel
theorem dX9_laySoonest_192 : decode cX9_laySoonest 192 = .ok (.imul, 1) := by decide +kernel
theorem dX9_laySoonest_193 : decode cX9_laySoonest 193 = .ok (.iload_n 2, 1) := by decide +kernel
theorem dX9_laySoonest_194 : decode cX9_laySoonest 194 = .ok (.iadd, 1) := by decide +kernel
theorem dX9_laySoonest_195 : decode cX9_laySoonest 195 = .ok (.baload, 1) := by decide +kernel
theorem dX9_laySoonest_196 : decode cX9_laySoonest 196 = .ok (.ifCond .eq 8, 3) := by decide +kernel
theorem dX9_laySoonest_199 : decode cX9_laySoonest 199 = .ok (.iload 4, 2) := by decide +kernel
theorem dX9_laySoonest_201 : decode cX9_laySoonest 201 = .ok (.goto 4, 3) := by decide +kernel
theorem dX9_laySoonest_204 : decode cX9_laySoonest 204 = .ok (.iconst (-1), 1) := by decide +kernel
theorem dX9_laySoonest_205 : decode cX9_laySoonest 205 = .ok (.ireturn, 1) := by decide +kernel
theorem dX9_layComing_0 : decode cX9_layComing 0 = .ok (.aload_n 0, 1) := by decide +kernel
theorem dX9_layComing_1 : decode cX9_layComing 1 = .ok (.getfield 13, 3) := by decide +kernel
theorem dX9_layComing_4 : decode cX9_layComing 4 = .ok (.bipush 7, 2) := by decide +kernel
theorem dX9_layComing_6 : decode cX9_layComing 6 = .ok (.iaload, 1) := by decide +kernel
theorem dX9_layComing_7 : decode cX9_layComing 7 = .ok (.istore 4, 2) := by decide +kernel
theorem dX9_layComing_9 : decode cX9_layComing 9 = .ok (.iconst 0, 1) := by decide +kernel
theorem dX9_layComing_10 : decode cX9_layComing 10 = .ok (.istore 5, 2) := by decide +kernel
theorem dX9_layComing_12 : decode cX9_layComing 12 = .ok (.iload 5, 2) := by decide +kernel
theorem dX9_layComing_14 : decode cX9_layComing 14 = .ok (.aload_n 0, 1) := by decide +kernel
theorem dX9_layComing_15 : decode cX9_layComing 15 = .ok (.getfield 13, 3) := by decide +kernel
theorem dX9_layComing_18 : decode cX9_layComing 18 = .ok (.iconst 0, 1) := by decide +kernel
theorem dX9_layComing_19 : decode cX9_layComing 19 = .ok (.iaload, 1) := by decide +kernel
theorem dX9_layComing_20 : decode cX9_layComing 20 = .ok (.if_icmp .ge 32, 3) := by decide +kernel
theorem dX9_layComing_23 : decode cX9_layComing 23 = .ok (.aload_n 0, 1) := by decide +kernel
theorem dX9_layComing_24 : decode cX9_layComing 24 = .ok (.getfield 116, 3) := by decide +kernel
theorem dX9_layComing_27 : decode cX9_layComing 27 = .ok (.bipush 10, 2) := by decide +kernel
theorem dX9_layComing_29 : decode cX9_layComing 29 = .ok (.iload_n 3, 1) := by decide +kernel
theorem dX9_layComing_30 : decode cX9_layComing 30 = .ok (.imul, 1) := by decide +kernel
theorem dX9_layComing_31 : decode cX9_layComing 31 = .ok (.iload 5, 2) := by decide +kernel
theorem dX9_layComing_33 : decode cX9_layComing 33 = .ok (.iadd, 1) := by decide +kernel
theorem dX9_layComing_34 : decode cX9_layComing 34 = .ok (.iload 5, 2) := by decide +kernel
theorem dX9_layComing_36 : decode cX9_layComing 36 = .ok (.iload_n 2, 1) := by decide +kernel
theorem dX9_layComing_37 : decode cX9_layComing 37 = .ok (.if_icmp .ne 7, 3) := by decide +kernel
theorem dX9_layComing_40 : decode cX9_layComing 40 = .ok (.iconst 1, 1) := by decide +kernel
theorem dX9_layComing_41 : decode cX9_layComing 41 = .ok (.goto 4, 3) := by decide +kernel
theorem dX9_layComing_44 : decode cX9_layComing 44 = .ok (.iconst 0, 1) := by decide +kernel
theorem dX9_layComing_45 : decode cX9_layComing 45 = .ok (.bastore, 1) := by decide +kernel
theorem dX9_layComing_46 : decode cX9_layComing 46 = .ok (.iinc 5 1, 3) := by decide +kernel
theorem dX9_layComing_49 : decode cX9_layComing 49 = .ok (.goto (-37), 3) := by decide +kernel
theorem dX9_layComing_52 : decode cX9_layComing 52 = .ok (.iload_n 3, 1) := by decide +kernel
theorem dX9_layComing_53 : decode cX9_layComing 53 = .ok (.iconst 1, 1) := by decide +kernel
theorem dX9_layComing_54 : decode cX9_layComing 54 = .ok (.isub, 1) := by decide +kernel
theorem dX9_layComing_55 : decode cX9_layComing 55 = .ok (.istore 5, 2) := by decide +kernel
theorem dX9_layComing_57 : decode cX9_layComing 57 = .ok (.iload 5, 2) := by decide +kernel
theorem dX9_layComing_59 : decode cX9_layComing 59 = .ok (.ifCond .lt 113, 3) := by decide +kernel
theorem dX9_layComing_62 : decode cX9_layComing 62 = .ok (.iconst 0, 1) := by decide +kernel
theorem dX9_layComing_63 : decode cX9_layComing 63 = .ok (.istore 6, 2) := by decide +kernel
theorem dX9_layComing_65 : decode cX9_layComing 65 = .ok (.iload 6, 2) := by decide +kernel
theorem dX9_layComing_67 : decode cX9_layComing 67 = .ok (.aload_n 0, 1) := by decide +kernel
theorem dX9_layComing_68 : decode cX9_layComing 68 = .ok (.getfield 13, 3) := by decide +kernel
theorem dX9_layComing_71 : decode cX9_layComing 71 = .ok (.iconst 0, 1) := by decide +kernel
theorem dX9_layComing_72 : decode cX9_layComing 72 = .ok (.iaload, 1) := by decide +kernel
theorem dX9_layComing_73 : decode cX9_layComing 73 = .ok (.if_icmp .ge 93, 3) := by decide +kernel
theorem dX9_layComing_76 : decode cX9_layComing 76 = .ok (.iconst 0, 1) := by decide +kernel
theorem dX9_layComing_77 : decode cX9_layComing 77 = .ok (.istore 7, 2) := by decide +kernel
theorem dX9_layComing_79 : decode cX9_layComing 79 = .ok (.iconst 0, 1) := by decide +kernel
theorem dX9_layComing_80 : decode cX9_layComing 80 = .ok (.istore 8, 2) := by decide +kernel
theorem dX9_layComing_82 : decode cX9_layComing 82 = .ok (.iload 8, 2) := by decide +kernel
theorem dX9_layComing_84 : decode cX9_layComing 84 = .ok (.aload_n 0, 1) := by decide +kernel
theorem dX9_layComing_85 : decode cX9_layComing 85 = .ok (.getfield 13, 3) := by decide +kernel
theorem dX9_layComing_88 : decode cX9_layComing 88 = .ok (.iconst 0, 1) := by decide +kernel
theorem dX9_layComing_89 : decode cX9_layComing 89 = .ok (.iaload, 1) := by decide +kernel
theorem dX9_layComing_90 : decode cX9_layComing 90 = .ok (.if_icmp .ge 55, 3) := by decide +kernel
theorem dX9_layComing_93 : decode cX9_layComing 93 = .ok (.iload 7, 2) := by decide +kernel
theorem dX9_layComing_95 : decode cX9_layComing 95 = .ok (.ifCond .ne 37, 3) := by decide +kernel
theorem dX9_layComing_98 : decode cX9_layComing 98 = .ok (.aload_n 0, 1) := by decide +kernel
theorem dX9_layComing_99 : decode cX9_layComing 99 = .ok (.getfield 116, 3) := by decide +kernel
theorem dX9_layComing_102 : decode cX9_layComing 102 = .ok (.bipush 10, 2) := by decide +kernel
theorem dX9_layComing_104 : decode cX9_layComing 104 = .ok (.iload 5, 2) := by decide +kernel
theorem dX9_layComing_106 : decode cX9_layComing 106 = .ok (.iconst 1, 1) := by decide +kernel
theorem dX9_layComing_107 : decode cX9_layComing 107 = .ok (.iadd, 1) := by decide +kernel
theorem dX9_layComing_108 : decode cX9_layComing 108 = .ok (.imul, 1) := by decide +kernel
theorem dX9_layComing_109 : decode cX9_layComing 109 = .ok (.iload 8, 2) := by decide +kernel
theorem dX9_layComing_111 : decode cX9_layComing 111 = .ok (.iadd, 1) := by decide +kernel
theorem dX9_layComing_112 : decode cX9_layComing 112 = .ok (.baload, 1) := by decide +kernel
theorem dX9_layComing_113 : decode cX9_layComing 113 = .ok (.ifCond .eq 23, 3) := by decide +kernel
theorem dX9_layComing_116 : decode cX9_layComing 116 = .ok (.aload_n 0, 1) := by decide +kernel
theorem dX9_layComing_117 : decode cX9_layComing 117 = .ok (.iload_n 1, 1) := by decide +kernel
theorem dX9_layComing_118 : decode cX9_layComing 118 = .ok (.iload 4, 2) := by decide +kernel
theorem dX9_layComing_120 : decode cX9_layComing 120 = .ok (.iload 5, 2) := by decide +kernel
theorem dX9_layComing_122 : decode cX9_layComing 122 = .ok (.iload 6, 2) := by decide +kernel
theorem dX9_layComing_124 : decode cX9_layComing 124 = .ok (.iload 8, 2) := by decide +kernel
theorem dX9_layComing_126 : decode cX9_layComing 126 = .ok (.invokevirtual 463, 3) := by decide +kernel
theorem dX9_layComing_129 : decode cX9_layComing 129 = .ok (.ifCond .eq 7, 3) := by decide +kernel
theorem dX9_layComing_132 : decode cX9_layComing 132 = .ok (.iconst 1, 1) := by decide +kernel
theorem dX9_layComing_133 : decode cX9_layComing 133 = .ok (.goto 4, 3) := by decide +kernel
theorem dX9_layComing_136 : decode cX9_layComing 136 = .ok (.iconst 0, 1) := by decide +kernel
theorem dX9_layComing_137 : decode cX9_layComing 137 = .ok (.istore 7, 2) := by decide +kernel
theorem dX9_layComing_139 : decode cX9_layComing 139 = .ok (.iinc 8 1, 3) := by decide +kernel
theorem dX9_layComing_142 : decode cX9_layComing 142 = .ok (.goto (-60), 3) := by decide +kernel
theorem dX9_layComing_145 : decode cX9_layComing 145 = .ok (.aload_n 0, 1) := by decide +kernel
theorem dX9_layComing_146 : decode cX9_layComing 146 = .ok (.getfield 116, 3) := by decide +kernel
theorem dX9_layComing_149 : decode cX9_layComing 149 = .ok (.bipush 10, 2) := by decide +kernel
theorem dX9_layComing_151 : decode cX9_layComing 151 = .ok (.iload 5, 2) := by decide +kernel
theorem dX9_layComing_153 : decode cX9_layComing 153 = .ok (.imul, 1) := by decide +kernel
theorem dX9_layComing_154 : decode cX9_layComing 154 = .ok (.iload 6, 2) := by decide +kernel
theorem dX9_layComing_156 : decode cX9_layComing 156 = .ok (.iadd, 1) := by decide +kernel
theorem dX9_layComing_157 : decode cX9_layComing 157 = .ok (.iload 7, 2) := by decide +kernel
theorem dX9_layComing_159 : decode cX9_layComing 159 = .ok (.bastore, 1) := by decide +kernel
theorem dX9_layComing_160 : decode cX9_layComing 160 = .ok (.iinc 6 1, 3) := by decide +kernel
theorem dX9_layComing_163 : decode cX9_layComing 163 = .ok (.goto (-98), 3) := by decide +kernel
theorem dX9_layComing_166 : decode cX9_layComing 166 = .ok (.iinc 5 (-1), 3) := by decide +kernel
theorem dX9_layComing_169 : decode cX9_layComing 169 = .ok (.goto (-112), 3) := by decide +kernel
theorem dX9_layComing_172 : decode cX9_layComing 172 = .ok (.return_, 1) := by decide +kernel
theorem dX9_soonest_0 : decode cX9_soonest 0 = .ok (.aload_n 0, 1) := by decide +kernel
theorem dX9_soonest_1 : decode cX9_soonest 1 = .ok (.iconst 0, 1) := by decide +kernel
theorem dX9_soonest_2 : decode cX9_soonest 2 = .ok (.putfield 161, 3) := by decide +kernel
theorem dX9_soonest_5 : decode cX9_soonest 5 = .ok (.aload_n 0, 1) := by decide +kernel
theorem dX9_soonest_6 : decode cX9_soonest 6 = .ok (.iload_n 1, 1) := by decide +kernel
theorem dX9_soonest_7 : decode cX9_soonest 7 = .ok (.invokevirtual 209, 3) := by decide +kernel
theorem dX9_soonest_10 : decode cX9_soonest 10 = .ok (.ifCond .eq 16, 3) := by decide +kernel
theorem dX9_soonest_13 : decode cX9_soonest 13 = .ok (.aload_n 0, 1) := by decide +kernel
theorem dX9_soonest_14 : decode cX9_soonest 14 = .ok (.iload_n 2, 1) := by decide +kernel
theorem dX9_soonest_15 : decode cX9_soonest 15 = .ok (.invokevirtual 196, 3) := by decide +kernel
theorem dX9_soonest_18 : decode cX9_soonest 18 = .ok (.ifCond .eq 8, 3) := by decide +kernel
theorem dX9_soonest_21 : decode cX9_soonest 21 = .ok (.iload_n 3, 1) := by decide +kernel
theorem dX9_soonest_22 : decode cX9_soonest 22 = .ok (.iconst (-1), 1) := by decide +kernel
theorem dX9_soonest_23 : decode cX9_soonest 23 = .ok (.if_icmp .ge 5, 3) := by decide +kernel
theorem dX9_soonest_26 : decode cX9_soonest 26 = .ok (.iconst (-1), 1) := by decide +kernel
theorem dX9_soonest_27 : decode cX9_soonest 27 = .ok (.ireturn, 1) := by decide +kernel
theorem dX9_soonest_28 : decode cX9_soonest 28 = .ok (.aload_n 0, 1) := by decide +kernel
theorem dX9_soonest_29 : decode cX9_soonest 29 = .ok (.iload_n 1, 1) := by decide +kernel
theorem dX9_soonest_30 : decode cX9_soonest 30 = .ok (.iload_n 2, 1) := by decide +kernel
theorem dX9_soonest_31 : decode cX9_soonest 31 = .ok (.invokevirtual 467, 3) := by decide +kernel
theorem dX9_soonest_34 : decode cX9_soonest 34 = .ok (.istore 4, 2) := by decide +kernel
theorem dX9_soonest_36 : decode cX9_soonest 36 = .ok (.iload 4, 2) := by decide +kernel
theorem dX9_soonest_38 : decode cX9_soonest 38 = .ok (.iconst (-1), 1) := by decide +kernel
theorem dX9_soonest_39 : decode cX9_soonest 39 = .ok (.if_icmp .eq 9, 3) := by decide +kernel
theorem dX9_soonest_42 : decode cX9_soonest 42 = .ok (.iload_n 3, 1) := by decide +kernel
theorem dX9_soonest_43 : decode cX9_soonest 43 = .ok (.iload 4, 2) := by decide +kernel
theorem dX9_soonest_45 : decode cX9_soonest 45 = .ok (.if_icmp .lt 5, 3) := by decide +kernel
theorem dX9_soonest_48 : decode cX9_soonest 48 = .ok (.iconst (-1), 1) := by decide +kernel
theorem dX9_soonest_49 : decode cX9_soonest 49 = .ok (.ireturn, 1) := by decide +kernel
theorem dX9_soonest_50 : decode cX9_soonest 50 = .ok (.iload_n 3, 1) := by decide +kernel
theorem dX9_soonest_51 : decode cX9_soonest 51 = .ok (.iconst (-1), 1) := by decide +kernel
theorem dX9_soonest_52 : decode cX9_soonest 52 = .ok (.if_icmp .ne 6, 3) := by decide +kernel
theorem dX9_soonest_55 : decode cX9_soonest 55 = .ok (.iload 4, 2) := by decide +kernel
theorem dX9_soonest_57 : decode cX9_soonest 57 = .ok (.ireturn, 1) := by decide +kernel
theorem dX9_soonest_58 : decode cX9_soonest 58 = .ok (.aload_n 0, 1) := by decide +kernel
theorem dX9_soonest_59 : decode cX9_soonest 59 = .ok (.iload_n 1, 1) := by decide +kernel
theorem dX9_soonest_60 : decode cX9_soonest 60 = .ok (.iload_n 2, 1) := by decide +kernel
theorem dX9_soonest_61 : decode cX9_soonest 61 = .ok (.iload 4, 2) := by decide +kernel
theorem dX9_soonest_63 : decode cX9_soonest 63 = .ok (.invokevirtual 470, 3) := by decide +kernel
theorem dX9_soonest_66 : decode cX9_soonest 66 = .ok (.aload_n 0, 1) := by decide +kernel
theorem dX9_soonest_67 : decode cX9_soonest 67 = .ok (.getfield 13, 3) := by decide +kernel
theorem dX9_soonest_70 : decode cX9_soonest 70 = .ok (.bipush 17, 2) := by decide +kernel
theorem dX9_soonest_72 : decode cX9_soonest 72 = .ok (.iload_n 1, 1) := by decide +kernel
theorem dX9_soonest_73 : decode cX9_soonest 73 = .ok (.iadd, 1) := by decide +kernel
theorem dX9_soonest_74 : decode cX9_soonest 74 = .ok (.iaload, 1) := by decide +kernel
theorem dX9_soonest_75 : decode cX9_soonest 75 = .ok (.istore 5, 2) := by decide +kernel
theorem dX9_soonest_77 : decode cX9_soonest 77 = .ok (.iconst 0, 1) := by decide +kernel
theorem dX9_soonest_78 : decode cX9_soonest 78 = .ok (.istore 6, 2) := by decide +kernel
theorem dX9_soonest_80 : decode cX9_soonest 80 = .ok (.iload 6, 2) := by decide +kernel
theorem dX9_soonest_82 : decode cX9_soonest 82 = .ok (.iload_n 3, 1) := by decide +kernel
theorem dX9_soonest_83 : decode cX9_soonest 83 = .ok (.if_icmp .gt 61, 3) := by decide +kernel
theorem dX9_soonest_86 : decode cX9_soonest 86 = .ok (.iconst 0, 1) := by decide +kernel
theorem dX9_soonest_87 : decode cX9_soonest 87 = .ok (.istore 7, 2) := by decide +kernel
theorem dX9_soonest_89 : decode cX9_soonest 89 = .ok (.aload_n 0, 1) := by decide +kernel
theorem dX9_soonest_90 : decode cX9_soonest 90 = .ok (.getfield 116, 3) := by decide +kernel
theorem dX9_soonest_93 : decode cX9_soonest 93 = .ok (.bipush 10, 2) := by decide +kernel
theorem dX9_soonest_95 : decode cX9_soonest 95 = .ok (.iload 6, 2) := by decide +kernel
theorem dX9_soonest_97 : decode cX9_soonest 97 = .ok (.iconst 1, 1) := by decide +kernel
theorem dX9_soonest_98 : decode cX9_soonest 98 = .ok (.iadd, 1) := by decide +kernel
theorem dX9_soonest_99 : decode cX9_soonest 99 = .ok (.imul, 1) := by decide +kernel
theorem dX9_soonest_100 : decode cX9_soonest 100 = .ok (.iload 7, 2) := by decide +kernel
theorem dX9_soonest_102 : decode cX9_soonest 102 = .ok (.iadd, 1) := by decide +kernel
theorem dX9_soonest_103 : decode cX9_soonest 103 = .ok (.baload, 1) := by decide +kernel
theorem dX9_soonest_104 : decode cX9_soonest 104 = .ok (.ifCond .eq 24, 3) := by decide +kernel
theorem dX9_soonest_107 : decode cX9_soonest 107 = .ok (.aload_n 0, 1) := by decide +kernel
theorem dX9_soonest_108 : decode cX9_soonest 108 = .ok (.iload_n 1, 1) := by decide +kernel
theorem dX9_soonest_109 : decode cX9_soonest 109 = .ok (.aload_n 0, 1) := by decide +kernel
theorem dX9_soonest_110 : decode cX9_soonest 110 = .ok (.getfield 13, 3) := by decide +kernel
theorem dX9_soonest_113 : decode cX9_soonest 113 = .ok (.bipush 7, 2) := by decide +kernel
theorem dX9_soonest_115 : decode cX9_soonest 115 = .ok (.iaload, 1) := by decide +kernel
theorem dX9_soonest_116 : decode cX9_soonest 116 = .ok (.iload 6, 2) := by decide +kernel
theorem dX9_soonest_118 : decode cX9_soonest 118 = .ok (.iload 5, 2) := by decide +kernel
theorem dX9_soonest_120 : decode cX9_soonest 120 = .ok (.iload 7, 2) := by decide +kernel
theorem dX9_soonest_122 : decode cX9_soonest 122 = .ok (.invokevirtual 463, 3) := by decide +kernel
theorem dX9_soonest_125 : decode cX9_soonest 125 = .ok (.ifCond .ne 9, 3) := by decide +kernel
theorem dX9_soonest_128 : decode cX9_soonest 128 = .ok (.iinc 7 1, 3) := by decide +kernel
theorem dX9_soonest_131 : decode cX9_soonest 131 = .ok (.goto (-42), 3) := by decide +kernel
theorem dX9_soonest_134 : decode cX9_soonest 134 = .ok (.iload 7, 2) := by decide +kernel
theorem dX9_soonest_136 : decode cX9_soonest 136 = .ok (.istore 5, 2) := by decide +kernel
theorem dX9_soonest_138 : decode cX9_soonest 138 = .ok (.iinc 6 1, 3) := by decide +kernel
theorem dX9_soonest_141 : decode cX9_soonest 141 = .ok (.goto (-61), 3) := by decide +kernel
theorem dX9_soonest_144 : decode cX9_soonest 144 = .ok (.iload 5, 2) := by decide +kernel
theorem dX9_soonest_146 : decode cX9_soonest 146 = .ok (.ireturn, 1) := by decide +kernel
theorem dX9_nearBy_0 : decode cX9_nearBy 0 = .ok (.iconst 1, 1) := by decide +kernel
theorem dX9_nearBy_1 : decode cX9_nearBy 1 = .ok (.aload_n 0, 1) := by decide +kernel
theorem dX9_nearBy_2 : decode cX9_nearBy 2 = .ok (.getfield 13, 3) := by decide +kernel
theorem dX9_nearBy_5 : decode cX9_nearBy 5 = .ok (.bipush 17, 2) := by decide +kernel
theorem dX9_nearBy_7 : decode cX9_nearBy 7 = .ok (.iload_n 1, 1) := by decide +kernel
theorem dX9_nearBy_8 : decode cX9_nearBy 8 = .ok (.iadd, 1) := by decide +kernel
theorem dX9_nearBy_9 : decode cX9_nearBy 9 = .ok (.iaload, 1) := by decide +kernel
theorem dX9_nearBy_10 : decode cX9_nearBy 10 = .ok (.ishl, 1) := by decide +kernel
theorem dX9_nearBy_11 : decode cX9_nearBy 11 = .ok (.istore 4, 2) := by decide +kernel
theorem dX9_nearBy_13 : decode cX9_nearBy 13 = .ok (.iconst 0, 1) := by decide +kernel
theorem dX9_nearBy_14 : decode cX9_nearBy 14 = .ok (.istore 5, 2) := by decide +kernel
theorem dX9_nearBy_16 : decode cX9_nearBy 16 = .ok (.iload 5, 2) := by decide +kernel
theorem dX9_nearBy_18 : decode cX9_nearBy 18 = .ok (.iload_n 2, 1) := by decide +kernel
theorem dX9_nearBy_19 : decode cX9_nearBy 19 = .ok (.if_icmp .ge 105, 3) := by decide +kernel
theorem dX9_nearBy_22 : decode cX9_nearBy 22 = .ok (.iload 4, 2) := by decide +kernel
theorem dX9_nearBy_24 : decode cX9_nearBy 24 = .ok (.istore 6, 2) := by decide +kernel
theorem dX9_nearBy_26 : decode cX9_nearBy 26 = .ok (.iconst 0, 1) := by decide +kernel
theorem dX9_nearBy_27 : decode cX9_nearBy 27 = .ok (.istore 7, 2) := by decide +kernel
theorem dX9_nearBy_29 : decode cX9_nearBy 29 = .ok (.iload 7, 2) := by decide +kernel
theorem dX9_nearBy_31 : decode cX9_nearBy 31 = .ok (.aload_n 0, 1) := by decide +kernel
theorem dX9_nearBy_32 : decode cX9_nearBy 32 = .ok (.getfield 13, 3) := by decide +kernel
theorem dX9_nearBy_35 : decode cX9_nearBy 35 = .ok (.iconst 0, 1) := by decide +kernel
theorem dX9_nearBy_36 : decode cX9_nearBy 36 = .ok (.iaload, 1) := by decide +kernel
theorem dX9_nearBy_37 : decode cX9_nearBy 37 = .ok (.if_icmp .ge 77, 3) := by decide +kernel
theorem dX9_nearBy_40 : decode cX9_nearBy 40 = .ok (.iconst 0, 1) := by decide +kernel
theorem dX9_nearBy_41 : decode cX9_nearBy 41 = .ok (.istore 8, 2) := by decide +kernel
theorem dX9_nearBy_43 : decode cX9_nearBy 43 = .ok (.iload 8, 2) := by decide +kernel
theorem dX9_nearBy_45 : decode cX9_nearBy 45 = .ok (.aload_n 0, 1) := by decide +kernel
theorem dX9_nearBy_46 : decode cX9_nearBy 46 = .ok (.getfield 13, 3) := by decide +kernel
theorem dX9_nearBy_49 : decode cX9_nearBy 49 = .ok (.iconst 0, 1) := by decide +kernel
theorem dX9_nearBy_50 : decode cX9_nearBy 50 = .ok (.iaload, 1) := by decide +kernel
theorem dX9_nearBy_51 : decode cX9_nearBy 51 = .ok (.if_icmp .ge 57, 3) := by decide +kernel
theorem dX9_nearBy_54 : decode cX9_nearBy 54 = .ok (.iload 4, 2) := by decide +kernel
theorem dX9_nearBy_56 : decode cX9_nearBy 56 = .ok (.iload 7, 2) := by decide +kernel
theorem dX9_nearBy_58 : decode cX9_nearBy 58 = .ok (.invokestatic 438, 3) := by decide +kernel
theorem dX9_nearBy_61 : decode cX9_nearBy 61 = .ok (.ifCond .eq 47, 3) := by decide +kernel
theorem dX9_nearBy_64 : decode cX9_nearBy 64 = .ok (.iload 6, 2) := by decide +kernel
theorem dX9_nearBy_66 : decode cX9_nearBy 66 = .ok (.iload_n 3, 1) := by decide +kernel
theorem dX9_nearBy_67 : decode cX9_nearBy 67 = .ok (.iload 8, 2) := by decide +kernel
theorem dX9_nearBy_69 : decode cX9_nearBy 69 = .ok (.invokestatic 438, 3) := by decide +kernel
theorem dX9_nearBy_72 : decode cX9_nearBy 72 = .ok (.ifCond .ne 26, 3) := by decide +kernel
theorem dX9_nearBy_75 : decode cX9_nearBy 75 = .ok (.aload_n 0, 1) := by decide +kernel
theorem dX9_nearBy_76 : decode cX9_nearBy 76 = .ok (.getfield 119, 3) := by decide +kernel
theorem dX9_nearBy_79 : decode cX9_nearBy 79 = .ok (.bipush 10, 2) := by decide +kernel
theorem dX9_nearBy_81 : decode cX9_nearBy 81 = .ok (.iload 7, 2) := by decide +kernel
theorem dX9_nearBy_83 : decode cX9_nearBy 83 = .ok (.imul, 1) := by decide +kernel
theorem dX9_nearBy_84 : decode cX9_nearBy 84 = .ok (.iload 8, 2) := by decide +kernel
theorem dX9_nearBy_86 : decode cX9_nearBy 86 = .ok (.iadd, 1) := by decide +kernel
theorem dX9_nearBy_87 : decode cX9_nearBy 87 = .ok (.baload, 1) := by decide +kernel
theorem dX9_nearBy_88 : decode cX9_nearBy 88 = .ok (.ifCond .eq 10, 3) := by decide +kernel
theorem dX9_nearBy_91 : decode cX9_nearBy 91 = .ok (.iconst 1, 1) := by decide +kernel
theorem dX9_nearBy_92 : decode cX9_nearBy 92 = .ok (.iload 8, 2) := by decide +kernel
theorem dX9_nearBy_94 : decode cX9_nearBy 94 = .ok (.ishl, 1) := by decide +kernel
theorem dX9_nearBy_95 : decode cX9_nearBy 95 = .ok (.goto 4, 3) := by decide +kernel
theorem dX9_nearBy_98 : decode cX9_nearBy 98 = .ok (.iconst 0, 1) := by decide +kernel
theorem dX9_nearBy_99 : decode cX9_nearBy 99 = .ok (.ior, 1) := by decide +kernel
theorem dX9_nearBy_100 : decode cX9_nearBy 100 = .ok (.istore 6, 2) := by decide +kernel
theorem dX9_nearBy_102 : decode cX9_nearBy 102 = .ok (.iinc 8 1, 3) := by decide +kernel
theorem dX9_nearBy_105 : decode cX9_nearBy 105 = .ok (.goto (-62), 3) := by decide +kernel
theorem dX9_nearBy_108 : decode cX9_nearBy 108 = .ok (.iinc 7 1, 3) := by decide +kernel
theorem dX9_nearBy_111 : decode cX9_nearBy 111 = .ok (.goto (-82), 3) := by decide +kernel
theorem dX9_nearBy_114 : decode cX9_nearBy 114 = .ok (.iload 6, 2) := by decide +kernel
theorem dX9_nearBy_116 : decode cX9_nearBy 116 = .ok (.istore 4, 2) := by decide +kernel
theorem dX9_nearBy_118 : decode cX9_nearBy 118 = .ok (.iinc 5 1, 3) := by decide +kernel
theorem dX9_nearBy_121 : decode cX9_nearBy 121 = .ok (.goto (-105), 3) := by decide +kernel
theorem dX9_nearBy_124 : decode cX9_nearBy 124 = .ok (.iload 4, 2) := by decide +kernel
theorem dX9_nearBy_126 : decode cX9_nearBy 126 = .ok (.ireturn, 1) := by decide +kernel
theorem dX9_layStrides_0 : decode cX9_layStrides 0 = .ok (.iconst 0, 1) := by decide +kernel
theorem dX9_layStrides_1 : decode cX9_layStrides 1 = .ok (.istore_n 2, 1) := by decide +kernel
theorem dX9_layStrides_2 : decode cX9_layStrides 2 = .ok (.iload_n 2, 1) := by decide +kernel
theorem dX9_layStrides_3 : decode cX9_layStrides 3 = .ok (.aload_n 0, 1) := by decide +kernel
theorem dX9_layStrides_4 : decode cX9_layStrides 4 = .ok (.getfield 13, 3) := by decide +kernel
theorem dX9_layStrides_7 : decode cX9_layStrides 7 = .ok (.iconst 0, 1) := by decide +kernel
theorem dX9_layStrides_8 : decode cX9_layStrides 8 = .ok (.iaload, 1) := by decide +kernel
theorem dX9_layStrides_9 : decode cX9_layStrides 9 = .ok (.if_icmp .ge 45, 3) := by decide +kernel
theorem dX9_layStrides_12 : decode cX9_layStrides 12 = .ok (.iconst 0, 1) := by decide +kernel
theorem dX9_layStrides_13 : decode cX9_layStrides 13 = .ok (.istore_n 3, 1) := by decide +kernel
theorem dX9_layStrides_14 : decode cX9_layStrides 14 = .ok (.iload_n 3, 1) := by decide +kernel
theorem dX9_layStrides_15 : decode cX9_layStrides 15 = .ok (.aload_n 0, 1) := by decide +kernel
theorem dX9_layStrides_16 : decode cX9_layStrides 16 = .ok (.getfield 13, 3) := by decide +kernel
theorem dX9_layStrides_19 : decode cX9_layStrides 19 = .ok (.iconst 0, 1) := by decide +kernel
theorem dX9_layStrides_20 : decode cX9_layStrides 20 = .ok (.iaload, 1) := by decide +kernel
theorem dX9_layStrides_21 : decode cX9_layStrides 21 = .ok (.if_icmp .ge 27, 3) := by decide +kernel
theorem dX9_layStrides_24 : decode cX9_layStrides 24 = .ok (.aload_n 0, 1) := by decide +kernel
theorem dX9_layStrides_25 : decode cX9_layStrides 25 = .ok (.getfield 119, 3) := by decide +kernel
theorem dX9_layStrides_28 : decode cX9_layStrides 28 = .ok (.bipush 10, 2) := by decide +kernel
theorem dX9_layStrides_30 : decode cX9_layStrides 30 = .ok (.iload_n 2, 1) := by decide +kernel
theorem dX9_layStrides_31 : decode cX9_layStrides 31 = .ok (.imul, 1) := by decide +kernel
theorem dX9_layStrides_32 : decode cX9_layStrides 32 = .ok (.iload_n 3, 1) := by decide +kernel
theorem dX9_layStrides_33 : decode cX9_layStrides 33 = .ok (.iadd, 1) := by decide +kernel
theorem dX9_layStrides_34 : decode cX9_layStrides 34 = .ok (.aload_n 0, 1) := by decide +kernel
theorem dX9_layStrides_35 : decode cX9_layStrides 35 = .ok (.iload_n 1, 1) := by decide +kernel
theorem dX9_layStrides_36 : decode cX9_layStrides 36 = .ok (.iload_n 2, 1) := by decide +kernel
theorem dX9_layStrides_37 : decode cX9_layStrides 37 = .ok (.iload_n 3, 1) := by decide +kernel
theorem dX9_layStrides_38 : decode cX9_layStrides 38 = .ok (.invokevirtual 231, 3) := by decide +kernel
theorem dX9_layStrides_41 : decode cX9_layStrides 41 = .ok (.bastore, 1) := by decide +kernel
theorem dX9_layStrides_42 : decode cX9_layStrides 42 = .ok (.iinc 3 1, 3) := by decide +kernel
theorem dX9_layStrides_45 : decode cX9_layStrides 45 = .ok (.goto (-31), 3) := by decide +kernel
theorem dX9_layStrides_48 : decode cX9_layStrides 48 = .ok (.iinc 2 1, 3) := by decide +kernel
theorem dX9_layStrides_51 : decode cX9_layStrides 51 = .ok (.goto (-49), 3) := by decide +kernel
theorem dX9_layStrides_54 : decode cX9_layStrides 54 = .ok (.return_, 1) := by decide +kernel
theorem dX9_near_0 : decode cX9_near 0 = .ok (.aload_n 0, 1) := by decide +kernel
theorem dX9_near_1 : decode cX9_near 1 = .ok (.iconst 0, 1) := by decide +kernel
theorem dX9_near_2 : decode cX9_near 2 = .ok (.putfield 161, 3) := by decide +kernel
theorem dX9_near_5 : decode cX9_near 5 = .ok (.aload_n 0, 1) := by decide +kernel
theorem dX9_near_6 : decode cX9_near 6 = .ok (.iload_n 1, 1) := by decide +kernel
theorem dX9_near_7 : decode cX9_near 7 = .ok (.invokevirtual 209, 3) := by decide +kernel
theorem dX9_near_10 : decode cX9_near 10 = .ok (.ifCond .eq 15, 3) := by decide +kernel
theorem dX9_near_13 : decode cX9_near 13 = .ok (.iload_n 2, 1) := by decide +kernel
theorem dX9_near_14 : decode cX9_near 14 = .ok (.i2l, 1) := by decide +kernel
theorem dX9_near_15 : decode cX9_near 15 = .ok (.lconst 0, 1) := by decide +kernel
theorem dX9_near_16 : decode cX9_near 16 = .ok (.ldc2_w 237, 3) := by decide +kernel
theorem dX9_near_19 : decode cX9_near 19 = .ok (.invokestatic 181, 3) := by decide +kernel
theorem dX9_near_22 : decode cX9_near 22 = .ok (.ifCond .ne 5, 3) := by decide +kernel
theorem dX9_near_25 : decode cX9_near 25 = .ok (.iconst (-1), 1) := by decide +kernel
theorem dX9_near_26 : decode cX9_near 26 = .ok (.ireturn, 1) := by decide +kernel
theorem dX9_near_27 : decode cX9_near 27 = .ok (.aload_n 0, 1) := by decide +kernel
theorem dX9_near_28 : decode cX9_near 28 = .ok (.iload_n 1, 1) := by decide +kernel
theorem dX9_near_29 : decode cX9_near 29 = .ok (.invokevirtual 473, 3) := by decide +kernel
theorem dX9_near_32 : decode cX9_near 32 = .ok (.aload_n 0, 1) := by decide +kernel
theorem dX9_near_33 : decode cX9_near 33 = .ok (.iload_n 1, 1) := by decide +kernel
theorem dX9_near_34 : decode cX9_near 34 = .ok (.iload_n 2, 1) := by decide +kernel
theorem dX9_near_35 : decode cX9_near 35 = .ok (.iconst 0, 1) := by decide +kernel
theorem dX9_near_36 : decode cX9_near 36 = .ok (.invokevirtual 476, 3) := by decide +kernel
theorem dX9_near_39 : decode cX9_near 39 = .ok (.ireturn, 1) := by decide +kernel
theorem dX9_cut_0 : decode cX9_cut 0 = .ok (.aload_n 0, 1) := by decide +kernel
theorem dX9_cut_1 : decode cX9_cut 1 = .ok (.iconst 0, 1) := by decide +kernel
theorem dX9_cut_2 : decode cX9_cut 2 = .ok (.putfield 161, 3) := by decide +kernel
theorem dX9_cut_5 : decode cX9_cut 5 = .ok (.aload_n 0, 1) := by decide +kernel
theorem dX9_cut_6 : decode cX9_cut 6 = .ok (.iload_n 1, 1) := by decide +kernel
theorem dX9_cut_7 : decode cX9_cut 7 = .ok (.invokevirtual 209, 3) := by decide +kernel
theorem dX9_cut_10 : decode cX9_cut 10 = .ok (.ifCond .eq 21, 3) := by decide +kernel
theorem dX9_cut_13 : decode cX9_cut 13 = .ok (.aload_n 0, 1) := by decide +kernel
theorem dX9_cut_14 : decode cX9_cut 14 = .ok (.iload_n 2, 1) := by decide +kernel
theorem dX9_cut_15 : decode cX9_cut 15 = .ok (.invokevirtual 196, 3) := by decide +kernel
theorem dX9_cut_18 : decode cX9_cut 18 = .ok (.ifCond .eq 13, 3) := by decide +kernel
theorem dX9_cut_21 : decode cX9_cut 21 = .ok (.iload_n 3, 1) := by decide +kernel
theorem dX9_cut_22 : decode cX9_cut 22 = .ok (.i2l, 1) := by decide +kernel
theorem dX9_cut_23 : decode cX9_cut 23 = .ok (.lconst 0, 1) := by decide +kernel
theorem dX9_cut_24 : decode cX9_cut 24 = .ok (.lconst 1, 1) := by decide +kernel
theorem dX9_cut_25 : decode cX9_cut 25 = .ok (.invokestatic 181, 3) := by decide +kernel
theorem dX9_cut_28 : decode cX9_cut 28 = .ok (.ifCond .ne 5, 3) := by decide +kernel
theorem dX9_cut_31 : decode cX9_cut 31 = .ok (.iconst (-1), 1) := by decide +kernel
theorem dX9_cut_32 : decode cX9_cut 32 = .ok (.ireturn, 1) := by decide +kernel
theorem dX9_cut_33 : decode cX9_cut 33 = .ok (.aload_n 0, 1) := by decide +kernel
theorem dX9_cut_34 : decode cX9_cut 34 = .ok (.iload_n 1, 1) := by decide +kernel
theorem dX9_cut_35 : decode cX9_cut 35 = .ok (.invokevirtual 473, 3) := by decide +kernel
theorem dX9_cut_38 : decode cX9_cut 38 = .ok (.iconst 1, 1) := by decide +kernel
theorem dX9_cut_39 : decode cX9_cut 39 = .ok (.aload_n 0, 1) := by decide +kernel
theorem dX9_cut_40 : decode cX9_cut 40 = .ok (.getfield 13, 3) := by decide +kernel
theorem dX9_cut_43 : decode cX9_cut 43 = .ok (.iconst 0, 1) := by decide +kernel
theorem dX9_cut_44 : decode cX9_cut 44 = .ok (.iaload, 1) := by decide +kernel
theorem dX9_cut_45 : decode cX9_cut 45 = .ok (.ishl, 1) := by decide +kernel
theorem dX9_cut_46 : decode cX9_cut 46 = .ok (.iconst 1, 1) := by decide +kernel
theorem dX9_cut_47 : decode cX9_cut 47 = .ok (.isub, 1) := by decide +kernel
theorem dX9_cut_48 : decode cX9_cut 48 = .ok (.iconst 1, 1) := by decide +kernel
theorem dX9_cut_49 : decode cX9_cut 49 = .ok (.iload_n 2, 1) := by decide +kernel
theorem dX9_cut_50 : decode cX9_cut 50 = .ok (.ishl, 1) := by decide +kernel
theorem dX9_cut_51 : decode cX9_cut 51 = .ok (.iconst (-1), 1) := by decide +kernel
theorem dX9_cut_52 : decode cX9_cut 52 = .ok (.ixor, 1) := by decide +kernel
theorem dX9_cut_53 : decode cX9_cut 53 = .ok (.iand, 1) := by decide +kernel
theorem dX9_cut_54 : decode cX9_cut 54 = .ok (.iconst 1, 1) := by decide +kernel
theorem dX9_cut_55 : decode cX9_cut 55 = .ok (.aload_n 0, 1) := by decide +kernel
theorem dX9_cut_56 : decode cX9_cut 56 = .ok (.getfield 13, 3) := by decide +kernel
theorem dX9_cut_59 : decode cX9_cut 59 = .ok (.bipush 17, 2) := by decide +kernel
theorem dX9_cut_61 : decode cX9_cut 61 = .ok (.iload_n 1, 1) := by decide +kernel
theorem dX9_cut_62 : decode cX9_cut 62 = .ok (.iadd, 1) := by decide +kernel
theorem dX9_cut_63 : decode cX9_cut 63 = .ok (.iaload, 1) := by decide +kernel
theorem dX9_cut_64 : decode cX9_cut 64 = .ok (.ishl, 1) := by decide +kernel
theorem dX9_cut_65 : decode cX9_cut 65 = .ok (.iconst (-1), 1) := by decide +kernel
theorem dX9_cut_66 : decode cX9_cut 66 = .ok (.ixor, 1) := by decide +kernel
theorem dX9_cut_67 : decode cX9_cut 67 = .ok (.iand, 1) := by decide +kernel
theorem dX9_cut_68 : decode cX9_cut 68 = .ok (.istore 4, 2) := by decide +kernel
theorem dX9_cut_70 : decode cX9_cut 70 = .ok (.ldc_w 480, 3) := by decide +kernel
theorem dX9_cut_73 : decode cX9_cut 73 = .ok (.istore 5, 2) := by decide +kernel
theorem dX9_cut_75 : decode cX9_cut 75 = .ok (.iconst (-1), 1) := by decide +kernel
theorem dX9_cut_76 : decode cX9_cut 76 = .ok (.istore 6, 2) := by decide +kernel
theorem dX9_cut_78 : decode cX9_cut 78 = .ok (.iconst 0, 1) := by decide +kernel
theorem dX9_cut_79 : decode cX9_cut 79 = .ok (.istore 7, 2) := by decide +kernel
theorem dX9_cut_81 : decode cX9_cut 81 = .ok (.iload 7, 2) := by decide +kernel
theorem dX9_cut_83 : decode cX9_cut 83 = .ok (.iload 4, 2) := by decide +kernel
theorem dX9_cut_85 : decode cX9_cut 85 = .ok (.if_icmp .gt 56, 3) := by decide +kernel
theorem dX9_cut_88 : decode cX9_cut 88 = .ok (.iload 7, 2) := by decide +kernel
theorem dX9_cut_90 : decode cX9_cut 90 = .ok (.iload 4, 2) := by decide +kernel
theorem dX9_cut_92 : decode cX9_cut 92 = .ok (.iconst (-1), 1) := by decide +kernel
theorem dX9_cut_93 : decode cX9_cut 93 = .ok (.ixor, 1) := by decide +kernel
theorem dX9_cut_94 : decode cX9_cut 94 = .ok (.iand, 1) := by decide +kernel
theorem dX9_cut_95 : decode cX9_cut 95 = .ok (.ifCond .ne 40, 3) := by decide +kernel
theorem dX9_cut_98 : decode cX9_cut 98 = .ok (.iload 7, 2) := by decide +kernel
theorem dX9_cut_100 : decode cX9_cut 100 = .ok (.invokestatic 481, 3) := by decide +kernel
theorem dX9_cut_103 : decode cX9_cut 103 = .ok (.iload 5, 2) := by decide +kernel
theorem dX9_cut_105 : decode cX9_cut 105 = .ok (.if_icmp .ge 30, 3) := by decide +kernel
theorem dX9_cut_108 : decode cX9_cut 108 = .ok (.aload_n 0, 1) := by decide +kernel
theorem dX9_cut_109 : decode cX9_cut 109 = .ok (.iload_n 1, 1) := by decide +kernel
theorem dX9_cut_110 : decode cX9_cut 110 = .ok (.bipush 10, 2) := by decide +kernel
theorem dX9_cut_112 : decode cX9_cut 112 = .ok (.iload 7, 2) := by decide +kernel
theorem dX9_cut_114 : decode cX9_cut 114 = .ok (.invokevirtual 476, 3) := by decide +kernel
theorem dX9_cut_117 : decode cX9_cut 117 = .ok (.iload_n 2, 1) := by decide +kernel
theorem dX9_cut_118 : decode cX9_cut 118 = .ok (.invokestatic 438, 3) := by decide +kernel
theorem dX9_cut_121 : decode cX9_cut 121 = .ok (.ifCond .ne 14, 3) := by decide +kernel
theorem dX9_cut_124 : decode cX9_cut 124 = .ok (.iload 7, 2) := by decide +kernel
theorem dX9_cut_126 : decode cX9_cut 126 = .ok (.invokestatic 481, 3) := by decide +kernel
theorem dX9_cut_129 : decode cX9_cut 129 = .ok (.istore 5, 2) := by decide +kernel
theorem dX9_cut_131 : decode cX9_cut 131 = .ok (.iload 7, 2) := by decide +kernel
theorem dX9_cut_133 : decode cX9_cut 133 = .ok (.istore 6, 2) := by decide +kernel
theorem dX9_cut_135 : decode cX9_cut 135 = .ok (.iinc 7 1, 3) := by decide +kernel
theorem dX9_cut_138 : decode cX9_cut 138 = .ok (.goto (-57), 3) := by decide +kernel
theorem dX9_cut_141 : decode cX9_cut 141 = .ok (.iload 6, 2) := by decide +kernel
theorem dX9_cut_143 : decode cX9_cut 143 = .ok (.iconst (-1), 1) := by decide +kernel
theorem dX9_cut_144 : decode cX9_cut 144 = .ok (.if_icmp .eq 8, 3) := by decide +kernel
theorem dX9_cut_147 : decode cX9_cut 147 = .ok (.iload_n 3, 1) := by decide +kernel
theorem dX9_cut_148 : decode cX9_cut 148 = .ok (.iconst 1, 1) := by decide +kernel
theorem dX9_cut_149 : decode cX9_cut 149 = .ok (.if_icmp .ne 8, 3) := by decide +kernel
theorem dX9_cut_152 : decode cX9_cut 152 = .ok (.iload 6, 2) := by decide +kernel
theorem dX9_cut_154 : decode cX9_cut 154 = .ok (.goto 5, 3) := by decide +kernel
theorem dX9_cut_157 : decode cX9_cut 157 = .ok (.iload 5, 2) := by decide +kernel
theorem dX9_cut_159 : decode cX9_cut 159 = .ok (.ireturn, 1) := by decide +kernel
theorem dX9_isSafeAllDay_0 : decode cX9_isSafeAllDay 0 = .ok (.aload_n 0, 1) := by decide +kernel
theorem dX9_isSafeAllDay_1 : decode cX9_isSafeAllDay 1 = .ok (.getfield 13, 3) := by decide +kernel
theorem dX9_isSafeAllDay_4 : decode cX9_isSafeAllDay 4 = .ok (.bipush 7, 2) := by decide +kernel
theorem dX9_isSafeAllDay_6 : decode cX9_isSafeAllDay 6 = .ok (.iaload, 1) := by decide +kernel
theorem dX9_isSafeAllDay_7 : decode cX9_isSafeAllDay 7 = .ok (.istore_n 2, 1) := by decide +kernel
theorem dX9_isSafeAllDay_8 : decode cX9_isSafeAllDay 8 = .ok (.iconst 1, 1) := by decide +kernel
theorem dX9_isSafeAllDay_9 : decode cX9_isSafeAllDay 9 = .ok (.istore_n 3, 1) := by decide +kernel
theorem dX9_isSafeAllDay_10 : decode cX9_isSafeAllDay 10 = .ok (.iconst 0, 1) := by decide +kernel
theorem dX9_isSafeAllDay_11 : decode cX9_isSafeAllDay 11 = .ok (.istore 4, 2) := by decide +kernel
theorem dX9_isSafeAllDay_13 : decode cX9_isSafeAllDay 13 = .ok (.iload 4, 2) := by decide +kernel
theorem dX9_isSafeAllDay_15 : decode cX9_isSafeAllDay 15 = .ok (.bipush 24, 2) := by decide +kernel
theorem dX9_isSafeAllDay_17 : decode cX9_isSafeAllDay 17 = .ok (.if_icmp .ge 38, 3) := by decide +kernel
theorem dX9_isSafeAllDay_20 : decode cX9_isSafeAllDay 20 = .ok (.aload_n 0, 1) := by decide +kernel
theorem dX9_isSafeAllDay_21 : decode cX9_isSafeAllDay 21 = .ok (.getfield 13, 3) := by decide +kernel
theorem dX9_isSafeAllDay_24 : decode cX9_isSafeAllDay 24 = .ok (.bipush 7, 2) := by decide +kernel
theorem dX9_isSafeAllDay_26 : decode cX9_isSafeAllDay 26 = .ok (.iload_n 2, 1) := by decide +kernel
theorem dX9_isSafeAllDay_27 : decode cX9_isSafeAllDay 27 = .ok (.iload 4, 2) := by decide +kernel
theorem dX9_isSafeAllDay_29 : decode cX9_isSafeAllDay 29 = .ok (.iadd, 1) := by decide +kernel
theorem dX9_isSafeAllDay_30 : decode cX9_isSafeAllDay 30 = .ok (.iastore, 1) := by decide +kernel
theorem dX9_isSafeAllDay_31 : decode cX9_isSafeAllDay 31 = .ok (.iload_n 3, 1) := by decide +kernel
theorem dX9_isSafeAllDay_32 : decode cX9_isSafeAllDay 32 = .ok (.ifCond .eq 15, 3) := by decide +kernel
theorem dX9_isSafeAllDay_35 : decode cX9_isSafeAllDay 35 = .ok (.aload_n 0, 1) := by decide +kernel
theorem dX9_isSafeAllDay_36 : decode cX9_isSafeAllDay 36 = .ok (.iload_n 1, 1) := by decide +kernel
theorem dX9_isSafeAllDay_37 : decode cX9_isSafeAllDay 37 = .ok (.invokevirtual 200, 3) := by decide +kernel
theorem dX9_isSafeAllDay_40 : decode cX9_isSafeAllDay 40 = .ok (.ifCond .eq 7, 3) := by decide +kernel
theorem dX9_isSafeAllDay_43 : decode cX9_isSafeAllDay 43 = .ok (.iconst 1, 1) := by decide +kernel
theorem dX9_isSafeAllDay_44 : decode cX9_isSafeAllDay 44 = .ok (.goto 4, 3) := by decide +kernel
theorem dX9_isSafeAllDay_47 : decode cX9_isSafeAllDay 47 = .ok (.iconst 0, 1) := by decide +kernel
theorem dX9_isSafeAllDay_48 : decode cX9_isSafeAllDay 48 = .ok (.istore_n 3, 1) := by decide +kernel
theorem dX9_isSafeAllDay_49 : decode cX9_isSafeAllDay 49 = .ok (.iinc 4 1, 3) := by decide +kernel
theorem dX9_isSafeAllDay_52 : decode cX9_isSafeAllDay 52 = .ok (.goto (-39), 3) := by decide +kernel
theorem dX9_isSafeAllDay_55 : decode cX9_isSafeAllDay 55 = .ok (.aload_n 0, 1) := by decide +kernel
theorem dX9_isSafeAllDay_56 : decode cX9_isSafeAllDay 56 = .ok (.getfield 13, 3) := by decide +kernel
theorem dX9_isSafeAllDay_59 : decode cX9_isSafeAllDay 59 = .ok (.bipush 7, 2) := by decide +kernel
theorem dX9_isSafeAllDay_61 : decode cX9_isSafeAllDay 61 = .ok (.iload_n 2, 1) := by decide +kernel
theorem dX9_isSafeAllDay_62 : decode cX9_isSafeAllDay 62 = .ok (.iastore, 1) := by decide +kernel
theorem dX9_isSafeAllDay_63 : decode cX9_isSafeAllDay 63 = .ok (.iload_n 3, 1) := by decide +kernel
theorem dX9_isSafeAllDay_64 : decode cX9_isSafeAllDay 64 = .ok (.ireturn, 1) := by decide +kernel
theorem dX9_roost_0 : decode cX9_roost 0 = .ok (.aload_n 0, 1) := by decide +kernel
theorem dX9_roost_1 : decode cX9_roost 1 = .ok (.iconst 0, 1) := by decide +kernel
theorem dX9_roost_2 : decode cX9_roost 2 = .ok (.putfield 161, 3) := by decide +kernel
theorem dX9_roost_5 : decode cX9_roost 5 = .ok (.aload_n 0, 1) := by decide +kernel
theorem dX9_roost_6 : decode cX9_roost 6 = .ok (.iload_n 1, 1) := by decide +kernel
theorem dX9_roost_7 : decode cX9_roost 7 = .ok (.invokevirtual 209, 3) := by decide +kernel
theorem dX9_roost_10 : decode cX9_roost 10 = .ok (.ifCond .ne 5, 3) := by decide +kernel
theorem dX9_roost_13 : decode cX9_roost 13 = .ok (.iconst (-1), 1) := by decide +kernel
theorem dX9_roost_14 : decode cX9_roost 14 = .ok (.ireturn, 1) := by decide +kernel
theorem dX9_roost_15 : decode cX9_roost 15 = .ok (.aload_n 0, 1) := by decide +kernel
theorem dX9_roost_16 : decode cX9_roost 16 = .ok (.iload_n 1, 1) := by decide +kernel
theorem dX9_roost_17 : decode cX9_roost 17 = .ok (.invokevirtual 473, 3) := by decide +kernel
theorem dX9_roost_20 : decode cX9_roost 20 = .ok (.iconst (-1), 1) := by decide +kernel
theorem dX9_roost_21 : decode cX9_roost 21 = .ok (.istore_n 2, 1) := by decide +kernel
theorem dX9_roost_22 : decode cX9_roost 22 = .ok (.iconst 0, 1) := by decide +kernel
theorem dX9_roost_23 : decode cX9_roost 23 = .ok (.istore_n 3, 1) := by decide +kernel
theorem dX9_roost_24 : decode cX9_roost 24 = .ok (.iload_n 3, 1) := by decide +kernel
theorem dX9_roost_25 : decode cX9_roost 25 = .ok (.bipush 10, 2) := by decide +kernel
theorem dX9_roost_27 : decode cX9_roost 27 = .ok (.if_icmp .gt 70, 3) := by decide +kernel
theorem dX9_roost_30 : decode cX9_roost 30 = .ok (.iload_n 2, 1) := by decide +kernel
theorem dX9_roost_31 : decode cX9_roost 31 = .ok (.iconst (-1), 1) := by decide +kernel
theorem dX9_roost_32 : decode cX9_roost 32 = .ok (.if_icmp .ne 65, 3) := by decide +kernel
theorem dX9_roost_35 : decode cX9_roost 35 = .ok (.aload_n 0, 1) := by decide +kernel
theorem dX9_roost_36 : decode cX9_roost 36 = .ok (.iload_n 1, 1) := by decide +kernel
theorem dX9_roost_37 : decode cX9_roost 37 = .ok (.iload_n 3, 1) := by decide +kernel
theorem dX9_roost_38 : decode cX9_roost 38 = .ok (.iconst 0, 1) := by decide +kernel
theorem dX9_roost_39 : decode cX9_roost 39 = .ok (.invokevirtual 476, 3) := by decide +kernel
theorem dX9_roost_42 : decode cX9_roost 42 = .ok (.istore 4, 2) := by decide +kernel
theorem dX9_roost_44 : decode cX9_roost 44 = .ok (.aload_n 0, 1) := by decide +kernel
theorem dX9_roost_45 : decode cX9_roost 45 = .ok (.getfield 13, 3) := by decide +kernel
theorem dX9_roost_48 : decode cX9_roost 48 = .ok (.iconst 0, 1) := by decide +kernel
theorem dX9_roost_49 : decode cX9_roost 49 = .ok (.iaload, 1) := by decide +kernel
theorem dX9_roost_50 : decode cX9_roost 50 = .ok (.iconst 1, 1) := by decide +kernel
theorem dX9_roost_51 : decode cX9_roost 51 = .ok (.isub, 1) := by decide +kernel
theorem dX9_roost_52 : decode cX9_roost 52 = .ok (.istore 5, 2) := by decide +kernel
theorem dX9_roost_54 : decode cX9_roost 54 = .ok (.iload 5, 2) := by decide +kernel
theorem dX9_roost_56 : decode cX9_roost 56 = .ok (.ifCond .lt 35, 3) := by decide +kernel
theorem dX9_roost_59 : decode cX9_roost 59 = .ok (.iload 4, 2) := by decide +kernel
theorem dX9_roost_61 : decode cX9_roost 61 = .ok (.iload 5, 2) := by decide +kernel
theorem dX9_roost_63 : decode cX9_roost 63 = .ok (.invokestatic 438, 3) := by decide +kernel
theorem dX9_roost_66 : decode cX9_roost 66 = .ok (.ifCond .eq 17, 3) := by decide +kernel
theorem dX9_roost_69 : decode cX9_roost 69 = .ok (.aload_n 0, 1) := by decide +kernel
theorem dX9_roost_70 : decode cX9_roost 70 = .ok (.iload 5, 2) := by decide +kernel
theorem dX9_roost_72 : decode cX9_roost 72 = .ok (.invokevirtual 484, 3) := by decide +kernel
theorem dX9_roost_75 : decode cX9_roost 75 = .ok (.ifCond .eq 8, 3) := by decide +kernel
theorem dX9_roost_78 : decode cX9_roost 78 = .ok (.iload 5, 2) := by decide +kernel
theorem dX9_roost_80 : decode cX9_roost 80 = .ok (.goto 4, 3) := by decide +kernel
theorem dX9_roost_83 : decode cX9_roost 83 = .ok (.iload_n 2, 1) := by decide +kernel
theorem dX9_roost_84 : decode cX9_roost 84 = .ok (.istore_n 2, 1) := by decide +kernel
theorem dX9_roost_85 : decode cX9_roost 85 = .ok (.iinc 5 (-1), 3) := by decide +kernel
theorem dX9_roost_88 : decode cX9_roost 88 = .ok (.goto (-34), 3) := by decide +kernel
theorem dX9_roost_91 : decode cX9_roost 91 = .ok (.iinc 3 1, 3) := by decide +kernel
theorem dX9_roost_94 : decode cX9_roost 94 = .ok (.goto (-70), 3) := by decide +kernel
theorem dX9_roost_97 : decode cX9_roost 97 = .ok (.iload_n 2, 1) := by decide +kernel
theorem dX9_roost_98 : decode cX9_roost 98 = .ok (.ireturn, 1) := by decide +kernel
theorem dX9_where_0 : decode cX9_where 0 = .ok (.aload_n 0, 1) := by decide +kernel
theorem dX9_where_1 : decode cX9_where 1 = .ok (.iconst 0, 1) := by decide +kernel
theorem dX9_where_2 : decode cX9_where 2 = .ok (.putfield 161, 3) := by decide +kernel
theorem dX9_where_5 : decode cX9_where 5 = .ok (.aload_n 0, 1) := by decide +kernel
theorem dX9_where_6 : decode cX9_where 6 = .ok (.iload_n 1, 1) := by decide +kernel
theorem dX9_where_7 : decode cX9_where 7 = .ok (.invokevirtual 212, 3) := by decide +kernel
theorem dX9_where_10 : decode cX9_where 10 = .ok (.ifCond .eq 15, 3) := by decide +kernel
theorem dX9_where_13 : decode cX9_where 13 = .ok (.iload_n 2, 1) := by decide +kernel
theorem dX9_where_14 : decode cX9_where 14 = .ok (.i2l, 1) := by decide +kernel
theorem dX9_where_15 : decode cX9_where 15 = .ok (.lconst 0, 1) := by decide +kernel
theorem dX9_where_16 : decode cX9_where 16 = .ok (.ldc2_w 487, 3) := by decide +kernel
theorem dX9_where_19 : decode cX9_where 19 = .ok (.invokestatic 181, 3) := by decide +kernel
theorem dX9_where_22 : decode cX9_where 22 = .ok (.ifCond .ne 5, 3) := by decide +kernel
theorem dX9_where_25 : decode cX9_where 25 = .ok (.iconst (-1), 1) := by decide +kernel
theorem dX9_where_26 : decode cX9_where 26 = .ok (.ireturn, 1) := by decide +kernel
theorem dX9_where_27 : decode cX9_where 27 = .ok (.aload_n 0, 1) := by decide +kernel
theorem dX9_where_28 : decode cX9_where 28 = .ok (.bipush 16, 2) := by decide +kernel
theorem dX9_where_30 : decode cX9_where 30 = .ok (.invokevirtual 174, 3) := by decide +kernel
theorem dX9_where_33 : decode cX9_where 33 = .ok (.iconst 0, 1) := by decide +kernel
theorem dX9_where_34 : decode cX9_where 34 = .ok (.istore_n 3, 1) := by decide +kernel
theorem dX9_where_35 : decode cX9_where 35 = .ok (.iload_n 3, 1) := by decide +kernel
theorem dX9_where_36 : decode cX9_where 36 = .ok (.iload_n 2, 1) := by decide +kernel
theorem dX9_where_37 : decode cX9_where 37 = .ok (.if_icmp .ge 13, 3) := by decide +kernel
theorem dX9_where_40 : decode cX9_where 40 = .ok (.aload_n 0, 1) := by decide +kernel
theorem dX9_where_41 : decode cX9_where 41 = .ok (.invokevirtual 454, 3) := by decide +kernel
theorem dX9_where_44 : decode cX9_where 44 = .ok (.iinc 3 1, 3) := by decide +kernel
theorem dX9_where_47 : decode cX9_where 47 = .ok (.goto (-12), 3) := by decide +kernel
theorem dX9_where_50 : decode cX9_where 50 = .ok (.aload_n 0, 1) := by decide +kernel
theorem dX9_where_51 : decode cX9_where 51 = .ok (.getfield 13, 3) := by decide +kernel
theorem dX9_where_54 : decode cX9_where 54 = .ok (.bipush 21, 2) := by decide +kernel
theorem dX9_where_56 : decode cX9_where 56 = .ok (.iload_n 1, 1) := by decide +kernel
theorem dX9_where_57 : decode cX9_where 57 = .ok (.iadd, 1) := by decide +kernel
theorem dX9_where_58 : decode cX9_where 58 = .ok (.iaload, 1) := by decide +kernel
theorem dX9_where_59 : decode cX9_where 59 = .ok (.istore_n 3, 1) := by decide +kernel
theorem dX9_where_60 : decode cX9_where 60 = .ok (.aload_n 0, 1) := by decide +kernel
theorem dX9_where_61 : decode cX9_where 61 = .ok (.bipush 16, 2) := by decide +kernel
theorem dX9_where_63 : decode cX9_where 63 = .ok (.invokevirtual 178, 3) := by decide +kernel
theorem dX9_where_66 : decode cX9_where 66 = .ok (.iload_n 3, 1) := by decide +kernel
theorem dX9_where_67 : decode cX9_where 67 = .ok (.ireturn, 1) := by decide +kernel
theorem dX9_meeting_0 : decode cX9_meeting 0 = .ok (.aload_n 0, 1) := by decide +kernel
theorem dX9_meeting_1 : decode cX9_meeting 1 = .ok (.iconst 0, 1) := by decide +kernel
theorem dX9_meeting_2 : decode cX9_meeting 2 = .ok (.putfield 161, 3) := by decide +kernel
theorem dX9_meeting_5 : decode cX9_meeting 5 = .ok (.aload_n 0, 1) := by decide +kernel
theorem dX9_meeting_6 : decode cX9_meeting 6 = .ok (.iload_n 1, 1) := by decide +kernel
theorem dX9_meeting_7 : decode cX9_meeting 7 = .ok (.invokevirtual 209, 3) := by decide +kernel
theorem dX9_meeting_10 : decode cX9_meeting 10 = .ok (.ifCond .eq 11, 3) := by decide +kernel
theorem dX9_meeting_13 : decode cX9_meeting 13 = .ok (.aload_n 0, 1) := by decide +kernel
theorem dX9_meeting_14 : decode cX9_meeting 14 = .ok (.iload_n 2, 1) := by decide +kernel
theorem dX9_meeting_15 : decode cX9_meeting 15 = .ok (.invokevirtual 212, 3) := by decide +kernel
theorem dX9_meeting_18 : decode cX9_meeting 18 = .ok (.ifCond .ne 5, 3) := by decide +kernel
theorem dX9_meeting_21 : decode cX9_meeting 21 = .ok (.iconst (-1), 1) := by decide +kernel
theorem dX9_meeting_22 : decode cX9_meeting 22 = .ok (.ireturn, 1) := by decide +kernel
theorem dX9_meeting_23 : decode cX9_meeting 23 = .ok (.aload_n 0, 1) := by decide +kernel
theorem dX9_meeting_24 : decode cX9_meeting 24 = .ok (.getfield 13, 3) := by decide +kernel
theorem dX9_meeting_27 : decode cX9_meeting 27 = .ok (.bipush 30, 2) := by decide +kernel
theorem dX9_meeting_29 : decode cX9_meeting 29 = .ok (.aload_n 0, 1) := by decide +kernel
theorem dX9_meeting_30 : decode cX9_meeting 30 = .ok (.getfield 13, 3) := by decide +kernel
theorem dX9_meeting_33 : decode cX9_meeting 33 = .ok (.bipush 17, 2) := by decide +kernel
theorem dX9_meeting_35 : decode cX9_meeting 35 = .ok (.iload_n 1, 1) := by decide +kernel
theorem dX9_meeting_36 : decode cX9_meeting 36 = .ok (.iadd, 1) := by decide +kernel
theorem dX9_meeting_37 : decode cX9_meeting 37 = .ok (.iaload, 1) := by decide +kernel
theorem dX9_meeting_38 : decode cX9_meeting 38 = .ok (.iadd, 1) := by decide +kernel
theorem dX9_meeting_39 : decode cX9_meeting 39 = .ok (.iaload, 1) := by decide +kernel
theorem dX9_meeting_40 : decode cX9_meeting 40 = .ok (.istore_n 3, 1) := by decide +kernel
theorem dX9_meeting_41 : decode cX9_meeting 41 = .ok (.aload_n 0, 1) := by decide +kernel
theorem dX9_meeting_42 : decode cX9_meeting 42 = .ok (.bipush 16, 2) := by decide +kernel
theorem dX9_meeting_44 : decode cX9_meeting 44 = .ok (.invokevirtual 174, 3) := by decide +kernel
theorem dX9_meeting_47 : decode cX9_meeting 47 = .ok (.iconst 0, 1) := by decide +kernel
theorem dX9_meeting_48 : decode cX9_meeting 48 = .ok (.istore 4, 2) := by decide +kernel
theorem dX9_meeting_50 : decode cX9_meeting 50 = .ok (.iload 4, 2) := by decide +kernel
theorem dX9_meeting_52 : decode cX9_meeting 52 = .ok (.bipush 60, 2) := by decide +kernel
theorem dX9_meeting_54 : decode cX9_meeting 54 = .ok (.if_icmp .gt 26, 3) := by decide +kernel
theorem dX9_meeting_57 : decode cX9_meeting 57 = .ok (.aload_n 0, 1) := by decide +kernel
theorem dX9_meeting_58 : decode cX9_meeting 58 = .ok (.getfield 13, 3) := by decide +kernel
theorem dX9_meeting_61 : decode cX9_meeting 61 = .ok (.bipush 21, 2) := by decide +kernel
theorem dX9_meeting_63 : decode cX9_meeting 63 = .ok (.iload_n 2, 1) := by decide +kernel
theorem dX9_meeting_64 : decode cX9_meeting 64 = .ok (.iadd, 1) := by decide +kernel
theorem dX9_meeting_65 : decode cX9_meeting 65 = .ok (.iaload, 1) := by decide +kernel
theorem dX9_meeting_66 : decode cX9_meeting 66 = .ok (.iload_n 3, 1) := by decide +kernel
theorem dX9_meeting_67 : decode cX9_meeting 67 = .ok (.if_icmp .eq 13, 3) := by decide +kernel
theorem dX9_meeting_70 : decode cX9_meeting 70 = .ok (.aload_n 0, 1) := by decide +kernel
theorem dX9_meeting_71 : decode cX9_meeting 71 = .ok (.invokevirtual 454, 3) := by decide +kernel
theorem dX9_meeting_74 : decode cX9_meeting 74 = .ok (.iinc 4 1, 3) := by decide +kernel
theorem dX9_meeting_77 : decode cX9_meeting 77 = .ok (.goto (-27), 3) := by decide +kernel
theorem dX9_meeting_80 : decode cX9_meeting 80 = .ok (.aload_n 0, 1) := by decide +kernel
theorem dX9_meeting_81 : decode cX9_meeting 81 = .ok (.bipush 16, 2) := by decide +kernel
theorem dX9_meeting_83 : decode cX9_meeting 83 = .ok (.invokevirtual 178, 3) := by decide +kernel
theorem dX9_meeting_86 : decode cX9_meeting 86 = .ok (.iload 4, 2) := by decide +kernel
theorem dX9_meeting_88 : decode cX9_meeting 88 = .ok (.bipush 60, 2) := by decide +kernel
theorem dX9_meeting_90 : decode cX9_meeting 90 = .ok (.if_icmp .le 7, 3) := by decide +kernel
theorem dX9_meeting_93 : decode cX9_meeting 93 = .ok (.iconst (-1), 1) := by decide +kernel
theorem dX9_meeting_94 : decode cX9_meeting 94 = .ok (.goto 5, 3) := by decide +kernel
theorem dX9_meeting_97 : decode cX9_meeting 97 = .ok (.iload 4, 2) := by decide +kernel
theorem dX9_meeting_99 : decode cX9_meeting 99 = .ok (.ireturn, 1) := by decide +kernel
theorem dX9_free_0 : decode cX9_free 0 = .ok (.aload_n 0, 1) := by decide +kernel
theorem dX9_free_1 : decode cX9_free 1 = .ok (.iconst 0, 1) := by decide +kernel
theorem dX9_free_2 : decode cX9_free 2 = .ok (.putfield 161, 3) := by decide +kernel
theorem dX9_free_5 : decode cX9_free 5 = .ok (.iload_n 1, 1) := by decide +kernel
theorem dX9_free_6 : decode cX9_free 6 = .ok (.i2l, 1) := by decide +kernel
theorem dX9_free_7 : decode cX9_free 7 = .ok (.invokestatic 190, 3) := by decide +kernel
theorem dX9_free_10 : decode cX9_free 10 = .ok (.ifCond .ne 5, 3) := by decide +kernel
theorem dX9_free_13 : decode cX9_free 13 = .ok (.iconst (-1), 1) := by decide +kernel
theorem dX9_free_14 : decode cX9_free 14 = .ok (.ireturn, 1) := by decide +kernel
theorem dX9_free_15 : decode cX9_free 15 = .ok (.aload_n 0, 1) := by decide +kernel
theorem dX9_free_16 : decode cX9_free 16 = .ok (.getfield 13, 3) := by decide +kernel
theorem dX9_free_19 : decode cX9_free 19 = .ok (.bipush 7, 2) := by decide +kernel
theorem dX9_free_21 : decode cX9_free 21 = .ok (.iaload, 1) := by decide +kernel
theorem dX9_free_22 : decode cX9_free 22 = .ok (.istore_n 2, 1) := by decide +kernel
theorem dX9_free_23 : decode cX9_free 23 = .ok (.iconst 0, 1) := by decide +kernel
theorem dX9_free_24 : decode cX9_free 24 = .ok (.istore_n 3, 1) := by decide +kernel
theorem dX9_free_25 : decode cX9_free 25 = .ok (.iload_n 3, 1) := by decide +kernel
theorem dX9_free_26 : decode cX9_free 26 = .ok (.bipush 48, 2) := by decide +kernel
theorem dX9_free_28 : decode cX9_free 28 = .ok (.if_icmp .gt 27, 3) := by decide +kernel
theorem dX9_free_31 : decode cX9_free 31 = .ok (.aload_n 0, 1) := by decide +kernel
theorem dX9_free_32 : decode cX9_free 32 = .ok (.iload_n 1, 1) := by decide +kernel
theorem dX9_free_33 : decode cX9_free 33 = .ok (.invokevirtual 225, 3) := by decide +kernel
theorem dX9_free_36 : decode cX9_free 36 = .ok (.ifCond .le 19, 3) := by decide +kernel
theorem dX9_free_39 : decode cX9_free 39 = .ok (.iinc 3 1, 3) := by decide +kernel
theorem dX9_free_42 : decode cX9_free 42 = .ok (.aload_n 0, 1) := by decide +kernel
theorem dX9_free_43 : decode cX9_free 43 = .ok (.getfield 13, 3) := by decide +kernel
theorem dX9_free_46 : decode cX9_free 46 = .ok (.bipush 7, 2) := by decide +kernel
theorem dX9_free_48 : decode cX9_free 48 = .ok (.iload_n 2, 1) := by decide +kernel
theorem dX9_free_49 : decode cX9_free 49 = .ok (.iload_n 3, 1) := by decide +kernel
theorem dX9_free_50 : decode cX9_free 50 = .ok (.iadd, 1) := by decide +kernel
theorem dX9_free_51 : decode cX9_free 51 = .ok (.iastore, 1) := by decide +kernel
theorem dX9_free_52 : decode cX9_free 52 = .ok (.goto (-27), 3) := by decide +kernel
theorem dX9_free_55 : decode cX9_free 55 = .ok (.aload_n 0, 1) := by decide +kernel
theorem dX9_free_56 : decode cX9_free 56 = .ok (.getfield 13, 3) := by decide +kernel
theorem dX9_free_59 : decode cX9_free 59 = .ok (.bipush 7, 2) := by decide +kernel
theorem dX9_free_61 : decode cX9_free 61 = .ok (.iload_n 2, 1) := by decide +kernel
theorem dX9_free_62 : decode cX9_free 62 = .ok (.iastore, 1) := by decide +kernel
theorem dX9_free_63 : decode cX9_free 63 = .ok (.iload_n 3, 1) := by decide +kernel
theorem dX9_free_64 : decode cX9_free 64 = .ok (.bipush 48, 2) := by decide +kernel
theorem dX9_free_66 : decode cX9_free 66 = .ok (.if_icmp .le 7, 3) := by decide +kernel
theorem dX9_free_69 : decode cX9_free 69 = .ok (.iconst (-1), 1) := by decide +kernel
theorem dX9_free_70 : decode cX9_free 70 = .ok (.goto 4, 3) := by decide +kernel
theorem dX9_free_73 : decode cX9_free 73 = .ok (.iload_n 3, 1) := by decide +kernel
theorem dX9_free_74 : decode cX9_free 74 = .ok (.ireturn, 1) := by decide +kernel
theorem dX9_shares_0 : decode cX9_shares 0 = .ok (.aload_n 0, 1) := by decide +kernel
theorem dX9_shares_1 : decode cX9_shares 1 = .ok (.iconst 0, 1) := by decide +kernel
theorem dX9_shares_2 : decode cX9_shares 2 = .ok (.putfield 161, 3) := by decide +kernel
theorem dX9_shares_5 : decode cX9_shares 5 = .ok (.iload_n 1, 1) := by decide +kernel
theorem dX9_shares_6 : decode cX9_shares 6 = .ok (.i2l, 1) := by decide +kernel
theorem dX9_shares_7 : decode cX9_shares 7 = .ok (.lconst 0, 1) := by decide +kernel
theorem dX9_shares_8 : decode cX9_shares 8 = .ok (.lconst 1, 1) := by decide +kernel
theorem dX9_shares_9 : decode cX9_shares 9 = .ok (.invokestatic 181, 3) := by decide +kernel
theorem dX9_shares_12 : decode cX9_shares 12 = .ok (.ifCond .ne 5, 3) := by decide +kernel
theorem dX9_shares_15 : decode cX9_shares 15 = .ok (.iconst (-1), 1) := by decide +kernel
theorem dX9_shares_16 : decode cX9_shares 16 = .ok (.ireturn, 1) := by decide +kernel
theorem dX9_shares_17 : decode cX9_shares 17 = .ok (.iconst (-1), 1) := by decide +kernel
theorem dX9_shares_18 : decode cX9_shares 18 = .ok (.istore_n 2, 1) := by decide +kernel
theorem dX9_shares_19 : decode cX9_shares 19 = .ok (.iconst 0, 1) := by decide +kernel
theorem dX9_shares_20 : decode cX9_shares 20 = .ok (.istore_n 3, 1) := by decide +kernel
theorem dX9_shares_21 : decode cX9_shares 21 = .ok (.iconst 0, 1) := by decide +kernel
theorem dX9_shares_22 : decode cX9_shares 22 = .ok (.istore 4, 2) := by decide +kernel
theorem dX9_shares_24 : decode cX9_shares 24 = .ok (.iload 4, 2) := by decide +kernel
theorem dX9_shares_26 : decode cX9_shares 26 = .ok (.iconst 1, 1) := by decide +kernel
theorem dX9_shares_27 : decode cX9_shares 27 = .ok (.aload_n 0, 1) := by decide +kernel
theorem dX9_shares_28 : decode cX9_shares 28 = .ok (.getfield 13, 3) := by decide +kernel
theorem dX9_shares_31 : decode cX9_shares 31 = .ok (.iconst 3, 1) := by decide +kernel
theorem dX9_shares_32 : decode cX9_shares 32 = .ok (.iaload, 1) := by decide +kernel
theorem dX9_shares_33 : decode cX9_shares 33 = .ok (.ishl, 1) := by decide +kernel
theorem dX9_shares_34 : decode cX9_shares 34 = .ok (.if_icmp .ge 137, 3) := by decide +kernel
theorem dX9_shares_37 : decode cX9_shares 37 = .ok (.iconst 0, 1) := by decide +kernel
theorem dX9_shares_38 : decode cX9_shares 38 = .ok (.istore 5, 2) := by decide +kernel
theorem dX9_shares_40 : decode cX9_shares 40 = .ok (.iconst 0, 1) := by decide +kernel
theorem dX9_shares_41 : decode cX9_shares 41 = .ok (.istore 6, 2) := by decide +kernel
theorem dX9_shares_43 : decode cX9_shares 43 = .ok (.iconst 0, 1) := by decide +kernel
theorem dX9_shares_44 : decode cX9_shares 44 = .ok (.istore 7, 2) := by decide +kernel
theorem dX9_shares_46 : decode cX9_shares 46 = .ok (.iload 7, 2) := by decide +kernel
theorem dX9_shares_48 : decode cX9_shares 48 = .ok (.aload_n 0, 1) := by decide +kernel
theorem dX9_shares_49 : decode cX9_shares 49 = .ok (.getfield 13, 3) := by decide +kernel
theorem dX9_shares_52 : decode cX9_shares 52 = .ok (.iconst 3, 1) := by decide +kernel
theorem dX9_shares_53 : decode cX9_shares 53 = .ok (.iaload, 1) := by decide +kernel
theorem dX9_shares_54 : decode cX9_shares 54 = .ok (.if_icmp .ge 69, 3) := by decide +kernel
theorem dX9_shares_57 : decode cX9_shares 57 = .ok (.iload 5, 2) := by decide +kernel
theorem dX9_shares_59 : decode cX9_shares 59 = .ok (.iload 4, 2) := by decide +kernel
theorem dX9_shares_61 : decode cX9_shares 61 = .ok (.iload 7, 2) := by decide +kernel
theorem dX9_shares_63 : decode cX9_shares 63 = .ok (.invokestatic 438, 3) := by decide +kernel
theorem dX9_shares_66 : decode cX9_shares 66 = .ok (.ifCond .eq 17, 3) := by decide +kernel
theorem dX9_shares_69 : decode cX9_shares 69 = .ok (.aload_n 0, 1) := by decide +kernel
theorem dX9_shares_70 : decode cX9_shares 70 = .ok (.getfield 13, 3) := by decide +kernel
theorem dX9_shares_73 : decode cX9_shares 73 = .ok (.sipush 154, 3) := by decide +kernel
theorem dX9_shares_76 : decode cX9_shares 76 = .ok (.iload 7, 2) := by decide +kernel
theorem dX9_shares_78 : decode cX9_shares 78 = .ok (.iadd, 1) := by decide +kernel
theorem dX9_shares_79 : decode cX9_shares 79 = .ok (.iaload, 1) := by decide +kernel
theorem dX9_shares_80 : decode cX9_shares 80 = .ok (.goto 4, 3) := by decide +kernel
theorem dX9_shares_83 : decode cX9_shares 83 = .ok (.iconst 0, 1) := by decide +kernel
theorem dX9_shares_84 : decode cX9_shares 84 = .ok (.iadd, 1) := by decide +kernel
theorem dX9_shares_85 : decode cX9_shares 85 = .ok (.istore 5, 2) := by decide +kernel
theorem dX9_shares_87 : decode cX9_shares 87 = .ok (.iload 6, 2) := by decide +kernel
theorem dX9_shares_89 : decode cX9_shares 89 = .ok (.iload 4, 2) := by decide +kernel
theorem dX9_shares_91 : decode cX9_shares 91 = .ok (.iload 7, 2) := by decide +kernel
theorem dX9_shares_93 : decode cX9_shares 93 = .ok (.invokestatic 438, 3) := by decide +kernel
theorem dX9_shares_96 : decode cX9_shares 96 = .ok (.ifCond .eq 7, 3) := by decide +kernel
theorem dX9_shares_99 : decode cX9_shares 99 = .ok (.iconst 0, 1) := by decide +kernel
theorem dX9_shares_100 : decode cX9_shares 100 = .ok (.goto 14, 3) := by decide +kernel
theorem dX9_shares_103 : decode cX9_shares 103 = .ok (.aload_n 0, 1) := by decide +kernel
theorem dX9_shares_104 : decode cX9_shares 104 = .ok (.getfield 13, 3) := by decide +kernel
theorem dX9_shares_107 : decode cX9_shares 107 = .ok (.sipush 160, 3) := by decide +kernel
theorem dX9_shares_110 : decode cX9_shares 110 = .ok (.iload 7, 2) := by decide +kernel
theorem dX9_shares_112 : decode cX9_shares 112 = .ok (.iadd, 1) := by decide +kernel
theorem dX9_shares_113 : decode cX9_shares 113 = .ok (.iaload, 1) := by decide +kernel
theorem dX9_shares_114 : decode cX9_shares 114 = .ok (.iadd, 1) := by decide +kernel
theorem dX9_shares_115 : decode cX9_shares 115 = .ok (.istore 6, 2) := by decide +kernel
theorem dX9_shares_117 : decode cX9_shares 117 = .ok (.iinc 7 1, 3) := by decide +kernel
theorem dX9_shares_120 : decode cX9_shares 120 = .ok (.goto (-74), 3) := by decide +kernel
theorem dX9_shares_123 : decode cX9_shares 123 = .ok (.iload 5, 2) := by decide +kernel
theorem dX9_shares_125 : decode cX9_shares 125 = .ok (.iload 6, 2) := by decide +kernel
theorem dX9_shares_127 : decode cX9_shares 127 = .ok (.if_icmp .ge 8, 3) := by decide +kernel
theorem dX9_shares_130 : decode cX9_shares 130 = .ok (.iload 5, 2) := by decide +kernel
theorem dX9_shares_132 : decode cX9_shares 132 = .ok (.goto 5, 3) := by decide +kernel
theorem dX9_shares_135 : decode cX9_shares 135 = .ok (.iload 6, 2) := by decide +kernel
theorem dX9_shares_137 : decode cX9_shares 137 = .ok (.istore 7, 2) := by decide +kernel
theorem dX9_shares_139 : decode cX9_shares 139 = .ok (.iload 7, 2) := by decide +kernel
theorem dX9_shares_141 : decode cX9_shares 141 = .ok (.iload_n 2, 1) := by decide +kernel
theorem dX9_shares_142 : decode cX9_shares 142 = .ok (.if_icmp .le 8, 3) := by decide +kernel
theorem dX9_shares_145 : decode cX9_shares 145 = .ok (.iload 4, 2) := by decide +kernel
theorem dX9_shares_147 : decode cX9_shares 147 = .ok (.goto 4, 3) := by decide +kernel
theorem dX9_shares_150 : decode cX9_shares 150 = .ok (.iload_n 3, 1) := by decide +kernel
theorem dX9_shares_151 : decode cX9_shares 151 = .ok (.istore_n 3, 1) := by decide +kernel
theorem dX9_shares_152 : decode cX9_shares 152 = .ok (.iload 7, 2) := by decide +kernel
theorem dX9_shares_154 : decode cX9_shares 154 = .ok (.iload_n 2, 1) := by decide +kernel
theorem dX9_shares_155 : decode cX9_shares 155 = .ok (.if_icmp .le 8, 3) := by decide +kernel
theorem dX9_shares_158 : decode cX9_shares 158 = .ok (.iload 7, 2) := by decide +kernel
theorem dX9_shares_160 : decode cX9_shares 160 = .ok (.goto 4, 3) := by decide +kernel
theorem dX9_shares_163 : decode cX9_shares 163 = .ok (.iload_n 2, 1) := by decide +kernel
theorem dX9_shares_164 : decode cX9_shares 164 = .ok (.istore_n 2, 1) := by decide +kernel
theorem dX9_shares_165 : decode cX9_shares 165 = .ok (.iinc 4 1, 3) := by decide +kernel
theorem dX9_shares_168 : decode cX9_shares 168 = .ok (.goto (-144), 3) := by decide +kernel
theorem dX9_shares_171 : decode cX9_shares 171 = .ok (.iload_n 1, 1) := by decide +kernel
theorem dX9_shares_172 : decode cX9_shares 172 = .ok (.ifCond .ne 7, 3) := by decide +kernel
theorem dX9_shares_175 : decode cX9_shares 175 = .ok (.iload_n 2, 1) := by decide +kernel
theorem dX9_shares_176 : decode cX9_shares 176 = .ok (.goto 4, 3) := by decide +kernel
theorem dX9_shares_179 : decode cX9_shares 179 = .ok (.iload_n 3, 1) := by decide +kernel
theorem dX9_shares_180 : decode cX9_shares 180 = .ok (.ireturn, 1) := by decide +kernel
theorem dX9_low_0 : decode cX9_low 0 = .ok (.aload_n 0, 1) := by decide +kernel
theorem dX9_low_1 : decode cX9_low 1 = .ok (.iconst 0, 1) := by decide +kernel
theorem dX9_low_2 : decode cX9_low 2 = .ok (.putfield 161, 3) := by decide +kernel
theorem dX9_low_5 : decode cX9_low 5 = .ok (.iload_n 1, 1) := by decide +kernel
theorem dX9_low_6 : decode cX9_low 6 = .ok (.i2l, 1) := by decide +kernel
theorem dX9_low_7 : decode cX9_low 7 = .ok (.invokestatic 190, 3) := by decide +kernel
theorem dX9_low_10 : decode cX9_low 10 = .ok (.ifCond .ne 5, 3) := by decide +kernel
theorem dX9_low_13 : decode cX9_low 13 = .ok (.iconst (-1), 1) := by decide +kernel
theorem dX9_low_14 : decode cX9_low 14 = .ok (.ireturn, 1) := by decide +kernel
theorem dX9_low_15 : decode cX9_low 15 = .ok (.iconst 0, 1) := by decide +kernel
theorem dX9_low_16 : decode cX9_low 16 = .ok (.istore_n 2, 1) := by decide +kernel
theorem dX9_low_17 : decode cX9_low 17 = .ok (.iconst 0, 1) := by decide +kernel
theorem dX9_low_18 : decode cX9_low 18 = .ok (.istore_n 3, 1) := by decide +kernel
theorem dX9_low_19 : decode cX9_low 19 = .ok (.iload_n 3, 1) := by decide +kernel
theorem dX9_low_20 : decode cX9_low 20 = .ok (.aload_n 0, 1) := by decide +kernel
theorem dX9_low_21 : decode cX9_low 21 = .ok (.getfield 13, 3) := by decide +kernel
theorem dX9_low_24 : decode cX9_low 24 = .ok (.iconst 3, 1) := by decide +kernel
theorem dX9_low_25 : decode cX9_low 25 = .ok (.iaload, 1) := by decide +kernel
theorem dX9_low_26 : decode cX9_low 26 = .ok (.if_icmp .ge 53, 3) := by decide +kernel
theorem dX9_low_29 : decode cX9_low 29 = .ok (.aload_n 0, 1) := by decide +kernel
theorem dX9_low_30 : decode cX9_low 30 = .ok (.getfield 13, 3) := by decide +kernel
theorem dX9_low_33 : decode cX9_low 33 = .ok (.bipush 24, 2) := by decide +kernel
theorem dX9_low_35 : decode cX9_low 35 = .ok (.iload_n 3, 1) := by decide +kernel
theorem dX9_low_36 : decode cX9_low 36 = .ok (.iadd, 1) := by decide +kernel
theorem dX9_low_37 : decode cX9_low 37 = .ok (.iaload, 1) := by decide +kernel
theorem dX9_low_38 : decode cX9_low 38 = .ok (.istore 4, 2) := by decide +kernel
theorem dX9_low_40 : decode cX9_low 40 = .ok (.iload_n 2, 1) := by decide +kernel
theorem dX9_low_41 : decode cX9_low 41 = .ok (.aload_n 0, 1) := by decide +kernel
theorem dX9_low_42 : decode cX9_low 42 = .ok (.getfield 13, 3) := by decide +kernel
theorem dX9_low_45 : decode cX9_low 45 = .ok (.bipush 30, 2) := by decide +kernel
theorem dX9_low_47 : decode cX9_low 47 = .ok (.iload 4, 2) := by decide +kernel
theorem dX9_low_49 : decode cX9_low 49 = .ok (.iadd, 1) := by decide +kernel
theorem dX9_low_50 : decode cX9_low 50 = .ok (.iaload, 1) := by decide +kernel
theorem dX9_low_51 : decode cX9_low 51 = .ok (.iload_n 1, 1) := by decide +kernel
theorem dX9_low_52 : decode cX9_low 52 = .ok (.if_icmp .ne 18, 3) := by decide +kernel
theorem dX9_low_55 : decode cX9_low 55 = .ok (.aload_n 0, 1) := by decide +kernel
theorem dX9_low_56 : decode cX9_low 56 = .ok (.iload 4, 2) := by decide +kernel
theorem dX9_low_58 : decode cX9_low 58 = .ok (.invokevirtual 200, 3) := by decide +kernel
theorem dX9_low_61 : decode cX9_low 61 = .ok (.ifCond .ne 9, 3) := by decide +kernel
theorem dX9_low_64 : decode cX9_low 64 = .ok (.iconst 1, 1) := by decide +kernel
theorem dX9_low_65 : decode cX9_low 65 = .ok (.iload_n 3, 1) := by decide +kernel
theorem dX9_low_66 : decode cX9_low 66 = .ok (.ishl, 1) := by decide +kernel
theorem dX9_low_67 : decode cX9_low 67 = .ok (.goto 4, 3) := by decide +kernel
theorem dX9_low_70 : decode cX9_low 70 = .ok (.iconst 0, 1) := by decide +kernel
theorem dX9_low_71 : decode cX9_low 71 = .ok (.ior, 1) := by decide +kernel
theorem dX9_low_72 : decode cX9_low 72 = .ok (.istore_n 2, 1) := by decide +kernel
theorem dX9_low_73 : decode cX9_low 73 = .ok (.iinc 3 1, 3) := by decide +kernel
theorem dX9_low_76 : decode cX9_low 76 = .ok (.goto (-57), 3) := by decide +kernel
theorem dX9_low_79 : decode cX9_low 79 = .ok (.iload_n 2, 1) := by decide +kernel
theorem dX9_low_80 : decode cX9_low 80 = .ok (.ireturn, 1) := by decide +kernel
theorem dX9_seen_0 : decode cX9_seen 0 = .ok (.aload_n 0, 1) := by decide +kernel
theorem dX9_seen_1 : decode cX9_seen 1 = .ok (.iconst 0, 1) := by decide +kernel
theorem dX9_seen_2 : decode cX9_seen 2 = .ok (.putfield 161, 3) := by decide +kernel
theorem dX9_seen_5 : decode cX9_seen 5 = .ok (.iload_n 1, 1) := by decide +kernel
theorem dX9_seen_6 : decode cX9_seen 6 = .ok (.i2l, 1) := by decide +kernel
theorem dX9_seen_7 : decode cX9_seen 7 = .ok (.lconst 0, 1) := by decide +kernel
theorem dX9_seen_8 : decode cX9_seen 8 = .ok (.ldc2_w 487, 3) := by decide +kernel
theorem dX9_seen_11 : decode cX9_seen 11 = .ok (.invokestatic 181, 3) := by decide +kernel
theorem dX9_seen_14 : decode cX9_seen 14 = .ok (.ifCond .eq 11, 3) := by decide +kernel
theorem dX9_seen_17 : decode cX9_seen 17 = .ok (.iload_n 2, 1) := by decide +kernel
theorem dX9_seen_18 : decode cX9_seen 18 = .ok (.i2l, 1) := by decide +kernel
theorem dX9_seen_19 : decode cX9_seen 19 = .ok (.invokestatic 190, 3) := by decide +kernel
theorem dX9_seen_22 : decode cX9_seen 22 = .ok (.ifCond .ne 9, 3) := by decide +kernel
theorem dX9_seen_25 : decode cX9_seen 25 = .ok (.aload_n 0, 1) := by decide +kernel
theorem dX9_seen_26 : decode cX9_seen 26 = .ok (.iconst (-1), 1) := by decide +kernel
theorem dX9_seen_27 : decode cX9_seen 27 = .ok (.invokevirtual 170, 3) := by decide +kernel
theorem dX9_seen_30 : decode cX9_seen 30 = .ok (.ireturn, 1) := by decide +kernel
theorem dX9_seen_31 : decode cX9_seen 31 = .ok (.aload_n 0, 1) := by decide +kernel
theorem dX9_seen_32 : decode cX9_seen 32 = .ok (.getfield 13, 3) := by decide +kernel
theorem dX9_seen_35 : decode cX9_seen 35 = .ok (.iconst 4, 1) := by decide +kernel
theorem dX9_seen_36 : decode cX9_seen 36 = .ok (.iaload, 1) := by decide +kernel
theorem dX9_seen_37 : decode cX9_seen 37 = .ok (.istore_n 3, 1) := by decide +kernel
theorem dX9_seen_38 : decode cX9_seen 38 = .ok (.iload_n 3, 1) := by decide +kernel
theorem dX9_seen_39 : decode cX9_seen 39 = .ok (.bipush 6, 2) := by decide +kernel
theorem dX9_seen_41 : decode cX9_seen 41 = .ok (.if_icmp .ne 10, 3) := by decide +kernel
theorem dX9_seen_44 : decode cX9_seen 44 = .ok (.aload_n 0, 1) := by decide +kernel
theorem dX9_seen_45 : decode cX9_seen 45 = .ok (.bipush (-5), 2) := by decide +kernel
theorem dX9_seen_47 : decode cX9_seen 47 = .ok (.invokevirtual 170, 3) := by decide +kernel
theorem dX9_seen_50 : decode cX9_seen 50 = .ok (.ireturn, 1) := by decide +kernel
theorem dX9_seen_51 : decode cX9_seen 51 = .ok (.aload_n 0, 1) := by decide +kernel
theorem dX9_seen_52 : decode cX9_seen 52 = .ok (.getfield 13, 3) := by decide +kernel
theorem dX9_seen_55 : decode cX9_seen 55 = .ok (.sipush 166, 3) := by decide +kernel
theorem dX9_seen_58 : decode cX9_seen 58 = .ok (.iconst 2, 1) := by decide +kernel
theorem dX9_seen_59 : decode cX9_seen 59 = .ok (.iload_n 3, 1) := by decide +kernel
theorem dX9_seen_60 : decode cX9_seen 60 = .ok (.imul, 1) := by decide +kernel
theorem dX9_seen_61 : decode cX9_seen 61 = .ok (.iadd, 1) := by decide +kernel
theorem dX9_seen_62 : decode cX9_seen 62 = .ok (.iload_n 1, 1) := by decide +kernel
theorem dX9_seen_63 : decode cX9_seen 63 = .ok (.iastore, 1) := by decide +kernel
theorem dX9_seen_64 : decode cX9_seen 64 = .ok (.aload_n 0, 1) := by decide +kernel
theorem dX9_seen_65 : decode cX9_seen 65 = .ok (.getfield 13, 3) := by decide +kernel
theorem dX9_seen_68 : decode cX9_seen 68 = .ok (.sipush 166, 3) := by decide +kernel
theorem dX9_seen_71 : decode cX9_seen 71 = .ok (.iconst 2, 1) := by decide +kernel
theorem dX9_seen_72 : decode cX9_seen 72 = .ok (.iload_n 3, 1) := by decide +kernel
theorem dX9_seen_73 : decode cX9_seen 73 = .ok (.imul, 1) := by decide +kernel
theorem dX9_seen_74 : decode cX9_seen 74 = .ok (.iadd, 1) := by decide +kernel
theorem dX9_seen_75 : decode cX9_seen 75 = .ok (.iconst 1, 1) := by decide +kernel
theorem dX9_seen_76 : decode cX9_seen 76 = .ok (.iadd, 1) := by decide +kernel
theorem dX9_seen_77 : decode cX9_seen 77 = .ok (.iload_n 2, 1) := by decide +kernel
theorem dX9_seen_78 : decode cX9_seen 78 = .ok (.iastore, 1) := by decide +kernel
theorem dX9_seen_79 : decode cX9_seen 79 = .ok (.aload_n 0, 1) := by decide +kernel
theorem dX9_seen_80 : decode cX9_seen 80 = .ok (.getfield 13, 3) := by decide +kernel
theorem dX9_seen_83 : decode cX9_seen 83 = .ok (.iconst 4, 1) := by decide +kernel
theorem dX9_seen_84 : decode cX9_seen 84 = .ok (.dup2, 1) := by decide +kernel
theorem dX9_seen_85 : decode cX9_seen 85 = .ok (.iaload, 1) := by decide +kernel
theorem dX9_seen_86 : decode cX9_seen 86 = .ok (.iconst 1, 1) := by decide +kernel
theorem dX9_seen_87 : decode cX9_seen 87 = .ok (.iadd, 1) := by decide +kernel
theorem dX9_seen_88 : decode cX9_seen 88 = .ok (.iastore, 1) := by decide +kernel
theorem dX9_seen_89 : decode cX9_seen 89 = .ok (.aload_n 0, 1) := by decide +kernel
theorem dX9_seen_90 : decode cX9_seen 90 = .ok (.iload_n 3, 1) := by decide +kernel
theorem dX9_seen_91 : decode cX9_seen 91 = .ok (.iconst 1, 1) := by decide +kernel
theorem dX9_seen_92 : decode cX9_seen 92 = .ok (.iadd, 1) := by decide +kernel
theorem dX9_seen_93 : decode cX9_seen 93 = .ok (.invokevirtual 170, 3) := by decide +kernel
theorem dX9_seen_96 : decode cX9_seen 96 = .ok (.ireturn, 1) := by decide +kernel
theorem dX9_forget_0 : decode cX9_forget 0 = .ok (.aload_n 0, 1) := by decide +kernel
theorem dX9_forget_1 : decode cX9_forget 1 = .ok (.iconst 0, 1) := by decide +kernel
theorem dX9_forget_2 : decode cX9_forget 2 = .ok (.putfield 161, 3) := by decide +kernel
theorem dX9_forget_5 : decode cX9_forget 5 = .ok (.aload_n 0, 1) := by decide +kernel
theorem dX9_forget_6 : decode cX9_forget 6 = .ok (.getfield 13, 3) := by decide +kernel
theorem dX9_forget_9 : decode cX9_forget 9 = .ok (.iconst 4, 1) := by decide +kernel
theorem dX9_forget_10 : decode cX9_forget 10 = .ok (.iaload, 1) := by decide +kernel
theorem dX9_forget_11 : decode cX9_forget 11 = .ok (.istore_n 1, 1) := by decide +kernel
theorem dX9_forget_12 : decode cX9_forget 12 = .ok (.aload_n 0, 1) := by decide +kernel
theorem dX9_forget_13 : decode cX9_forget 13 = .ok (.getfield 13, 3) := by decide +kernel
theorem dX9_forget_16 : decode cX9_forget 16 = .ok (.iconst 4, 1) := by decide +kernel
theorem dX9_forget_17 : decode cX9_forget 17 = .ok (.iconst 0, 1) := by decide +kernel
theorem dX9_forget_18 : decode cX9_forget 18 = .ok (.iastore, 1) := by decide +kernel
theorem dX9_forget_19 : decode cX9_forget 19 = .ok (.iload_n 1, 1) := by decide +kernel
theorem dX9_forget_20 : decode cX9_forget 20 = .ok (.ireturn, 1) := by decide +kernel
theorem dX9_layLater_0 : decode cX9_layLater 0 = .ok (.aload_n 0, 1) := by decide +kernel
theorem dX9_layLater_1 : decode cX9_layLater 1 = .ok (.bipush 16, 2) := by decide +kernel
theorem dX9_layLater_3 : decode cX9_layLater 3 = .ok (.invokevirtual 174, 3) := by decide +kernel
theorem dX9_layLater_6 : decode cX9_layLater 6 = .ok (.iconst 0, 1) := by decide +kernel
theorem dX9_layLater_7 : decode cX9_layLater 7 = .ok (.istore_n 1, 1) := by decide +kernel
theorem dX9_layLater_8 : decode cX9_layLater 8 = .ok (.iload_n 1, 1) := by decide +kernel
theorem dX9_layLater_9 : decode cX9_layLater 9 = .ok (.bipush 60, 2) := by decide +kernel
theorem dX9_layLater_11 : decode cX9_layLater 11 = .ok (.if_icmp .gt 57, 3) := by decide +kernel
theorem dX9_layLater_14 : decode cX9_layLater 14 = .ok (.iconst 0, 1) := by decide +kernel
theorem dX9_layLater_15 : decode cX9_layLater 15 = .ok (.istore_n 2, 1) := by decide +kernel
theorem dX9_layLater_16 : decode cX9_layLater 16 = .ok (.iload_n 2, 1) := by decide +kernel
theorem dX9_layLater_17 : decode cX9_layLater 17 = .ok (.iconst 3, 1) := by decide +kernel
theorem dX9_layLater_18 : decode cX9_layLater 18 = .ok (.if_icmp .ge 40, 3) := by decide +kernel
theorem dX9_layLater_21 : decode cX9_layLater 21 = .ok (.aload_n 0, 1) := by decide +kernel
theorem dX9_layLater_22 : decode cX9_layLater 22 = .ok (.getfield 122, 3) := by decide +kernel
theorem dX9_layLater_25 : decode cX9_layLater 25 = .ok (.iconst 3, 1) := by decide +kernel
theorem dX9_layLater_26 : decode cX9_layLater 26 = .ok (.iload_n 1, 1) := by decide +kernel
theorem dX9_layLater_27 : decode cX9_layLater 27 = .ok (.imul, 1) := by decide +kernel
theorem dX9_layLater_28 : decode cX9_layLater 28 = .ok (.iload_n 2, 1) := by decide +kernel
theorem dX9_layLater_29 : decode cX9_layLater 29 = .ok (.iadd, 1) := by decide +kernel
theorem dX9_layLater_30 : decode cX9_layLater 30 = .ok (.aload_n 0, 1) := by decide +kernel
theorem dX9_layLater_31 : decode cX9_layLater 31 = .ok (.iload_n 2, 1) := by decide +kernel
theorem dX9_layLater_32 : decode cX9_layLater 32 = .ok (.invokevirtual 212, 3) := by decide +kernel
theorem dX9_layLater_35 : decode cX9_layLater 35 = .ok (.ifCond .eq 15, 3) := by decide +kernel
theorem dX9_layLater_38 : decode cX9_layLater 38 = .ok (.aload_n 0, 1) := by decide +kernel
theorem dX9_layLater_39 : decode cX9_layLater 39 = .ok (.getfield 13, 3) := by decide +kernel
theorem dX9_layLater_42 : decode cX9_layLater 42 = .ok (.bipush 21, 2) := by decide +kernel
theorem dX9_layLater_44 : decode cX9_layLater 44 = .ok (.iload_n 2, 1) := by decide +kernel
theorem dX9_layLater_45 : decode cX9_layLater 45 = .ok (.iadd, 1) := by decide +kernel
theorem dX9_layLater_46 : decode cX9_layLater 46 = .ok (.iaload, 1) := by decide +kernel
theorem dX9_layLater_47 : decode cX9_layLater 47 = .ok (.goto 4, 3) := by decide +kernel
theorem dX9_layLater_50 : decode cX9_layLater 50 = .ok (.iconst (-1), 1) := by decide +kernel
theorem dX9_layLater_51 : decode cX9_layLater 51 = .ok (.iastore, 1) := by decide +kernel
theorem dX9_layLater_52 : decode cX9_layLater 52 = .ok (.iinc 2 1, 3) := by decide +kernel
theorem dX9_layLater_55 : decode cX9_layLater 55 = .ok (.goto (-39), 3) := by decide +kernel
theorem dX9_layLater_58 : decode cX9_layLater 58 = .ok (.aload_n 0, 1) := by decide +kernel
theorem dX9_layLater_59 : decode cX9_layLater 59 = .ok (.invokevirtual 454, 3) := by decide +kernel
theorem dX9_layLater_62 : decode cX9_layLater 62 = .ok (.iinc 1 1, 3) := by decide +kernel
theorem dX9_layLater_65 : decode cX9_layLater 65 = .ok (.goto (-57), 3) := by decide +kernel
theorem dX9_layLater_68 : decode cX9_layLater 68 = .ok (.aload_n 0, 1) := by decide +kernel
theorem dX9_layLater_69 : decode cX9_layLater 69 = .ok (.bipush 16, 2) := by decide +kernel
theorem dX9_layLater_71 : decode cX9_layLater 71 = .ok (.invokevirtual 178, 3) := by decide +kernel
theorem dX9_layLater_74 : decode cX9_layLater 74 = .ok (.return_, 1) := by decide +kernel
theorem dX9_thatCanBe_0 : decode cX9_thatCanBe 0 = .ok (.iconst 0, 1) := by decide +kernel
theorem dX9_thatCanBe_1 : decode cX9_thatCanBe 1 = .ok (.istore_n 1, 1) := by decide +kernel
theorem dX9_thatCanBe_2 : decode cX9_thatCanBe 2 = .ok (.iconst 0, 1) := by decide +kernel
theorem dX9_thatCanBe_3 : decode cX9_thatCanBe 3 = .ok (.istore_n 2, 1) := by decide +kernel
theorem dX9_thatCanBe_4 : decode cX9_thatCanBe 4 = .ok (.iload_n 2, 1) := by decide +kernel
theorem dX9_thatCanBe_5 : decode cX9_thatCanBe 5 = .ok (.aload_n 0, 1) := by decide +kernel
theorem dX9_thatCanBe_6 : decode cX9_thatCanBe 6 = .ok (.getfield 13, 3) := by decide +kernel
theorem dX9_thatCanBe_9 : decode cX9_thatCanBe 9 = .ok (.iconst 2, 1) := by decide +kernel
theorem dX9_thatCanBe_10 : decode cX9_thatCanBe 10 = .ok (.iaload, 1) := by decide +kernel
theorem dX9_thatCanBe_11 : decode cX9_thatCanBe 11 = .ok (.if_icmp .ge 95, 3) := by decide +kernel
theorem dX9_thatCanBe_14 : decode cX9_thatCanBe 14 = .ok (.iconst 1, 1) := by decide +kernel
theorem dX9_thatCanBe_15 : decode cX9_thatCanBe 15 = .ok (.istore_n 3, 1) := by decide +kernel
theorem dX9_thatCanBe_16 : decode cX9_thatCanBe 16 = .ok (.iconst 0, 1) := by decide +kernel
theorem dX9_thatCanBe_17 : decode cX9_thatCanBe 17 = .ok (.istore 4, 2) := by decide +kernel
theorem dX9_thatCanBe_19 : decode cX9_thatCanBe 19 = .ok (.iload 4, 2) := by decide +kernel
theorem dX9_thatCanBe_21 : decode cX9_thatCanBe 21 = .ok (.aload_n 0, 1) := by decide +kernel
theorem dX9_thatCanBe_22 : decode cX9_thatCanBe 22 = .ok (.getfield 13, 3) := by decide +kernel
theorem dX9_thatCanBe_25 : decode cX9_thatCanBe 25 = .ok (.iconst 4, 1) := by decide +kernel
theorem dX9_thatCanBe_26 : decode cX9_thatCanBe 26 = .ok (.iaload, 1) := by decide +kernel
theorem dX9_thatCanBe_27 : decode cX9_thatCanBe 27 = .ok (.if_icmp .ge 59, 3) := by decide +kernel
theorem dX9_thatCanBe_30 : decode cX9_thatCanBe 30 = .ok (.iload_n 3, 1) := by decide +kernel
theorem dX9_thatCanBe_31 : decode cX9_thatCanBe 31 = .ok (.ifCond .eq 47, 3) := by decide +kernel
theorem dX9_thatCanBe_34 : decode cX9_thatCanBe 34 = .ok (.aload_n 0, 1) := by decide +kernel
theorem dX9_thatCanBe_35 : decode cX9_thatCanBe 35 = .ok (.getfield 122, 3) := by decide +kernel
theorem dX9_thatCanBe_38 : decode cX9_thatCanBe 38 = .ok (.iconst 3, 1) := by decide +kernel
theorem dX9_thatCanBe_39 : decode cX9_thatCanBe 39 = .ok (.aload_n 0, 1) := by decide +kernel
theorem dX9_thatCanBe_40 : decode cX9_thatCanBe 40 = .ok (.getfield 13, 3) := by decide +kernel
theorem dX9_thatCanBe_43 : decode cX9_thatCanBe 43 = .ok (.sipush 166, 3) := by decide +kernel
theorem dX9_thatCanBe_46 : decode cX9_thatCanBe 46 = .ok (.iconst 2, 1) := by decide +kernel
theorem dX9_thatCanBe_47 : decode cX9_thatCanBe 47 = .ok (.iload 4, 2) := by decide +kernel
theorem dX9_thatCanBe_49 : decode cX9_thatCanBe 49 = .ok (.imul, 1) := by decide +kernel
theorem dX9_thatCanBe_50 : decode cX9_thatCanBe 50 = .ok (.iadd, 1) := by decide +kernel
theorem dX9_thatCanBe_51 : decode cX9_thatCanBe 51 = .ok (.iaload, 1) := by decide +kernel
theorem dX9_thatCanBe_52 : decode cX9_thatCanBe 52 = .ok (.imul, 1) := by decide +kernel
theorem dX9_thatCanBe_53 : decode cX9_thatCanBe 53 = .ok (.iload_n 2, 1) := by decide +kernel
theorem dX9_thatCanBe_54 : decode cX9_thatCanBe 54 = .ok (.iadd, 1) := by decide +kernel
theorem dX9_thatCanBe_55 : decode cX9_thatCanBe 55 = .ok (.iaload, 1) := by decide +kernel
theorem dX9_thatCanBe_56 : decode cX9_thatCanBe 56 = .ok (.aload_n 0, 1) := by decide +kernel
theorem dX9_thatCanBe_57 : decode cX9_thatCanBe 57 = .ok (.getfield 13, 3) := by decide +kernel
theorem dX9_thatCanBe_60 : decode cX9_thatCanBe 60 = .ok (.sipush 166, 3) := by decide +kernel
theorem dX9_thatCanBe_63 : decode cX9_thatCanBe 63 = .ok (.iconst 2, 1) := by decide +kernel
theorem dX9_thatCanBe_64 : decode cX9_thatCanBe 64 = .ok (.iload 4, 2) := by decide +kernel
theorem dX9_thatCanBe_66 : decode cX9_thatCanBe 66 = .ok (.imul, 1) := by decide +kernel
theorem dX9_thatCanBe_67 : decode cX9_thatCanBe 67 = .ok (.iadd, 1) := by decide +kernel
theorem dX9_thatCanBe_68 : decode cX9_thatCanBe 68 = .ok (.iconst 1, 1) := by decide +kernel
theorem dX9_thatCanBe_69 : decode cX9_thatCanBe 69 = .ok (.iadd, 1) := by decide +kernel
theorem dX9_thatCanBe_70 : decode cX9_thatCanBe 70 = .ok (.iaload, 1) := by decide +kernel
theorem dX9_thatCanBe_71 : decode cX9_thatCanBe 71 = .ok (.if_icmp .ne 7, 3) := by decide +kernel
theorem dX9_thatCanBe_74 : decode cX9_thatCanBe 74 = .ok (.iconst 1, 1) := by decide +kernel
theorem dX9_thatCanBe_75 : decode cX9_thatCanBe 75 = .ok (.goto 4, 3) := by decide +kernel
theorem dX9_thatCanBe_78 : decode cX9_thatCanBe 78 = .ok (.iconst 0, 1) := by decide +kernel
theorem dX9_thatCanBe_79 : decode cX9_thatCanBe 79 = .ok (.istore_n 3, 1) := by decide +kernel
theorem dX9_thatCanBe_80 : decode cX9_thatCanBe 80 = .ok (.iinc 4 1, 3) := by decide +kernel
theorem dX9_thatCanBe_83 : decode cX9_thatCanBe 83 = .ok (.goto (-64), 3) := by decide +kernel
theorem dX9_thatCanBe_86 : decode cX9_thatCanBe 86 = .ok (.iload_n 1, 1) := by decide +kernel
theorem dX9_thatCanBe_87 : decode cX9_thatCanBe 87 = .ok (.iload_n 3, 1) := by decide +kernel
theorem dX9_thatCanBe_88 : decode cX9_thatCanBe 88 = .ok (.ifCond .eq 9, 3) := by decide +kernel
theorem dX9_thatCanBe_91 : decode cX9_thatCanBe 91 = .ok (.iconst 1, 1) := by decide +kernel
theorem dX9_thatCanBe_92 : decode cX9_thatCanBe 92 = .ok (.iload_n 2, 1) := by decide +kernel
theorem dX9_thatCanBe_93 : decode cX9_thatCanBe 93 = .ok (.ishl, 1) := by decide +kernel
theorem dX9_thatCanBe_94 : decode cX9_thatCanBe 94 = .ok (.goto 4, 3) := by decide +kernel
theorem dX9_thatCanBe_97 : decode cX9_thatCanBe 97 = .ok (.iconst 0, 1) := by decide +kernel
theorem dX9_thatCanBe_98 : decode cX9_thatCanBe 98 = .ok (.ior, 1) := by decide +kernel
theorem dX9_thatCanBe_99 : decode cX9_thatCanBe 99 = .ok (.istore_n 1, 1) := by decide +kernel
theorem dX9_thatCanBe_100 : decode cX9_thatCanBe 100 = .ok (.iinc 2 1, 3) := by decide +kernel
theorem dX9_thatCanBe_103 : decode cX9_thatCanBe 103 = .ok (.goto (-99), 3) := by decide +kernel
theorem dX9_thatCanBe_106 : decode cX9_thatCanBe 106 = .ok (.iload_n 1, 1) := by decide +kernel
theorem dX9_thatCanBe_107 : decode cX9_thatCanBe 107 = .ok (.ireturn, 1) := by decide +kernel
theorem dX9_canBe_0 : decode cX9_canBe 0 = .ok (.aload_n 0, 1) := by decide +kernel
theorem dX9_canBe_1 : decode cX9_canBe 1 = .ok (.iconst 0, 1) := by decide +kernel
theorem dX9_canBe_2 : decode cX9_canBe 2 = .ok (.putfield 161, 3) := by decide +kernel
theorem dX9_canBe_5 : decode cX9_canBe 5 = .ok (.aload_n 0, 1) := by decide +kernel
theorem dX9_canBe_6 : decode cX9_canBe 6 = .ok (.invokevirtual 489, 3) := by decide +kernel
theorem dX9_canBe_9 : decode cX9_canBe 9 = .ok (.aload_n 0, 1) := by decide +kernel
theorem dX9_canBe_10 : decode cX9_canBe 10 = .ok (.invokevirtual 492, 3) := by decide +kernel
theorem dX9_canBe_13 : decode cX9_canBe 13 = .ok (.ireturn, 1) := by decide +kernel
theorem dX9_mostAlike_0 : decode cX9_mostAlike 0 = .ok (.iconst 0, 1) := by decide +kernel
theorem dX9_mostAlike_1 : decode cX9_mostAlike 1 = .ok (.istore_n 3, 1) := by decide +kernel
theorem dX9_mostAlike_2 : decode cX9_mostAlike 2 = .ok (.iconst 0, 1) := by decide +kernel
theorem dX9_mostAlike_3 : decode cX9_mostAlike 3 = .ok (.istore 4, 2) := by decide +kernel
theorem dX9_mostAlike_5 : decode cX9_mostAlike 5 = .ok (.iload 4, 2) := by decide +kernel
theorem dX9_mostAlike_7 : decode cX9_mostAlike 7 = .ok (.bipush 6, 2) := by decide +kernel
theorem dX9_mostAlike_9 : decode cX9_mostAlike 9 = .ok (.if_icmp .ge 80, 3) := by decide +kernel
theorem dX9_mostAlike_12 : decode cX9_mostAlike 12 = .ok (.iconst 0, 1) := by decide +kernel
theorem dX9_mostAlike_13 : decode cX9_mostAlike 13 = .ok (.istore 5, 2) := by decide +kernel
theorem dX9_mostAlike_15 : decode cX9_mostAlike 15 = .ok (.iconst 0, 1) := by decide +kernel
theorem dX9_mostAlike_16 : decode cX9_mostAlike 16 = .ok (.istore 6, 2) := by decide +kernel
theorem dX9_mostAlike_18 : decode cX9_mostAlike 18 = .ok (.iload 6, 2) := by decide +kernel
theorem dX9_mostAlike_20 : decode cX9_mostAlike 20 = .ok (.aload_n 0, 1) := by decide +kernel
theorem dX9_mostAlike_21 : decode cX9_mostAlike 21 = .ok (.getfield 13, 3) := by decide +kernel
theorem dX9_mostAlike_24 : decode cX9_mostAlike 24 = .ok (.iconst 2, 1) := by decide +kernel
theorem dX9_mostAlike_25 : decode cX9_mostAlike 25 = .ok (.iaload, 1) := by decide +kernel
theorem dX9_mostAlike_26 : decode cX9_mostAlike 26 = .ok (.if_icmp .ge 44, 3) := by decide +kernel
theorem dX9_mostAlike_29 : decode cX9_mostAlike 29 = .ok (.iload 5, 2) := by decide +kernel
theorem dX9_mostAlike_31 : decode cX9_mostAlike 31 = .ok (.iload_n 1, 1) := by decide +kernel
theorem dX9_mostAlike_32 : decode cX9_mostAlike 32 = .ok (.iload 6, 2) := by decide +kernel
theorem dX9_mostAlike_34 : decode cX9_mostAlike 34 = .ok (.invokestatic 438, 3) := by decide +kernel
theorem dX9_mostAlike_37 : decode cX9_mostAlike 37 = .ok (.ifCond .eq 23, 3) := by decide +kernel
theorem dX9_mostAlike_40 : decode cX9_mostAlike 40 = .ok (.aload_n 0, 1) := by decide +kernel
theorem dX9_mostAlike_41 : decode cX9_mostAlike 41 = .ok (.getfield 122, 3) := by decide +kernel
theorem dX9_mostAlike_44 : decode cX9_mostAlike 44 = .ok (.iconst 3, 1) := by decide +kernel
theorem dX9_mostAlike_45 : decode cX9_mostAlike 45 = .ok (.iload_n 2, 1) := by decide +kernel
theorem dX9_mostAlike_46 : decode cX9_mostAlike 46 = .ok (.imul, 1) := by decide +kernel
theorem dX9_mostAlike_47 : decode cX9_mostAlike 47 = .ok (.iload 6, 2) := by decide +kernel
theorem dX9_mostAlike_49 : decode cX9_mostAlike 49 = .ok (.iadd, 1) := by decide +kernel
theorem dX9_mostAlike_50 : decode cX9_mostAlike 50 = .ok (.iaload, 1) := by decide +kernel
theorem dX9_mostAlike_51 : decode cX9_mostAlike 51 = .ok (.iload 4, 2) := by decide +kernel
theorem dX9_mostAlike_53 : decode cX9_mostAlike 53 = .ok (.if_icmp .ne 7, 3) := by decide +kernel
theorem dX9_mostAlike_56 : decode cX9_mostAlike 56 = .ok (.iconst 1, 1) := by decide +kernel
theorem dX9_mostAlike_57 : decode cX9_mostAlike 57 = .ok (.goto 4, 3) := by decide +kernel
theorem dX9_mostAlike_60 : decode cX9_mostAlike 60 = .ok (.iconst 0, 1) := by decide +kernel
theorem dX9_mostAlike_61 : decode cX9_mostAlike 61 = .ok (.iadd, 1) := by decide +kernel
theorem dX9_mostAlike_62 : decode cX9_mostAlike 62 = .ok (.istore 5, 2) := by decide +kernel
theorem dX9_mostAlike_64 : decode cX9_mostAlike 64 = .ok (.iinc 6 1, 3) := by decide +kernel
theorem dX9_mostAlike_67 : decode cX9_mostAlike 67 = .ok (.goto (-49), 3) := by decide +kernel
theorem dX9_mostAlike_70 : decode cX9_mostAlike 70 = .ok (.iload 5, 2) := by decide +kernel
theorem dX9_mostAlike_72 : decode cX9_mostAlike 72 = .ok (.iload_n 3, 1) := by decide +kernel
theorem dX9_mostAlike_73 : decode cX9_mostAlike 73 = .ok (.if_icmp .le 8, 3) := by decide +kernel
theorem dX9_mostAlike_76 : decode cX9_mostAlike 76 = .ok (.iload 5, 2) := by decide +kernel
theorem dX9_mostAlike_78 : decode cX9_mostAlike 78 = .ok (.goto 4, 3) := by decide +kernel
theorem dX9_mostAlike_81 : decode cX9_mostAlike 81 = .ok (.iload_n 3, 1) := by decide +kernel
theorem dX9_mostAlike_82 : decode cX9_mostAlike 82 = .ok (.istore_n 3, 1) := by decide +kernel
theorem dX9_mostAlike_83 : decode cX9_mostAlike 83 = .ok (.iinc 4 1, 3) := by decide +kernel
theorem dX9_mostAlike_86 : decode cX9_mostAlike 86 = .ok (.goto (-81), 3) := by decide +kernel
theorem dX9_mostAlike_89 : decode cX9_mostAlike 89 = .ok (.iload_n 3, 1) := by decide +kernel
theorem dX9_mostAlike_90 : decode cX9_mostAlike 90 = .ok (.ireturn, 1) := by decide +kernel
theorem dX9_look_0 : decode cX9_look 0 = .ok (.aload_n 0, 1) := by decide +kernel
theorem dX9_look_1 : decode cX9_look 1 = .ok (.iconst 0, 1) := by decide +kernel
theorem dX9_look_2 : decode cX9_look 2 = .ok (.putfield 161, 3) := by decide +kernel
theorem dX9_look_5 : decode cX9_look 5 = .ok (.aload_n 0, 1) := by decide +kernel
theorem dX9_look_6 : decode cX9_look 6 = .ok (.invokevirtual 489, 3) := by decide +kernel
theorem dX9_look_9 : decode cX9_look 9 = .ok (.aload_n 0, 1) := by decide +kernel
theorem dX9_look_10 : decode cX9_look 10 = .ok (.invokevirtual 492, 3) := by decide +kernel
theorem dX9_look_13 : decode cX9_look 13 = .ok (.istore_n 2, 1) := by decide +kernel
theorem dX9_look_14 : decode cX9_look 14 = .ok (.iload_n 1, 1) := by decide +kernel
theorem dX9_look_15 : decode cX9_look 15 = .ok (.i2l, 1) := by decide +kernel
theorem dX9_look_16 : decode cX9_look 16 = .ok (.lconst 0, 1) := by decide +kernel
theorem dX9_look_17 : decode cX9_look 17 = .ok (.lconst 1, 1) := by decide +kernel
theorem dX9_look_18 : decode cX9_look 18 = .ok (.invokestatic 181, 3) := by decide +kernel
theorem dX9_look_21 : decode cX9_look 21 = .ok (.ifCond .eq 7, 3) := by decide +kernel
theorem dX9_look_24 : decode cX9_look 24 = .ok (.iload_n 2, 1) := by decide +kernel
theorem dX9_look_25 : decode cX9_look 25 = .ok (.ifCond .ne 5, 3) := by decide +kernel
theorem dX9_look_28 : decode cX9_look 28 = .ok (.iconst (-1), 1) := by decide +kernel
theorem dX9_look_29 : decode cX9_look 29 = .ok (.ireturn, 1) := by decide +kernel
theorem dX9_look_30 : decode cX9_look 30 = .ok (.ldc_w 480, 3) := by decide +kernel
theorem dX9_look_33 : decode cX9_look 33 = .ok (.istore_n 3, 1) := by decide +kernel
theorem dX9_look_34 : decode cX9_look 34 = .ok (.iconst (-1), 1) := by decide +kernel
theorem dX9_look_35 : decode cX9_look 35 = .ok (.istore 4, 2) := by decide +kernel
theorem dX9_look_37 : decode cX9_look 37 = .ok (.iconst 0, 1) := by decide +kernel
theorem dX9_look_38 : decode cX9_look 38 = .ok (.istore 5, 2) := by decide +kernel
theorem dX9_look_40 : decode cX9_look 40 = .ok (.iload 5, 2) := by decide +kernel
theorem dX9_look_42 : decode cX9_look 42 = .ok (.bipush 60, 2) := by decide +kernel
theorem dX9_look_44 : decode cX9_look 44 = .ok (.if_icmp .gt 46, 3) := by decide +kernel
theorem dX9_look_47 : decode cX9_look 47 = .ok (.aload_n 0, 1) := by decide +kernel
theorem dX9_look_48 : decode cX9_look 48 = .ok (.iload_n 2, 1) := by decide +kernel
theorem dX9_look_49 : decode cX9_look 49 = .ok (.iload 5, 2) := by decide +kernel
theorem dX9_look_51 : decode cX9_look 51 = .ok (.invokevirtual 495, 3) := by decide +kernel
theorem dX9_look_54 : decode cX9_look 54 = .ok (.istore 6, 2) := by decide +kernel
theorem dX9_look_56 : decode cX9_look 56 = .ok (.iload 6, 2) := by decide +kernel
theorem dX9_look_58 : decode cX9_look 58 = .ok (.iload_n 3, 1) := by decide +kernel
theorem dX9_look_59 : decode cX9_look 59 = .ok (.if_icmp .ge 8, 3) := by decide +kernel
theorem dX9_look_62 : decode cX9_look 62 = .ok (.iload 5, 2) := by decide +kernel
theorem dX9_look_64 : decode cX9_look 64 = .ok (.goto 5, 3) := by decide +kernel
theorem dX9_look_67 : decode cX9_look 67 = .ok (.iload 4, 2) := by decide +kernel
theorem dX9_look_69 : decode cX9_look 69 = .ok (.istore 4, 2) := by decide +kernel
theorem dX9_look_71 : decode cX9_look 71 = .ok (.iload 6, 2) := by decide +kernel
theorem dX9_look_73 : decode cX9_look 73 = .ok (.iload_n 3, 1) := by decide +kernel
theorem dX9_look_74 : decode cX9_look 74 = .ok (.if_icmp .ge 8, 3) := by decide +kernel
theorem dX9_look_77 : decode cX9_look 77 = .ok (.iload 6, 2) := by decide +kernel
theorem dX9_look_79 : decode cX9_look 79 = .ok (.goto 4, 3) := by decide +kernel
theorem dX9_look_82 : decode cX9_look 82 = .ok (.iload_n 3, 1) := by decide +kernel
theorem dX9_look_83 : decode cX9_look 83 = .ok (.istore_n 3, 1) := by decide +kernel
theorem dX9_look_84 : decode cX9_look 84 = .ok (.iinc 5 1, 3) := by decide +kernel
theorem dX9_look_87 : decode cX9_look 87 = .ok (.goto (-47), 3) := by decide +kernel
theorem dX9_look_90 : decode cX9_look 90 = .ok (.iload_n 1, 1) := by decide +kernel
theorem dX9_look_91 : decode cX9_look 91 = .ok (.ifCond .ne 8, 3) := by decide +kernel
theorem dX9_look_94 : decode cX9_look 94 = .ok (.iload 4, 2) := by decide +kernel
theorem dX9_look_96 : decode cX9_look 96 = .ok (.goto 4, 3) := by decide +kernel
theorem dX9_look_99 : decode cX9_look 99 = .ok (.iload_n 3, 1) := by decide +kernel
theorem dX9_look_100 : decode cX9_look 100 = .ok (.ireturn, 1) := by decide +kernel
theorem dX9_few_0 : decode cX9_few 0 = .ok (.aload_n 0, 1) := by decide +kernel
theorem dX9_few_1 : decode cX9_few 1 = .ok (.iconst 0, 1) := by decide +kernel
theorem dX9_few_2 : decode cX9_few 2 = .ok (.putfield 161, 3) := by decide +kernel
theorem dX9_few_5 : decode cX9_few 5 = .ok (.iload_n 1, 1) := by decide +kernel
theorem dX9_few_6 : decode cX9_few 6 = .ok (.i2l, 1) := by decide +kernel
theorem dX9_few_7 : decode cX9_few 7 = .ok (.lconst 1, 1) := by decide +kernel
theorem dX9_few_8 : decode cX9_few 8 = .ok (.ldc2_w 304, 3) := by decide +kernel
theorem dX9_few_11 : decode cX9_few 11 = .ok (.invokestatic 181, 3) := by decide +kernel
theorem dX9_few_14 : decode cX9_few 14 = .ok (.ifCond .eq 15, 3) := by decide +kernel
theorem dX9_few_17 : decode cX9_few 17 = .ok (.iload_n 2, 1) := by decide +kernel
theorem dX9_few_18 : decode cX9_few 18 = .ok (.i2l, 1) := by decide +kernel
theorem dX9_few_19 : decode cX9_few 19 = .ok (.lconst 0, 1) := by decide +kernel
theorem dX9_few_20 : decode cX9_few 20 = .ok (.ldc2_w 498, 3) := by decide +kernel
theorem dX9_few_23 : decode cX9_few 23 = .ok (.invokestatic 181, 3) := by decide +kernel
theorem dX9_few_26 : decode cX9_few 26 = .ok (.ifCond .ne 7, 3) := by decide +kernel
theorem dX9_few_29 : decode cX9_few 29 = .ok (.ldc2_w 281, 3) := by decide +kernel
theorem dX9_few_32 : decode cX9_few 32 = .ok (.lreturn, 1) := by decide +kernel
theorem dX9_few_33 : decode cX9_few 33 = .ok (.iconst 0, 1) := by decide +kernel
theorem dX9_few_34 : decode cX9_few 34 = .ok (.istore_n 3, 1) := by decide +kernel
theorem dX9_few_35 : decode cX9_few 35 = .ok (.iload_n 3, 1) := by decide +kernel
theorem dX9_few_36 : decode cX9_few 36 = .ok (.bipush 21, 2) := by decide +kernel
theorem dX9_few_38 : decode cX9_few 38 = .ok (.if_icmp .ge 26, 3) := by decide +kernel
theorem dX9_few_41 : decode cX9_few 41 = .ok (.aload_n 0, 1) := by decide +kernel
theorem dX9_few_42 : decode cX9_few 42 = .ok (.getfield 125, 3) := by decide +kernel
theorem dX9_few_45 : decode cX9_few 45 = .ok (.iload_n 3, 1) := by decide +kernel
theorem dX9_few_46 : decode cX9_few 46 = .ok (.iload_n 3, 1) := by decide +kernel
theorem dX9_few_47 : decode cX9_few 47 = .ok (.ifCond .ne 9, 3) := by decide +kernel
theorem dX9_few_50 : decode cX9_few 50 = .ok (.ldc2_w 500, 3) := by decide +kernel
theorem dX9_few_53 : decode cX9_few 53 = .ok (.goto 4, 3) := by decide +kernel
theorem dX9_few_56 : decode cX9_few 56 = .ok (.lconst 0, 1) := by decide +kernel
theorem dX9_few_57 : decode cX9_few 57 = .ok (.lastore, 1) := by decide +kernel
theorem dX9_few_58 : decode cX9_few 58 = .ok (.iinc 3 1, 3) := by decide +kernel
theorem dX9_few_61 : decode cX9_few 61 = .ok (.goto (-26), 3) := by decide +kernel
theorem dX9_few_64 : decode cX9_few 64 = .ok (.aload_n 0, 1) := by decide +kernel
theorem dX9_few_65 : decode cX9_few 65 = .ok (.getfield 13, 3) := by decide +kernel
theorem dX9_few_68 : decode cX9_few 68 = .ok (.bipush 8, 2) := by decide +kernel
theorem dX9_few_70 : decode cX9_few 70 = .ok (.iaload, 1) := by decide +kernel
theorem dX9_few_71 : decode cX9_few 71 = .ok (.istore_n 3, 1) := by decide +kernel
theorem dX9_few_72 : decode cX9_few 72 = .ok (.iconst 0, 1) := by decide +kernel
theorem dX9_few_73 : decode cX9_few 73 = .ok (.istore 4, 2) := by decide +kernel
theorem dX9_few_75 : decode cX9_few 75 = .ok (.iload 4, 2) := by decide +kernel
theorem dX9_few_77 : decode cX9_few 77 = .ok (.iload_n 2, 1) := by decide +kernel
theorem dX9_few_78 : decode cX9_few 78 = .ok (.if_icmp .ge 74, 3) := by decide +kernel
theorem dX9_few_81 : decode cX9_few 81 = .ok (.iload_n 1, 1) := by decide +kernel
theorem dX9_few_82 : decode cX9_few 82 = .ok (.iconst 1, 1) := by decide +kernel
theorem dX9_few_83 : decode cX9_few 83 = .ok (.isub, 1) := by decide +kernel
theorem dX9_few_84 : decode cX9_few 84 = .ok (.istore 5, 2) := by decide +kernel
theorem dX9_few_86 : decode cX9_few 86 = .ok (.iload 5, 2) := by decide +kernel
theorem dX9_few_88 : decode cX9_few 88 = .ok (.ifCond .lt 58, 3) := by decide +kernel
theorem dX9_few_91 : decode cX9_few 91 = .ok (.aload_n 0, 1) := by decide +kernel
theorem dX9_few_92 : decode cX9_few 92 = .ok (.getfield 125, 3) := by decide +kernel
theorem dX9_few_95 : decode cX9_few 95 = .ok (.iload 5, 2) := by decide +kernel
theorem dX9_few_97 : decode cX9_few 97 = .ok (.laload, 1) := by decide +kernel
theorem dX9_few_98 : decode cX9_few 98 = .ok (.lstore 6, 2) := by decide +kernel
theorem dX9_few_100 : decode cX9_few 100 = .ok (.aload_n 0, 1) := by decide +kernel
theorem dX9_few_101 : decode cX9_few 101 = .ok (.getfield 125, 3) := by decide +kernel
theorem dX9_few_104 : decode cX9_few 104 = .ok (.iload 5, 2) := by decide +kernel
theorem dX9_few_106 : decode cX9_few 106 = .ok (.lload 6, 2) := by decide +kernel
theorem dX9_few_108 : decode cX9_few 108 = .ok (.bipush 10, 2) := by decide +kernel
theorem dX9_few_110 : decode cX9_few 110 = .ok (.iload_n 3, 1) := by decide +kernel
theorem dX9_few_111 : decode cX9_few 111 = .ok (.isub, 1) := by decide +kernel
theorem dX9_few_112 : decode cX9_few 112 = .ok (.i2l, 1) := by decide +kernel
theorem dX9_few_113 : decode cX9_few 113 = .ok (.lmul, 1) := by decide +kernel
theorem dX9_few_114 : decode cX9_few 114 = .ok (.ldc2_w 237, 3) := by decide +kernel
theorem dX9_few_117 : decode cX9_few 117 = .ok (.ldiv, 1) := by decide +kernel
theorem dX9_few_118 : decode cX9_few 118 = .ok (.lastore, 1) := by decide +kernel
theorem dX9_few_119 : decode cX9_few 119 = .ok (.aload_n 0, 1) := by decide +kernel
theorem dX9_few_120 : decode cX9_few 120 = .ok (.getfield 125, 3) := by decide +kernel
theorem dX9_few_123 : decode cX9_few 123 = .ok (.iload 5, 2) := by decide +kernel
theorem dX9_few_125 : decode cX9_few 125 = .ok (.iconst 1, 1) := by decide +kernel
theorem dX9_few_126 : decode cX9_few 126 = .ok (.iadd, 1) := by decide +kernel
theorem dX9_few_127 : decode cX9_few 127 = .ok (.dup2, 1) := by decide +kernel
theorem dX9_few_128 : decode cX9_few 128 = .ok (.laload, 1) := by decide +kernel
theorem dX9_few_129 : decode cX9_few 129 = .ok (.lload 6, 2) := by decide +kernel
theorem dX9_few_131 : decode cX9_few 131 = .ok (.iload_n 3, 1) := by decide +kernel
theorem dX9_few_132 : decode cX9_few 132 = .ok (.i2l, 1) := by decide +kernel
theorem dX9_few_133 : decode cX9_few 133 = .ok (.lmul, 1) := by decide +kernel
theorem dX9_few_134 : decode cX9_few 134 = .ok (.ldc2_w 237, 3) := by decide +kernel
theorem dX9_few_137 : decode cX9_few 137 = .ok (.ldiv, 1) := by decide +kernel
theorem dX9_few_138 : decode cX9_few 138 = .ok (.ladd, 1) := by decide +kernel
theorem dX9_few_139 : decode cX9_few 139 = .ok (.lastore, 1) := by decide +kernel
theorem dX9_few_140 : decode cX9_few 140 = .ok (.iinc 5 (-1), 3) := by decide +kernel
theorem dX9_few_143 : decode cX9_few 143 = .ok (.goto (-57), 3) := by decide +kernel
theorem dX9_few_146 : decode cX9_few 146 = .ok (.iinc 4 1, 3) := by decide +kernel
theorem dX9_few_149 : decode cX9_few 149 = .ok (.goto (-74), 3) := by decide +kernel
theorem dX9_few_152 : decode cX9_few 152 = .ok (.lconst 0, 1) := by decide +kernel
theorem dX9_few_153 : decode cX9_few 153 = .ok (.lstore 4, 2) := by decide +kernel
theorem dX9_few_155 : decode cX9_few 155 = .ok (.iconst 0, 1) := by decide +kernel
theorem dX9_few_156 : decode cX9_few 156 = .ok (.istore 6, 2) := by decide +kernel
theorem dX9_few_158 : decode cX9_few 158 = .ok (.iload 6, 2) := by decide +kernel
theorem dX9_few_160 : decode cX9_few 160 = .ok (.iload_n 1, 1) := by decide +kernel
theorem dX9_few_161 : decode cX9_few 161 = .ok (.if_icmp .ge 21, 3) := by decide +kernel
theorem dX9_few_164 : decode cX9_few 164 = .ok (.lload 4, 2) := by decide +kernel
theorem dX9_few_166 : decode cX9_few 166 = .ok (.aload_n 0, 1) := by decide +kernel
theorem dX9_few_167 : decode cX9_few 167 = .ok (.getfield 125, 3) := by decide +kernel
theorem dX9_few_170 : decode cX9_few 170 = .ok (.iload 6, 2) := by decide +kernel
theorem dX9_few_172 : decode cX9_few 172 = .ok (.laload, 1) := by decide +kernel
theorem dX9_few_173 : decode cX9_few 173 = .ok (.ladd, 1) := by decide +kernel
theorem dX9_few_174 : decode cX9_few 174 = .ok (.lstore 4, 2) := by decide +kernel
theorem dX9_few_176 : decode cX9_few 176 = .ok (.iinc 6 1, 3) := by decide +kernel
theorem dX9_few_179 : decode cX9_few 179 = .ok (.goto (-21), 3) := by decide +kernel
theorem dX9_few_182 : decode cX9_few 182 = .ok (.lload 4, 2) := by decide +kernel
theorem dX9_few_184 : decode cX9_few 184 = .ok (.lreturn, 1) := by decide +kernel
theorem dX9_compare_0 : decode cX9_compare 0 = .ok (.aload_n 0, 1) := by decide +kernel
theorem dX9_compare_1 : decode cX9_compare 1 = .ok (.iconst 0, 1) := by decide +kernel
theorem dX9_compare_2 : decode cX9_compare 2 = .ok (.putfield 161, 3) := by decide +kernel
theorem dX9_compare_5 : decode cX9_compare 5 = .ok (.aload_n 0, 1) := by decide +kernel
theorem dX9_compare_6 : decode cX9_compare 6 = .ok (.iload_n 1, 1) := by decide +kernel
theorem dX9_compare_7 : decode cX9_compare 7 = .ok (.invokevirtual 401, 3) := by decide +kernel
theorem dX9_compare_10 : decode cX9_compare 10 = .ok (.ifCond .eq 11, 3) := by decide +kernel
theorem dX9_compare_13 : decode cX9_compare 13 = .ok (.iload_n 2, 1) := by decide +kernel
theorem dX9_compare_14 : decode cX9_compare 14 = .ok (.i2l, 1) := by decide +kernel
theorem dX9_compare_15 : decode cX9_compare 15 = .ok (.invokestatic 190, 3) := by decide +kernel
theorem dX9_compare_18 : decode cX9_compare 18 = .ok (.ifCond .ne 5, 3) := by decide +kernel
theorem dX9_compare_21 : decode cX9_compare 21 = .ok (.iconst (-1), 1) := by decide +kernel
theorem dX9_compare_22 : decode cX9_compare 22 = .ok (.ireturn, 1) := by decide +kernel
theorem dX9_compare_23 : decode cX9_compare 23 = .ok (.aload_n 0, 1) := by decide +kernel
theorem dX9_compare_24 : decode cX9_compare 24 = .ok (.getfield 13, 3) := by decide +kernel
theorem dX9_compare_27 : decode cX9_compare 27 = .ok (.bipush 6, 2) := by decide +kernel
theorem dX9_compare_29 : decode cX9_compare 29 = .ok (.iaload, 1) := by decide +kernel
theorem dX9_compare_30 : decode cX9_compare 30 = .ok (.istore_n 3, 1) := by decide +kernel
theorem dX9_compare_31 : decode cX9_compare 31 = .ok (.aload_n 0, 1) := by decide +kernel
theorem dX9_compare_32 : decode cX9_compare 32 = .ok (.getfield 13, 3) := by decide +kernel
theorem dX9_compare_35 : decode cX9_compare 35 = .ok (.bipush 6, 2) := by decide +kernel
theorem dX9_compare_37 : decode cX9_compare 37 = .ok (.iload_n 1, 1) := by decide +kernel
theorem dX9_compare_38 : decode cX9_compare 38 = .ok (.iastore, 1) := by decide +kernel
theorem dX9_compare_39 : decode cX9_compare 39 = .ok (.aload_n 0, 1) := by decide +kernel
theorem dX9_compare_40 : decode cX9_compare 40 = .ok (.iload_n 2, 1) := by decide +kernel
theorem dX9_compare_41 : decode cX9_compare 41 = .ok (.invokevirtual 225, 3) := by decide +kernel
theorem dX9_compare_44 : decode cX9_compare 44 = .ok (.istore 4, 2) := by decide +kernel
theorem dX9_compare_46 : decode cX9_compare 46 = .ok (.aload_n 0, 1) := by decide +kernel
theorem dX9_compare_47 : decode cX9_compare 47 = .ok (.getfield 13, 3) := by decide +kernel
theorem dX9_compare_50 : decode cX9_compare 50 = .ok (.bipush 6, 2) := by decide +kernel
theorem dX9_compare_52 : decode cX9_compare 52 = .ok (.iload_n 3, 1) := by decide +kernel
theorem dX9_compare_53 : decode cX9_compare 53 = .ok (.iastore, 1) := by decide +kernel
theorem dX9_compare_54 : decode cX9_compare 54 = .ok (.iload 4, 2) := by decide +kernel
theorem dX9_compare_56 : decode cX9_compare 56 = .ok (.ireturn, 1) := by decide +kernel
theorem dX9_readSum_0 : decode cX9_readSum 0 = .ok (.aload_n 0, 1) := by decide +kernel
theorem dX9_readSum_1 : decode cX9_readSum 1 = .ok (.getfield 146, 3) := by decide +kernel
theorem dX9_readSum_4 : decode cX9_readSum 4 = .ok (.iload_n 1, 1) := by decide +kernel
theorem dX9_readSum_5 : decode cX9_readSum 5 = .ok (.aload_n 0, 1) := by decide +kernel
theorem dX9_readSum_6 : decode cX9_readSum 6 = .ok (.getfield 291, 3) := by decide +kernel
theorem dX9_readSum_9 : decode cX9_readSum 9 = .ok (.iastore, 1) := by decide +kernel
theorem dX9_readSum_10 : decode cX9_readSum 10 = .ok (.aload_n 0, 1) := by decide +kernel
theorem dX9_readSum_11 : decode cX9_readSum 11 = .ok (.getfield 254, 3) := by decide +kernel
theorem dX9_readSum_14 : decode cX9_readSum 14 = .ok (.ifCond .ne 8, 3) := by decide +kernel
theorem dX9_readSum_17 : decode cX9_readSum 17 = .ok (.aload_n 0, 1) := by decide +kernel
theorem dX9_readSum_18 : decode cX9_readSum 18 = .ok (.iconst 0, 1) := by decide +kernel
theorem dX9_readSum_19 : decode cX9_readSum 19 = .ok (.invokevirtual 387, 3) := by decide +kernel
theorem dX9_readSum_22 : decode cX9_readSum 22 = .ok (.aload_n 0, 1) := by decide +kernel
theorem dX9_readSum_23 : decode cX9_readSum 23 = .ok (.getfield 146, 3) := by decide +kernel
theorem dX9_readSum_26 : decode cX9_readSum 26 = .ok (.iload_n 1, 1) := by decide +kernel
theorem dX9_readSum_27 : decode cX9_readSum 27 = .ok (.iconst 1, 1) := by decide +kernel
theorem dX9_readSum_28 : decode cX9_readSum 28 = .ok (.iadd, 1) := by decide +kernel
theorem dX9_readSum_29 : decode cX9_readSum 29 = .ok (.aload_n 0, 1) := by decide +kernel
theorem dX9_readSum_30 : decode cX9_readSum 30 = .ok (.getfield 291, 3) := by decide +kernel
theorem dX9_readSum_33 : decode cX9_readSum 33 = .ok (.iastore, 1) := by decide +kernel
theorem dX9_readSum_34 : decode cX9_readSum 34 = .ok (.return_, 1) := by decide +kernel
theorem dX9_readOrder_0 : decode cX9_readOrder 0 = .ok (.iconst (-1), 1) := by decide +kernel
theorem dX9_readOrder_1 : decode cX9_readOrder 1 = .ok (.istore_n 1, 1) := by decide +kernel
theorem dX9_readOrder_2 : decode cX9_readOrder 2 = .ok (.iconst 0, 1) := by decide +kernel
theorem dX9_readOrder_3 : decode cX9_readOrder 3 = .ok (.istore_n 2, 1) := by decide +kernel
theorem dX9_readOrder_4 : decode cX9_readOrder 4 = .ok (.iload_n 2, 1) := by decide +kernel
theorem dX9_readOrder_5 : decode cX9_readOrder 5 = .ok (.iconst 4, 1) := by decide +kernel
theorem dX9_readOrder_6 : decode cX9_readOrder 6 = .ok (.if_icmp .ge 28, 3) := by decide +kernel
theorem dX9_readOrder_9 : decode cX9_readOrder 9 = .ok (.aload_n 0, 1) := by decide +kernel
theorem dX9_readOrder_10 : decode cX9_readOrder 10 = .ok (.aload_n 0, 1) := by decide +kernel
theorem dX9_readOrder_11 : decode cX9_readOrder 11 = .ok (.getfield 136, 3) := by decide +kernel
theorem dX9_readOrder_14 : decode cX9_readOrder 14 = .ok (.iload_n 2, 1) := by decide +kernel
theorem dX9_readOrder_15 : decode cX9_readOrder 15 = .ok (.laload, 1) := by decide +kernel
theorem dX9_readOrder_16 : decode cX9_readOrder 16 = .ok (.invokevirtual 312, 3) := by decide +kernel
theorem dX9_readOrder_19 : decode cX9_readOrder 19 = .ok (.ifCond .eq 7, 3) := by decide +kernel
theorem dX9_readOrder_22 : decode cX9_readOrder 22 = .ok (.iload_n 2, 1) := by decide +kernel
theorem dX9_readOrder_23 : decode cX9_readOrder 23 = .ok (.goto 4, 3) := by decide +kernel
theorem dX9_readOrder_26 : decode cX9_readOrder 26 = .ok (.iload_n 1, 1) := by decide +kernel
theorem dX9_readOrder_27 : decode cX9_readOrder 27 = .ok (.istore_n 1, 1) := by decide +kernel
theorem dX9_readOrder_28 : decode cX9_readOrder 28 = .ok (.iinc 2 1, 3) := by decide +kernel
theorem dX9_readOrder_31 : decode cX9_readOrder 31 = .ok (.goto (-27), 3) := by decide +kernel
theorem dX9_readOrder_34 : decode cX9_readOrder 34 = .ok (.aload_n 0, 1) := by decide +kernel
theorem dX9_readOrder_35 : decode cX9_readOrder 35 = .ok (.iload_n 1, 1) := by decide +kernel
theorem dX9_readOrder_36 : decode cX9_readOrder 36 = .ok (.iconst (-1), 1) := by decide +kernel
theorem dX9_readOrder_37 : decode cX9_readOrder 37 = .ok (.if_icmp .eq 16, 3) := by decide +kernel
theorem dX9_readOrder_40 : decode cX9_readOrder 40 = .ok (.aload_n 0, 1) := by decide +kernel
theorem dX9_readOrder_41 : decode cX9_readOrder 41 = .ok (.getfield 384, 3) := by decide +kernel
theorem dX9_readOrder_44 : decode cX9_readOrder 44 = .ok (.bipush 12, 2) := by decide +kernel
theorem dX9_readOrder_46 : decode cX9_readOrder 46 = .ok (.if_icmp .ge 7, 3) := by decide +kernel
theorem dX9_readOrder_49 : decode cX9_readOrder 49 = .ok (.iconst 1, 1) := by decide +kernel
theorem dX9_readOrder_50 : decode cX9_readOrder 50 = .ok (.goto 4, 3) := by decide +kernel
theorem dX9_readOrder_53 : decode cX9_readOrder 53 = .ok (.iconst 0, 1) := by decide +kernel
theorem dX9_readOrder_54 : decode cX9_readOrder 54 = .ok (.invokevirtual 287, 3) := by decide +kernel
theorem dX9_readOrder_57 : decode cX9_readOrder 57 = .ok (.aload_n 0, 1) := by decide +kernel
theorem dX9_readOrder_58 : decode cX9_readOrder 58 = .ok (.getfield 254, 3) := by decide +kernel
theorem dX9_readOrder_61 : decode cX9_readOrder 61 = .ok (.ifCond .eq 4, 3) := by decide +kernel
theorem dX9_readOrder_64 : decode cX9_readOrder 64 = .ok (.return_, 1) := by decide +kernel
theorem dX9_readOrder_65 : decode cX9_readOrder 65 = .ok (.bipush 8, 2) := by decide +kernel
theorem dX9_readOrder_67 : decode cX9_readOrder 67 = .ok (.aload_n 0, 1) := by decide +kernel
theorem dX9_readOrder_68 : decode cX9_readOrder 68 = .ok (.getfield 384, 3) := by decide +kernel
theorem dX9_readOrder_71 : decode cX9_readOrder 71 = .ok (.imul, 1) := by decide +kernel
theorem dX9_readOrder_72 : decode cX9_readOrder 72 = .ok (.istore_n 2, 1) := by decide +kernel
theorem dX9_readOrder_73 : decode cX9_readOrder 73 = .ok (.aload_n 0, 1) := by decide +kernel
theorem dX9_readOrder_74 : decode cX9_readOrder 74 = .ok (.dup, 1) := by decide +kernel
theorem dX9_readOrder_75 : decode cX9_readOrder 75 = .ok (.getfield 384, 3) := by decide +kernel
theorem dX9_readOrder_78 : decode cX9_readOrder 78 = .ok (.iconst 1, 1) := by decide +kernel
theorem dX9_readOrder_79 : decode cX9_readOrder 79 = .ok (.iadd, 1) := by decide +kernel
theorem dX9_readOrder_80 : decode cX9_readOrder 80 = .ok (.putfield 384, 3) := by decide +kernel
theorem dX9_readOrder_83 : decode cX9_readOrder 83 = .ok (.iconst 0, 1) := by decide +kernel
theorem dX9_readOrder_84 : decode cX9_readOrder 84 = .ok (.istore_n 3, 1) := by decide +kernel
theorem dX9_readOrder_85 : decode cX9_readOrder 85 = .ok (.iload_n 3, 1) := by decide +kernel
theorem dX9_readOrder_86 : decode cX9_readOrder 86 = .ok (.bipush 8, 2) := by decide +kernel
theorem dX9_readOrder_88 : decode cX9_readOrder 88 = .ok (.if_icmp .ge 18, 3) := by decide +kernel
theorem dX9_readOrder_91 : decode cX9_readOrder 91 = .ok (.aload_n 0, 1) := by decide +kernel
theorem dX9_readOrder_92 : decode cX9_readOrder 92 = .ok (.getfield 146, 3) := by decide +kernel
theorem dX9_readOrder_95 : decode cX9_readOrder 95 = .ok (.iload_n 2, 1) := by decide +kernel
theorem dX9_readOrder_96 : decode cX9_readOrder 96 = .ok (.iload_n 3, 1) := by decide +kernel
theorem dX9_readOrder_97 : decode cX9_readOrder 97 = .ok (.iadd, 1) := by decide +kernel
theorem dX9_readOrder_98 : decode cX9_readOrder 98 = .ok (.iconst 0, 1) := by decide +kernel
theorem dX9_readOrder_99 : decode cX9_readOrder 99 = .ok (.iastore, 1) := by decide +kernel
theorem dX9_readOrder_100 : decode cX9_readOrder 100 = .ok (.iinc 3 1, 3) := by decide +kernel
theorem dX9_readOrder_103 : decode cX9_readOrder 103 = .ok (.goto (-18), 3) := by decide +kernel
theorem dX9_readOrder_106 : decode cX9_readOrder 106 = .ok (.aload_n 0, 1) := by decide +kernel
theorem dX9_readOrder_107 : decode cX9_readOrder 107 = .ok (.getfield 146, 3) := by decide +kernel
theorem dX9_readOrder_110 : decode cX9_readOrder 110 = .ok (.iload_n 2, 1) := by decide +kernel
theorem dX9_readOrder_111 : decode cX9_readOrder 111 = .ok (.iload_n 1, 1) := by decide +kernel
theorem dX9_readOrder_112 : decode cX9_readOrder 112 = .ok (.iastore, 1) := by decide +kernel
theorem dX9_readOrder_113 : decode cX9_readOrder 113 = .ok (.iload_n 1, 1) := by decide +kernel
theorem dX9_readOrder_114 : decode cX9_readOrder 114 = .ok (.iconst 3, 1) := by decide +kernel
theorem dX9_readOrder_115 : decode cX9_readOrder 115 = .ok (.if_icmp .eq 38, 3) := by decide +kernel
theorem dX9_readOrder_118 : decode cX9_readOrder 118 = .ok (.aload_n 0, 1) := by decide +kernel
theorem dX9_readOrder_119 : decode cX9_readOrder 119 = .ok (.iload_n 2, 1) := by decide +kernel
theorem dX9_readOrder_120 : decode cX9_readOrder 120 = .ok (.iconst 1, 1) := by decide +kernel
theorem dX9_readOrder_121 : decode cX9_readOrder 121 = .ok (.iadd, 1) := by decide +kernel
theorem dX9_readOrder_122 : decode cX9_readOrder 122 = .ok (.invokevirtual 502, 3) := by decide +kernel
theorem dX9_readOrder_125 : decode cX9_readOrder 125 = .ok (.aload_n 0, 1) := by decide +kernel
theorem dX9_readOrder_126 : decode cX9_readOrder 126 = .ok (.getfield 254, 3) := by decide +kernel
theorem dX9_readOrder_129 : decode cX9_readOrder 129 = .ok (.ifCond .ne 17, 3) := by decide +kernel
theorem dX9_readOrder_132 : decode cX9_readOrder 132 = .ok (.aload_n 0, 1) := by decide +kernel
theorem dX9_readOrder_133 : decode cX9_readOrder 133 = .ok (.aload_n 0, 1) := by decide +kernel
theorem dX9_readOrder_134 : decode cX9_readOrder 134 = .ok (.aload_n 0, 1) := by decide +kernel
theorem dX9_readOrder_135 : decode cX9_readOrder 135 = .ok (.getfield 143, 3) := by decide +kernel
theorem dX9_readOrder_138 : decode cX9_readOrder 138 = .ok (.iload_n 1, 1) := by decide +kernel
theorem dX9_readOrder_139 : decode cX9_readOrder 139 = .ok (.laload, 1) := by decide +kernel
theorem dX9_readOrder_140 : decode cX9_readOrder 140 = .ok (.invokevirtual 312, 3) := by decide +kernel
theorem dX9_readOrder_143 : decode cX9_readOrder 143 = .ok (.invokevirtual 287, 3) := by decide +kernel
theorem dX9_readOrder_146 : decode cX9_readOrder 146 = .ok (.aload_n 0, 1) := by decide +kernel
theorem dX9_readOrder_147 : decode cX9_readOrder 147 = .ok (.iload_n 2, 1) := by decide +kernel
theorem dX9_readOrder_148 : decode cX9_readOrder 148 = .ok (.iconst 3, 1) := by decide +kernel
theorem dX9_readOrder_149 : decode cX9_readOrder 149 = .ok (.iadd, 1) := by decide +kernel
theorem dX9_readOrder_150 : decode cX9_readOrder 150 = .ok (.invokevirtual 502, 3) := by decide +kernel
theorem dX9_readOrder_153 : decode cX9_readOrder 153 = .ok (.aload_n 0, 1) := by decide +kernel
theorem dX9_readOrder_154 : decode cX9_readOrder 154 = .ok (.getfield 146, 3) := by decide +kernel
theorem dX9_readOrder_157 : decode cX9_readOrder 157 = .ok (.iload_n 2, 1) := by decide +kernel
theorem dX9_readOrder_158 : decode cX9_readOrder 158 = .ok (.bipush 7, 2) := by decide +kernel
theorem dX9_readOrder_160 : decode cX9_readOrder 160 = .ok (.iadd, 1) := by decide +kernel
theorem dX9_readOrder_161 : decode cX9_readOrder 161 = .ok (.iconst 1, 1) := by decide +kernel
theorem dX9_readOrder_162 : decode cX9_readOrder 162 = .ok (.iastore, 1) := by decide +kernel
theorem dX9_readOrder_163 : decode cX9_readOrder 163 = .ok (.aload_n 0, 1) := by decide +kernel
theorem dX9_readOrder_164 : decode cX9_readOrder 164 = .ok (.getfield 254, 3) := by decide +kernel
theorem dX9_readOrder_167 : decode cX9_readOrder 167 = .ok (.ifCond .ne 34, 3) := by decide +kernel
theorem dX9_readOrder_170 : decode cX9_readOrder 170 = .ok (.aload_n 0, 1) := by decide +kernel
theorem dX9_readOrder_171 : decode cX9_readOrder 171 = .ok (.ldc2_w 505, 3) := by decide +kernel
theorem dX9_readOrder_174 : decode cX9_readOrder 174 = .ok (.invokevirtual 312, 3) := by decide +kernel
theorem dX9_readOrder_177 : decode cX9_readOrder 177 = .ok (.ifCond .eq 24, 3) := by decide +kernel
theorem dX9_readOrder_180 : decode cX9_readOrder 180 = .ok (.aload_n 0, 1) := by decide +kernel
theorem dX9_readOrder_181 : decode cX9_readOrder 181 = .ok (.invokevirtual 258, 3) := by decide +kernel
theorem dX9_readOrder_184 : decode cX9_readOrder 184 = .ok (.aload_n 0, 1) := by decide +kernel
theorem dX9_readOrder_185 : decode cX9_readOrder 185 = .ok (.getfield 146, 3) := by decide +kernel
theorem dX9_readOrder_188 : decode cX9_readOrder 188 = .ok (.iload_n 2, 1) := by decide +kernel
theorem dX9_readOrder_189 : decode cX9_readOrder 189 = .ok (.bipush 7, 2) := by decide +kernel
theorem dX9_readOrder_191 : decode cX9_readOrder 191 = .ok (.iadd, 1) := by decide +kernel
theorem dX9_readOrder_192 : decode cX9_readOrder 192 = .ok (.aload_n 0, 1) := by decide +kernel
theorem dX9_readOrder_193 : decode cX9_readOrder 193 = .ok (.lconst 1, 1) := by decide +kernel
theorem dX9_readOrder_194 : decode cX9_readOrder 194 = .ok (.ldc2_w 304, 3) := by decide +kernel
theorem dX9_readOrder_197 : decode cX9_readOrder 197 = .ok (.invokevirtual 348, 3) := by decide +kernel
theorem dX9_readOrder_200 : decode cX9_readOrder 200 = .ok (.iastore, 1) := by decide +kernel
theorem dX9_readOrder_201 : decode cX9_readOrder 201 = .ok (.aload_n 0, 1) := by decide +kernel
theorem dX9_readOrder_202 : decode cX9_readOrder 202 = .ok (.getfield 146, 3) := by decide +kernel
theorem dX9_readOrder_205 : decode cX9_readOrder 205 = .ok (.iload_n 2, 1) := by decide +kernel
theorem dX9_readOrder_206 : decode cX9_readOrder 206 = .ok (.iconst 5, 1) := by decide +kernel
theorem dX9_readOrder_207 : decode cX9_readOrder 207 = .ok (.iadd, 1) := by decide +kernel
theorem dX9_readOrder_208 : decode cX9_readOrder 208 = .ok (.aload_n 0, 1) := by decide +kernel
theorem dX9_readOrder_209 : decode cX9_readOrder 209 = .ok (.getfield 291, 3) := by decide +kernel
theorem dX9_readOrder_212 : decode cX9_readOrder 212 = .ok (.iastore, 1) := by decide +kernel
theorem dX9_readOrder_213 : decode cX9_readOrder 213 = .ok (.aload_n 0, 1) := by decide +kernel
theorem dX9_readOrder_214 : decode cX9_readOrder 214 = .ok (.getfield 254, 3) := by decide +kernel
theorem dX9_readOrder_217 : decode cX9_readOrder 217 = .ok (.ifCond .ne 22, 3) := by decide +kernel
theorem dX9_readOrder_220 : decode cX9_readOrder 220 = .ok (.aload_n 0, 1) := by decide +kernel
theorem dX9_readOrder_221 : decode cX9_readOrder 221 = .ok (.ldc2_w 390, 3) := by decide +kernel
theorem dX9_readOrder_224 : decode cX9_readOrder 224 = .ok (.invokevirtual 312, 3) := by decide +kernel
theorem dX9_readOrder_227 : decode cX9_readOrder 227 = .ok (.ifCond .eq 12, 3) := by decide +kernel
theorem dX9_readOrder_230 : decode cX9_readOrder 230 = .ok (.aload_n 0, 1) := by decide +kernel
theorem dX9_readOrder_231 : decode cX9_readOrder 231 = .ok (.invokevirtual 258, 3) := by decide +kernel
theorem dX9_readOrder_234 : decode cX9_readOrder 234 = .ok (.aload_n 0, 1) := by decide +kernel
theorem dX9_readOrder_235 : decode cX9_readOrder 235 = .ok (.iconst 1, 1) := by decide +kernel
theorem dX9_readOrder_236 : decode cX9_readOrder 236 = .ok (.invokevirtual 387, 3) := by decide +kernel
theorem dX9_readOrder_239 : decode cX9_readOrder 239 = .ok (.aload_n 0, 1) := by decide +kernel
theorem dX9_readOrder_240 : decode cX9_readOrder 240 = .ok (.getfield 146, 3) := by decide +kernel
theorem dX9_readOrder_243 : decode cX9_readOrder 243 = .ok (.iload_n 2, 1) := by decide +kernel
theorem dX9_readOrder_244 : decode cX9_readOrder 244 = .ok (.bipush 6, 2) := by decide +kernel
theorem dX9_readOrder_246 : decode cX9_readOrder 246 = .ok (.iadd, 1) := by decide +kernel
theorem dX9_readOrder_247 : decode cX9_readOrder 247 = .ok (.aload_n 0, 1) := by decide +kernel
theorem dX9_readOrder_248 : decode cX9_readOrder 248 = .ok (.getfield 291, 3) := by decide +kernel
theorem dX9_readOrder_251 : decode cX9_readOrder 251 = .ok (.iastore, 1) := by decide +kernel
theorem dX9_readOrder_252 : decode cX9_readOrder 252 = .ok (.return_, 1) := by decide +kernel
theorem dX9_sumOf_0 : decode cX9_sumOf 0 = .ok (.aload_n 0, 1) := by decide +kernel
theorem dX9_sumOf_1 : decode cX9_sumOf 1 = .ok (.getfield 507, 3) := by decide +kernel
theorem dX9_sumOf_4 : decode cX9_sumOf 4 = .ok (.ifCond .ne 20, 3) := by decide +kernel
theorem dX9_sumOf_7 : decode cX9_sumOf 7 = .ok (.aload_n 0, 1) := by decide +kernel
theorem dX9_sumOf_8 : decode cX9_sumOf 8 = .ok (.getfield 146, 3) := by decide +kernel
theorem dX9_sumOf_11 : decode cX9_sumOf 11 = .ok (.iload_n 1, 1) := by decide +kernel
theorem dX9_sumOf_12 : decode cX9_sumOf 12 = .ok (.iaload, 1) := by decide +kernel
theorem dX9_sumOf_13 : decode cX9_sumOf 13 = .ok (.aload_n 0, 1) := by decide +kernel
theorem dX9_sumOf_14 : decode cX9_sumOf 14 = .ok (.getfield 146, 3) := by decide +kernel
theorem dX9_sumOf_17 : decode cX9_sumOf 17 = .ok (.iload_n 1, 1) := by decide +kernel
theorem dX9_sumOf_18 : decode cX9_sumOf 18 = .ok (.iconst 1, 1) := by decide +kernel
theorem dX9_sumOf_19 : decode cX9_sumOf 19 = .ok (.iadd, 1) := by decide +kernel
theorem dX9_sumOf_20 : decode cX9_sumOf 20 = .ok (.iaload, 1) := by decide +kernel
theorem dX9_sumOf_21 : decode cX9_sumOf 21 = .ok (.if_icmp .ne 5, 3) := by decide +kernel
theorem dX9_sumOf_24 : decode cX9_sumOf 24 = .ok (.iconst (-1), 1) := by decide +kernel
theorem dX9_sumOf_25 : decode cX9_sumOf 25 = .ok (.ireturn, 1) := by decide +kernel
theorem dX9_sumOf_26 : decode cX9_sumOf 26 = .ok (.aload_n 0, 1) := by decide +kernel
theorem dX9_sumOf_27 : decode cX9_sumOf 27 = .ok (.iconst 1, 1) := by decide +kernel
theorem dX9_sumOf_28 : decode cX9_sumOf 28 = .ok (.putfield 330, 3) := by decide +kernel
theorem dX9_sumOf_31 : decode cX9_sumOf 31 = .ok (.aload_n 0, 1) := by decide +kernel
theorem dX9_sumOf_32 : decode cX9_sumOf 32 = .ok (.aload_n 0, 1) := by decide +kernel
theorem dX9_sumOf_33 : decode cX9_sumOf 33 = .ok (.getfield 146, 3) := by decide +kernel
theorem dX9_sumOf_36 : decode cX9_sumOf 36 = .ok (.iload_n 1, 1) := by decide +kernel
theorem dX9_sumOf_37 : decode cX9_sumOf 37 = .ok (.iaload, 1) := by decide +kernel
theorem dX9_sumOf_38 : decode cX9_sumOf 38 = .ok (.aload_n 0, 1) := by decide +kernel
theorem dX9_sumOf_39 : decode cX9_sumOf 39 = .ok (.getfield 146, 3) := by decide +kernel
theorem dX9_sumOf_42 : decode cX9_sumOf 42 = .ok (.iload_n 1, 1) := by decide +kernel
theorem dX9_sumOf_43 : decode cX9_sumOf 43 = .ok (.iconst 1, 1) := by decide +kernel
theorem dX9_sumOf_44 : decode cX9_sumOf 44 = .ok (.iadd, 1) := by decide +kernel
theorem dX9_sumOf_45 : decode cX9_sumOf 45 = .ok (.iaload, 1) := by decide +kernel
theorem dX9_sumOf_46 : decode cX9_sumOf 46 = .ok (.invokevirtual 421, 3) := by decide +kernel
theorem dX9_sumOf_49 : decode cX9_sumOf 49 = .ok (.aload_n 0, 1) := by decide +kernel
theorem dX9_sumOf_50 : decode cX9_sumOf 50 = .ok (.iconst 0, 1) := by decide +kernel
theorem dX9_sumOf_51 : decode cX9_sumOf 51 = .ok (.putfield 330, 3) := by decide +kernel
theorem dX9_sumOf_54 : decode cX9_sumOf 54 = .ok (.aload_n 0, 1) := by decide +kernel
theorem dX9_sumOf_55 : decode cX9_sumOf 55 = .ok (.aload_n 0, 1) := by decide +kernel
theorem dX9_sumOf_56 : decode cX9_sumOf 56 = .ok (.getfield 404, 3) := by decide +kernel
theorem dX9_sumOf_59 : decode cX9_sumOf 59 = .ok (.putfield 507, 3) := by decide +kernel
theorem dX9_sumOf_62 : decode cX9_sumOf 62 = .ok (.aload_n 0, 1) := by decide +kernel
theorem dX9_sumOf_63 : decode cX9_sumOf 63 = .ok (.getfield 418, 3) := by decide +kernel
theorem dX9_sumOf_66 : decode cX9_sumOf 66 = .ok (.l2i, 1) := by decide +kernel
theorem dX9_sumOf_67 : decode cX9_sumOf 67 = .ok (.ireturn, 1) := by decide +kernel
theorem dX9_act_0 : decode cX9_act 0 = .ok (.iload_n 1, 1) := by decide +kernel
theorem dX9_act_1 : decode cX9_act 1 = .ok (.tableswitch 48 0 2 #[27, 34, 41], 27) := by decide +kernel
theorem dX9_act_28 : decode cX9_act 28 = .ok (.aload_n 0, 1) := by decide +kernel
theorem dX9_act_29 : decode cX9_act 29 = .ok (.iload_n 2, 1) := by decide +kernel
theorem dX9_act_30 : decode cX9_act 30 = .ok (.iload_n 3, 1) := by decide +kernel
theorem dX9_act_31 : decode cX9_act 31 = .ok (.invokevirtual 445, 3) := by decide +kernel
theorem dX9_act_34 : decode cX9_act 34 = .ok (.ireturn, 1) := by decide +kernel
theorem dX9_act_35 : decode cX9_act 35 = .ok (.aload_n 0, 1) := by decide +kernel
theorem dX9_act_36 : decode cX9_act 36 = .ok (.iload_n 2, 1) := by decide +kernel
theorem dX9_act_37 : decode cX9_act 37 = .ok (.iload_n 3, 1) := by decide +kernel
theorem dX9_act_38 : decode cX9_act 38 = .ok (.invokevirtual 448, 3) := by decide +kernel
theorem dX9_act_41 : decode cX9_act 41 = .ok (.ireturn, 1) := by decide +kernel
theorem dX9_act_42 : decode cX9_act 42 = .ok (.aload_n 0, 1) := by decide +kernel
theorem dX9_act_43 : decode cX9_act 43 = .ok (.iload_n 2, 1) := by decide +kernel
theorem dX9_act_44 : decode cX9_act 44 = .ok (.iload_n 3, 1) := by decide +kernel
theorem dX9_act_45 : decode cX9_act 45 = .ok (.invokevirtual 451, 3) := by decide +kernel
theorem dX9_act_48 : decode cX9_act 48 = .ok (.ireturn, 1) := by decide +kernel
theorem dX9_act_49 : decode cX9_act 49 = .ok (.aload_n 0, 1) := by decide +kernel
theorem dX9_act_50 : decode cX9_act 50 = .ok (.invokevirtual 460, 3) := by decide +kernel
theorem dX9_act_53 : decode cX9_act 53 = .ok (.ireturn, 1) := by decide +kernel
theorem dX9_run_0 : decode cX9_run 0 = .ok (.aload_n 0, 1) := by decide +kernel
theorem dX9_run_1 : decode cX9_run 1 = .ok (.getfield 104, 3) := by decide +kernel
theorem dX9_run_4 : decode cX9_run 4 = .ok (.iconst 1, 1) := by decide +kernel
theorem dX9_run_5 : decode cX9_run 5 = .ok (.aload_n 0, 1) := by decide +kernel
theorem dX9_run_6 : decode cX9_run 6 = .ok (.getfield 13, 3) := by decide +kernel
theorem dX9_run_9 : decode cX9_run 9 = .ok (.bipush 7, 2) := by decide +kernel
theorem dX9_run_11 : decode cX9_run 11 = .ok (.iaload, 1) := by decide +kernel
theorem dX9_run_12 : decode cX9_run 12 = .ok (.i2l, 1) := by decide +kernel
theorem dX9_run_13 : decode cX9_run 13 = .ok (.lastore, 1) := by decide +kernel
theorem dX9_run_14 : decode cX9_run 14 = .ok (.aload_n 0, 1) := by decide +kernel
theorem dX9_run_15 : decode cX9_run 15 = .ok (.getfield 104, 3) := by decide +kernel
theorem dX9_run_18 : decode cX9_run 18 = .ok (.iconst 2, 1) := by decide +kernel
theorem dX9_run_19 : decode cX9_run 19 = .ok (.aload_n 0, 1) := by decide +kernel
theorem dX9_run_20 : decode cX9_run 20 = .ok (.getfield 510, 3) := by decide +kernel
theorem dX9_run_23 : decode cX9_run 23 = .ok (.i2l, 1) := by decide +kernel
theorem dX9_run_24 : decode cX9_run 24 = .ok (.lastore, 1) := by decide +kernel
theorem dX9_run_25 : decode cX9_run 25 = .ok (.aload_n 0, 1) := by decide +kernel
theorem dX9_run_26 : decode cX9_run 26 = .ok (.getfield 104, 3) := by decide +kernel
theorem dX9_run_29 : decode cX9_run 29 = .ok (.iconst 3, 1) := by decide +kernel
theorem dX9_run_30 : decode cX9_run 30 = .ok (.aload_n 0, 1) := by decide +kernel
theorem dX9_run_31 : decode cX9_run 31 = .ok (.getfield 513, 3) := by decide +kernel
theorem dX9_run_34 : decode cX9_run 34 = .ok (.i2l, 1) := by decide +kernel
theorem dX9_run_35 : decode cX9_run 35 = .ok (.lastore, 1) := by decide +kernel
theorem dX9_run_36 : decode cX9_run 36 = .ok (.aload_n 0, 1) := by decide +kernel
theorem dX9_run_37 : decode cX9_run 37 = .ok (.getfield 104, 3) := by decide +kernel
theorem dX9_run_40 : decode cX9_run 40 = .ok (.iconst 4, 1) := by decide +kernel
theorem dX9_run_41 : decode cX9_run 41 = .ok (.aload_n 0, 1) := by decide +kernel
theorem dX9_run_42 : decode cX9_run 42 = .ok (.getfield 13, 3) := by decide +kernel
theorem dX9_run_45 : decode cX9_run 45 = .ok (.bipush 10, 2) := by decide +kernel
theorem dX9_run_47 : decode cX9_run 47 = .ok (.iaload, 1) := by decide +kernel
theorem dX9_run_48 : decode cX9_run 48 = .ok (.i2l, 1) := by decide +kernel
theorem dX9_run_49 : decode cX9_run 49 = .ok (.lastore, 1) := by decide +kernel
theorem dX9_run_50 : decode cX9_run 50 = .ok (.aload_n 0, 1) := by decide +kernel
theorem dX9_run_51 : decode cX9_run 51 = .ok (.getfield 104, 3) := by decide +kernel
theorem dX9_run_54 : decode cX9_run 54 = .ok (.iconst 5, 1) := by decide +kernel
theorem dX9_run_55 : decode cX9_run 55 = .ok (.aload_n 0, 1) := by decide +kernel
theorem dX9_run_56 : decode cX9_run 56 = .ok (.getfield 13, 3) := by decide +kernel
theorem dX9_run_59 : decode cX9_run 59 = .ok (.bipush 7, 2) := by decide +kernel
theorem dX9_run_61 : decode cX9_run 61 = .ok (.iaload, 1) := by decide +kernel
theorem dX9_run_62 : decode cX9_run 62 = .ok (.bipush 24, 2) := by decide +kernel
theorem dX9_run_64 : decode cX9_run 64 = .ok (.irem, 1) := by decide +kernel
theorem dX9_run_65 : decode cX9_run 65 = .ok (.i2l, 1) := by decide +kernel
theorem dX9_run_66 : decode cX9_run 66 = .ok (.lastore, 1) := by decide +kernel
theorem dX9_run_67 : decode cX9_run 67 = .ok (.aload_n 0, 1) := by decide +kernel
theorem dX9_run_68 : decode cX9_run 68 = .ok (.iconst 0, 1) := by decide +kernel
theorem dX9_run_69 : decode cX9_run 69 = .ok (.putfield 507, 3) := by decide +kernel
theorem dX9_run_72 : decode cX9_run 72 = .ok (.aload_n 0, 1) := by decide +kernel
theorem dX9_run_73 : decode cX9_run 73 = .ok (.getfield 146, 3) := by decide +kernel
theorem dX9_run_76 : decode cX9_run 76 = .ok (.iload_n 1, 1) := by decide +kernel
theorem dX9_run_77 : decode cX9_run 77 = .ok (.iconst 5, 1) := by decide +kernel
theorem dX9_run_78 : decode cX9_run 78 = .ok (.iadd, 1) := by decide +kernel
theorem dX9_run_79 : decode cX9_run 79 = .ok (.iaload, 1) := by decide +kernel
theorem dX9_run_80 : decode cX9_run 80 = .ok (.aload_n 0, 1) := by decide +kernel
theorem dX9_run_81 : decode cX9_run 81 = .ok (.getfield 146, 3) := by decide +kernel
theorem dX9_run_84 : decode cX9_run 84 = .ok (.iload_n 1, 1) := by decide +kernel
theorem dX9_run_85 : decode cX9_run 85 = .ok (.bipush 6, 2) := by decide +kernel
theorem dX9_run_87 : decode cX9_run 87 = .ok (.iadd, 1) := by decide +kernel
theorem dX9_run_88 : decode cX9_run 88 = .ok (.iaload, 1) := by decide +kernel
theorem dX9_run_89 : decode cX9_run 89 = .ok (.if_icmp .ge 24, 3) := by decide +kernel
theorem dX9_run_92 : decode cX9_run 92 = .ok (.aload_n 0, 1) := by decide +kernel
theorem dX9_run_93 : decode cX9_run 93 = .ok (.iload_n 1, 1) := by decide +kernel
theorem dX9_run_94 : decode cX9_run 94 = .ok (.iconst 5, 1) := by decide +kernel
theorem dX9_run_95 : decode cX9_run 95 = .ok (.iadd, 1) := by decide +kernel
theorem dX9_run_96 : decode cX9_run 96 = .ok (.invokevirtual 516, 3) := by decide +kernel
theorem dX9_run_99 : decode cX9_run 99 = .ok (.istore_n 2, 1) := by decide +kernel
theorem dX9_run_100 : decode cX9_run 100 = .ok (.aload_n 0, 1) := by decide +kernel
theorem dX9_run_101 : decode cX9_run 101 = .ok (.getfield 507, 3) := by decide +kernel
theorem dX9_run_104 : decode cX9_run 104 = .ok (.ifCond .ne 7, 3) := by decide +kernel
theorem dX9_run_107 : decode cX9_run 107 = .ok (.iload_n 2, 1) := by decide +kernel
theorem dX9_run_108 : decode cX9_run 108 = .ok (.ifCond .ne 5, 3) := by decide +kernel
theorem dX9_run_111 : decode cX9_run 111 = .ok (.iconst 0, 1) := by decide +kernel
theorem dX9_run_112 : decode cX9_run 112 = .ok (.ireturn, 1) := by decide +kernel
theorem dX9_run_113 : decode cX9_run 113 = .ok (.aload_n 0, 1) := by decide +kernel
theorem dX9_run_114 : decode cX9_run 114 = .ok (.iload_n 1, 1) := by decide +kernel
theorem dX9_run_115 : decode cX9_run 115 = .ok (.iconst 1, 1) := by decide +kernel
theorem dX9_run_116 : decode cX9_run 116 = .ok (.iadd, 1) := by decide +kernel
theorem dX9_run_117 : decode cX9_run 117 = .ok (.invokevirtual 516, 3) := by decide +kernel
theorem dX9_run_120 : decode cX9_run 120 = .ok (.istore_n 2, 1) := by decide +kernel
theorem dX9_run_121 : decode cX9_run 121 = .ok (.aload_n 0, 1) := by decide +kernel
theorem dX9_run_122 : decode cX9_run 122 = .ok (.iload_n 1, 1) := by decide +kernel
theorem dX9_run_123 : decode cX9_run 123 = .ok (.iconst 3, 1) := by decide +kernel
theorem dX9_run_124 : decode cX9_run 124 = .ok (.iadd, 1) := by decide +kernel
theorem dX9_run_125 : decode cX9_run 125 = .ok (.invokevirtual 516, 3) := by decide +kernel
theorem dX9_run_128 : decode cX9_run 128 = .ok (.istore_n 3, 1) := by decide +kernel
theorem dX9_run_129 : decode cX9_run 129 = .ok (.aload_n 0, 1) := by decide +kernel
theorem dX9_run_130 : decode cX9_run 130 = .ok (.getfield 507, 3) := by decide +kernel
theorem dX9_run_133 : decode cX9_run 133 = .ok (.ifCond .eq 6, 3) := by decide +kernel
theorem dX9_run_136 : decode cX9_run 136 = .ok (.bipush (-3), 2) := by decide +kernel
theorem dX9_run_138 : decode cX9_run 138 = .ok (.ireturn, 1) := by decide +kernel
theorem dX9_run_139 : decode cX9_run 139 = .ok (.aload_n 0, 1) := by decide +kernel
theorem dX9_run_140 : decode cX9_run 140 = .ok (.aload_n 0, 1) := by decide +kernel
theorem dX9_run_141 : decode cX9_run 141 = .ok (.getfield 146, 3) := by decide +kernel
theorem dX9_run_144 : decode cX9_run 144 = .ok (.iload_n 1, 1) := by decide +kernel
theorem dX9_run_145 : decode cX9_run 145 = .ok (.iaload, 1) := by decide +kernel
theorem dX9_run_146 : decode cX9_run 146 = .ok (.iload_n 2, 1) := by decide +kernel
theorem dX9_run_147 : decode cX9_run 147 = .ok (.iload_n 3, 1) := by decide +kernel
theorem dX9_run_148 : decode cX9_run 148 = .ok (.invokevirtual 519, 3) := by decide +kernel
theorem dX9_run_151 : decode cX9_run 151 = .ok (.istore 4, 2) := by decide +kernel
theorem dX9_run_153 : decode cX9_run 153 = .ok (.iload 4, 2) := by decide +kernel
theorem dX9_run_155 : decode cX9_run 155 = .ok (.ifCond .ge 6, 3) := by decide +kernel
theorem dX9_run_158 : decode cX9_run 158 = .ok (.bipush (-3), 2) := by decide +kernel
theorem dX9_run_160 : decode cX9_run 160 = .ok (.ireturn, 1) := by decide +kernel
theorem dX9_run_161 : decode cX9_run 161 = .ok (.aload_n 0, 1) := by decide +kernel
theorem dX9_run_162 : decode cX9_run 162 = .ok (.aload_n 0, 1) := by decide +kernel
theorem dX9_run_163 : decode cX9_run 163 = .ok (.getfield 146, 3) := by decide +kernel
theorem dX9_run_166 : decode cX9_run 166 = .ok (.iload_n 1, 1) := by decide +kernel
theorem dX9_run_167 : decode cX9_run 167 = .ok (.iaload, 1) := by decide +kernel
theorem dX9_run_168 : decode cX9_run 168 = .ok (.iconst 3, 1) := by decide +kernel
theorem dX9_run_169 : decode cX9_run 169 = .ok (.if_icmp .ne 8, 3) := by decide +kernel
theorem dX9_run_172 : decode cX9_run 172 = .ok (.iload 4, 2) := by decide +kernel
theorem dX9_run_174 : decode cX9_run 174 = .ok (.goto 7, 3) := by decide +kernel
theorem dX9_run_177 : decode cX9_run 177 = .ok (.aload_n 0, 1) := by decide +kernel
theorem dX9_run_178 : decode cX9_run 178 = .ok (.getfield 513, 3) := by decide +kernel
theorem dX9_run_181 : decode cX9_run 181 = .ok (.putfield 513, 3) := by decide +kernel
theorem dX9_run_184 : decode cX9_run 184 = .ok (.aload_n 0, 1) := by decide +kernel
theorem dX9_run_185 : decode cX9_run 185 = .ok (.dup, 1) := by decide +kernel
theorem dX9_run_186 : decode cX9_run 186 = .ok (.getfield 510, 3) := by decide +kernel
theorem dX9_run_189 : decode cX9_run 189 = .ok (.iconst 1, 1) := by decide +kernel
theorem dX9_run_190 : decode cX9_run 190 = .ok (.iadd, 1) := by decide +kernel
theorem dX9_run_191 : decode cX9_run 191 = .ok (.putfield 510, 3) := by decide +kernel
theorem dX9_run_194 : decode cX9_run 194 = .ok (.iconst 0, 1) := by decide +kernel
theorem dX9_run_195 : decode cX9_run 195 = .ok (.ireturn, 1) := by decide +kernel
theorem dX9_orders_0 : decode cX9_orders 0 = .ok (.aload_n 0, 1) := by decide +kernel
theorem dX9_orders_1 : decode cX9_orders 1 = .ok (.iconst 0, 1) := by decide +kernel
theorem dX9_orders_2 : decode cX9_orders 2 = .ok (.putfield 161, 3) := by decide +kernel
theorem dX9_orders_5 : decode cX9_orders 5 = .ok (.aload_n 0, 1) := by decide +kernel
theorem dX9_orders_6 : decode cX9_orders 6 = .ok (.iconst (-1), 1) := by decide +kernel
theorem dX9_orders_7 : decode cX9_orders 7 = .ok (.putfield 149, 3) := by decide +kernel
theorem dX9_orders_10 : decode cX9_orders 10 = .ok (.aload_n 0, 1) := by decide +kernel
theorem dX9_orders_11 : decode cX9_orders 11 = .ok (.iconst 1, 1) := by decide +kernel
theorem dX9_orders_12 : decode cX9_orders 12 = .ok (.invokevirtual 392, 3) := by decide +kernel
theorem dX9_orders_15 : decode cX9_orders 15 = .ok (.aload_n 0, 1) := by decide +kernel
theorem dX9_orders_16 : decode cX9_orders 16 = .ok (.invokevirtual 522, 3) := by decide +kernel
theorem dX9_orders_19 : decode cX9_orders 19 = .ok (.aload_n 0, 1) := by decide +kernel
theorem dX9_orders_20 : decode cX9_orders 20 = .ok (.getfield 254, 3) := by decide +kernel
theorem dX9_orders_23 : decode cX9_orders 23 = .ok (.ifCond .ne 23, 3) := by decide +kernel
theorem dX9_orders_26 : decode cX9_orders 26 = .ok (.aload_n 0, 1) := by decide +kernel
theorem dX9_orders_27 : decode cX9_orders 27 = .ok (.bipush 59, 2) := by decide +kernel
theorem dX9_orders_29 : decode cX9_orders 29 = .ok (.invokevirtual 324, 3) := by decide +kernel
theorem dX9_orders_32 : decode cX9_orders 32 = .ok (.ifCond .eq 14, 3) := by decide +kernel
theorem dX9_orders_35 : decode cX9_orders 35 = .ok (.aload_n 0, 1) := by decide +kernel
theorem dX9_orders_36 : decode cX9_orders 36 = .ok (.invokevirtual 258, 3) := by decide +kernel
theorem dX9_orders_39 : decode cX9_orders 39 = .ok (.aload_n 0, 1) := by decide +kernel
theorem dX9_orders_40 : decode cX9_orders 40 = .ok (.invokevirtual 522, 3) := by decide +kernel
theorem dX9_orders_43 : decode cX9_orders 43 = .ok (.goto (-24), 3) := by decide +kernel
theorem dX9_orders_46 : decode cX9_orders 46 = .ok (.aload_n 0, 1) := by decide +kernel
theorem dX9_orders_47 : decode cX9_orders 47 = .ok (.invokevirtual 398, 3) := by decide +kernel
theorem dX9_orders_50 : decode cX9_orders 50 = .ok (.aload_n 0, 1) := by decide +kernel
theorem dX9_orders_51 : decode cX9_orders 51 = .ok (.getfield 254, 3) := by decide +kernel
theorem dX9_orders_54 : decode cX9_orders 54 = .ok (.ifCond .eq 10, 3) := by decide +kernel
theorem dX9_orders_57 : decode cX9_orders 57 = .ok (.aload_n 0, 1) := by decide +kernel
theorem dX9_orders_58 : decode cX9_orders 58 = .ok (.bipush (-6), 2) := by decide +kernel
theorem dX9_orders_60 : decode cX9_orders 60 = .ok (.invokevirtual 170, 3) := by decide +kernel
theorem dX9_orders_63 : decode cX9_orders 63 = .ok (.ireturn, 1) := by decide +kernel
theorem dX9_orders_64 : decode cX9_orders 64 = .ok (.aload_n 0, 1) := by decide +kernel
theorem dX9_orders_65 : decode cX9_orders 65 = .ok (.bipush 17, 2) := by decide +kernel
theorem dX9_orders_67 : decode cX9_orders 67 = .ok (.invokevirtual 174, 3) := by decide +kernel
theorem dX9_orders_70 : decode cX9_orders 70 = .ok (.aload_n 0, 1) := by decide +kernel
theorem dX9_orders_71 : decode cX9_orders 71 = .ok (.getfield 167, 3) := by decide +kernel
theorem dX9_orders_74 : decode cX9_orders 74 = .ok (.istore_n 1, 1) := by decide +kernel
theorem dX9_orders_75 : decode cX9_orders 75 = .ok (.iconst 0, 1) := by decide +kernel
theorem dX9_orders_76 : decode cX9_orders 76 = .ok (.istore_n 2, 1) := by decide +kernel
theorem dX9_orders_77 : decode cX9_orders 77 = .ok (.iload_n 2, 1) := by decide +kernel
theorem dX9_orders_78 : decode cX9_orders 78 = .ok (.sipush 368, 3) := by decide +kernel
theorem dX9_orders_81 : decode cX9_orders 81 = .ok (.if_icmp .ge 21, 3) := by decide +kernel
theorem dX9_orders_84 : decode cX9_orders 84 = .ok (.aload_n 0, 1) := by decide +kernel
theorem dX9_orders_85 : decode cX9_orders 85 = .ok (.getfield 29, 3) := by decide +kernel
theorem dX9_orders_88 : decode cX9_orders 88 = .ok (.iload_n 2, 1) := by decide +kernel
theorem dX9_orders_89 : decode cX9_orders 89 = .ok (.aload_n 0, 1) := by decide +kernel
theorem dX9_orders_90 : decode cX9_orders 90 = .ok (.getfield 23, 3) := by decide +kernel
theorem dX9_orders_93 : decode cX9_orders 93 = .ok (.iload_n 2, 1) := by decide +kernel
theorem dX9_orders_94 : decode cX9_orders 94 = .ok (.iaload, 1) := by decide +kernel
theorem dX9_orders_95 : decode cX9_orders 95 = .ok (.iastore, 1) := by decide +kernel
theorem dX9_orders_96 : decode cX9_orders 96 = .ok (.iinc 2 1, 3) := by decide +kernel
theorem dX9_orders_99 : decode cX9_orders 99 = .ok (.goto (-22), 3) := by decide +kernel
theorem dX9_orders_102 : decode cX9_orders 102 = .ok (.iconst 0, 1) := by decide +kernel
theorem dX9_orders_103 : decode cX9_orders 103 = .ok (.istore_n 2, 1) := by decide +kernel
theorem dX9_orders_104 : decode cX9_orders 104 = .ok (.iload_n 2, 1) := by decide +kernel
theorem dX9_orders_105 : decode cX9_orders 105 = .ok (.bipush 16, 2) := by decide +kernel
theorem dX9_orders_107 : decode cX9_orders 107 = .ok (.if_icmp .ge 21, 3) := by decide +kernel
theorem dX9_orders_110 : decode cX9_orders 110 = .ok (.aload_n 0, 1) := by decide +kernel
theorem dX9_orders_111 : decode cX9_orders 111 = .ok (.getfield 32, 3) := by decide +kernel
theorem dX9_orders_114 : decode cX9_orders 114 = .ok (.iload_n 2, 1) := by decide +kernel
theorem dX9_orders_115 : decode cX9_orders 115 = .ok (.aload_n 0, 1) := by decide +kernel
theorem dX9_orders_116 : decode cX9_orders 116 = .ok (.getfield 26, 3) := by decide +kernel
theorem dX9_orders_119 : decode cX9_orders 119 = .ok (.iload_n 2, 1) := by decide +kernel
theorem dX9_orders_120 : decode cX9_orders 120 = .ok (.iaload, 1) := by decide +kernel
theorem dX9_orders_121 : decode cX9_orders 121 = .ok (.iastore, 1) := by decide +kernel
theorem dX9_orders_122 : decode cX9_orders 122 = .ok (.iinc 2 1, 3) := by decide +kernel
theorem dX9_orders_125 : decode cX9_orders 125 = .ok (.goto (-21), 3) := by decide +kernel
theorem dX9_orders_128 : decode cX9_orders 128 = .ok (.aload_n 0, 1) := by decide +kernel
theorem dX9_orders_129 : decode cX9_orders 129 = .ok (.iconst 0, 1) := by decide +kernel
theorem dX9_orders_130 : decode cX9_orders 130 = .ok (.putfield 510, 3) := by decide +kernel
theorem dX9_orders_133 : decode cX9_orders 133 = .ok (.aload_n 0, 1) := by decide +kernel
theorem dX9_orders_134 : decode cX9_orders 134 = .ok (.iconst (-1), 1) := by decide +kernel
theorem dX9_orders_135 : decode cX9_orders 135 = .ok (.putfield 513, 3) := by decide +kernel
theorem dX9_orders_138 : decode cX9_orders 138 = .ok (.iconst 0, 1) := by decide +kernel
theorem dX9_orders_139 : decode cX9_orders 139 = .ok (.istore_n 2, 1) := by decide +kernel
theorem dX9_orders_140 : decode cX9_orders 140 = .ok (.iload_n 2, 1) := by decide +kernel
theorem dX9_orders_141 : decode cX9_orders 141 = .ok (.aload_n 0, 1) := by decide +kernel
theorem dX9_orders_142 : decode cX9_orders 142 = .ok (.getfield 384, 3) := by decide +kernel
theorem dX9_orders_145 : decode cX9_orders 145 = .ok (.if_icmp .ge 61, 3) := by decide +kernel
theorem dX9_orders_148 : decode cX9_orders 148 = .ok (.iconst 0, 1) := by decide +kernel
theorem dX9_orders_149 : decode cX9_orders 149 = .ok (.istore_n 3, 1) := by decide +kernel
theorem dX9_orders_150 : decode cX9_orders 150 = .ok (.iload_n 3, 1) := by decide +kernel
theorem dX9_orders_151 : decode cX9_orders 151 = .ok (.aload_n 0, 1) := by decide +kernel
theorem dX9_orders_152 : decode cX9_orders 152 = .ok (.getfield 146, 3) := by decide +kernel
theorem dX9_orders_155 : decode cX9_orders 155 = .ok (.bipush 8, 2) := by decide +kernel
theorem dX9_orders_157 : decode cX9_orders 157 = .ok (.iload_n 2, 1) := by decide +kernel
theorem dX9_orders_158 : decode cX9_orders 158 = .ok (.imul, 1) := by decide +kernel
theorem dX9_orders_159 : decode cX9_orders 159 = .ok (.bipush 7, 2) := by decide +kernel
theorem dX9_orders_161 : decode cX9_orders 161 = .ok (.iadd, 1) := by decide +kernel
theorem dX9_orders_162 : decode cX9_orders 162 = .ok (.iaload, 1) := by decide +kernel
theorem dX9_orders_163 : decode cX9_orders 163 = .ok (.if_icmp .ge 37, 3) := by decide +kernel
theorem dX9_orders_166 : decode cX9_orders 166 = .ok (.aload_n 0, 1) := by decide +kernel
theorem dX9_orders_167 : decode cX9_orders 167 = .ok (.bipush 8, 2) := by decide +kernel
theorem dX9_orders_169 : decode cX9_orders 169 = .ok (.iload_n 2, 1) := by decide +kernel
theorem dX9_orders_170 : decode cX9_orders 170 = .ok (.imul, 1) := by decide +kernel
theorem dX9_orders_171 : decode cX9_orders 171 = .ok (.invokevirtual 525, 3) := by decide +kernel
theorem dX9_orders_174 : decode cX9_orders 174 = .ok (.ifCond .ge 20, 3) := by decide +kernel
theorem dX9_orders_177 : decode cX9_orders 177 = .ok (.aload_n 0, 1) := by decide +kernel
theorem dX9_orders_178 : decode cX9_orders 178 = .ok (.iload_n 1, 1) := by decide +kernel
theorem dX9_orders_179 : decode cX9_orders 179 = .ok (.invokevirtual 528, 3) := by decide +kernel
theorem dX9_orders_182 : decode cX9_orders 182 = .ok (.aload_n 0, 1) := by decide +kernel
theorem dX9_orders_183 : decode cX9_orders 183 = .ok (.iload_n 2, 1) := by decide +kernel
theorem dX9_orders_184 : decode cX9_orders 184 = .ok (.putfield 149, 3) := by decide +kernel
theorem dX9_orders_187 : decode cX9_orders 187 = .ok (.aload_n 0, 1) := by decide +kernel
theorem dX9_orders_188 : decode cX9_orders 188 = .ok (.bipush (-3), 2) := by decide +kernel
theorem dX9_orders_190 : decode cX9_orders 190 = .ok (.invokevirtual 170, 3) := by decide +kernel
theorem dX9_orders_193 : decode cX9_orders 193 = .ok (.ireturn, 1) := by decide +kernel
theorem dX9_orders_194 : decode cX9_orders 194 = .ok (.iinc 3 1, 3) := by decide +kernel
theorem dX9_orders_197 : decode cX9_orders 197 = .ok (.goto (-47), 3) := by decide +kernel
theorem dX9_orders_200 : decode cX9_orders 200 = .ok (.iinc 2 1, 3) := by decide +kernel
theorem dX9_orders_203 : decode cX9_orders 203 = .ok (.goto (-63), 3) := by decide +kernel
theorem dX9_orders_206 : decode cX9_orders 206 = .ok (.aload_n 0, 1) := by decide +kernel
theorem dX9_orders_207 : decode cX9_orders 207 = .ok (.aload_n 0, 1) := by decide +kernel
theorem dX9_orders_208 : decode cX9_orders 208 = .ok (.getfield 510, 3) := by decide +kernel
theorem dX9_orders_211 : decode cX9_orders 211 = .ok (.invokevirtual 170, 3) := by decide +kernel
theorem dX9_orders_214 : decode cX9_orders 214 = .ok (.ireturn, 1) := by decide +kernel
theorem dX9_giveBack_0 : decode cX9_giveBack 0 = .ok (.aload_n 0, 1) := by decide +kernel
theorem dX9_giveBack_1 : decode cX9_giveBack 1 = .ok (.bipush 17, 2) := by decide +kernel
theorem dX9_giveBack_3 : decode cX9_giveBack 3 = .ok (.invokevirtual 178, 3) := by decide +kernel
theorem dX9_giveBack_6 : decode cX9_giveBack 6 = .ok (.iconst 0, 1) := by decide +kernel
theorem dX9_giveBack_7 : decode cX9_giveBack 7 = .ok (.istore_n 2, 1) := by decide +kernel
theorem dX9_giveBack_8 : decode cX9_giveBack 8 = .ok (.iload_n 2, 1) := by decide +kernel
theorem dX9_giveBack_9 : decode cX9_giveBack 9 = .ok (.sipush 368, 3) := by decide +kernel
theorem dX9_giveBack_12 : decode cX9_giveBack 12 = .ok (.if_icmp .ge 21, 3) := by decide +kernel
theorem dX9_giveBack_15 : decode cX9_giveBack 15 = .ok (.aload_n 0, 1) := by decide +kernel
theorem dX9_giveBack_16 : decode cX9_giveBack 16 = .ok (.getfield 23, 3) := by decide +kernel
theorem dX9_giveBack_19 : decode cX9_giveBack 19 = .ok (.iload_n 2, 1) := by decide +kernel
theorem dX9_giveBack_20 : decode cX9_giveBack 20 = .ok (.aload_n 0, 1) := by decide +kernel
theorem dX9_giveBack_21 : decode cX9_giveBack 21 = .ok (.getfield 29, 3) := by decide +kernel
theorem dX9_giveBack_24 : decode cX9_giveBack 24 = .ok (.iload_n 2, 1) := by decide +kernel
theorem dX9_giveBack_25 : decode cX9_giveBack 25 = .ok (.iaload, 1) := by decide +kernel
theorem dX9_giveBack_26 : decode cX9_giveBack 26 = .ok (.iastore, 1) := by decide +kernel
theorem dX9_giveBack_27 : decode cX9_giveBack 27 = .ok (.iinc 2 1, 3) := by decide +kernel
theorem dX9_giveBack_30 : decode cX9_giveBack 30 = .ok (.goto (-22), 3) := by decide +kernel
theorem dX9_giveBack_33 : decode cX9_giveBack 33 = .ok (.iconst 0, 1) := by decide +kernel
theorem dX9_giveBack_34 : decode cX9_giveBack 34 = .ok (.istore_n 2, 1) := by decide +kernel
theorem dX9_giveBack_35 : decode cX9_giveBack 35 = .ok (.iload_n 2, 1) := by decide +kernel
theorem dX9_giveBack_36 : decode cX9_giveBack 36 = .ok (.bipush 16, 2) := by decide +kernel
theorem dX9_giveBack_38 : decode cX9_giveBack 38 = .ok (.if_icmp .ge 21, 3) := by decide +kernel
theorem dX9_giveBack_41 : decode cX9_giveBack 41 = .ok (.aload_n 0, 1) := by decide +kernel
theorem dX9_giveBack_42 : decode cX9_giveBack 42 = .ok (.getfield 26, 3) := by decide +kernel
theorem dX9_giveBack_45 : decode cX9_giveBack 45 = .ok (.iload_n 2, 1) := by decide +kernel
theorem dX9_giveBack_46 : decode cX9_giveBack 46 = .ok (.aload_n 0, 1) := by decide +kernel
theorem dX9_giveBack_47 : decode cX9_giveBack 47 = .ok (.getfield 32, 3) := by decide +kernel
theorem dX9_giveBack_50 : decode cX9_giveBack 50 = .ok (.iload_n 2, 1) := by decide +kernel
theorem dX9_giveBack_51 : decode cX9_giveBack 51 = .ok (.iaload, 1) := by decide +kernel
theorem dX9_giveBack_52 : decode cX9_giveBack 52 = .ok (.iastore, 1) := by decide +kernel
theorem dX9_giveBack_53 : decode cX9_giveBack 53 = .ok (.iinc 2 1, 3) := by decide +kernel
theorem dX9_giveBack_56 : decode cX9_giveBack 56 = .ok (.goto (-21), 3) := by decide +kernel
theorem dX9_giveBack_59 : decode cX9_giveBack 59 = .ok (.aload_n 0, 1) := by decide +kernel
theorem dX9_giveBack_60 : decode cX9_giveBack 60 = .ok (.iload_n 1, 1) := by decide +kernel
theorem dX9_giveBack_61 : decode cX9_giveBack 61 = .ok (.putfield 167, 3) := by decide +kernel
theorem dX9_giveBack_64 : decode cX9_giveBack 64 = .ok (.return_, 1) := by decide +kernel
theorem dX9_stopped_0 : decode cX9_stopped 0 = .ok (.aload_n 0, 1) := by decide +kernel
theorem dX9_stopped_1 : decode cX9_stopped 1 = .ok (.iconst 0, 1) := by decide +kernel
theorem dX9_stopped_2 : decode cX9_stopped 2 = .ok (.putfield 161, 3) := by decide +kernel
theorem dX9_stopped_5 : decode cX9_stopped 5 = .ok (.aload_n 0, 1) := by decide +kernel
theorem dX9_stopped_6 : decode cX9_stopped 6 = .ok (.getfield 149, 3) := by decide +kernel
theorem dX9_stopped_9 : decode cX9_stopped 9 = .ok (.ireturn, 1) := by decide +kernel
theorem dX9_draw_0 : decode cX9_draw 0 = .ok (.aload_n 0, 1) := by decide +kernel
theorem dX9_draw_1 : decode cX9_draw 1 = .ok (.aload_n 0, 1) := by decide +kernel
theorem dX9_draw_2 : decode cX9_draw 2 = .ok (.getfield 531, 3) := by decide +kernel
theorem dX9_draw_5 : decode cX9_draw 5 = .ok (.ldc2_w 534, 3) := by decide +kernel
theorem dX9_draw_8 : decode cX9_draw 8 = .ok (.lmul, 1) := by decide +kernel
theorem dX9_draw_9 : decode cX9_draw 9 = .ok (.ldc2_w 536, 3) := by decide +kernel
theorem dX9_draw_12 : decode cX9_draw 12 = .ok (.ladd, 1) := by decide +kernel
theorem dX9_draw_13 : decode cX9_draw 13 = .ok (.ldc2_w 538, 3) := by decide +kernel
theorem dX9_draw_16 : decode cX9_draw 16 = .ok (.lrem, 1) := by decide +kernel
theorem dX9_draw_17 : decode cX9_draw 17 = .ok (.putfield 531, 3) := by decide +kernel
theorem dX9_draw_20 : decode cX9_draw 20 = .ok (.aload_n 0, 1) := by decide +kernel
theorem dX9_draw_21 : decode cX9_draw 21 = .ok (.getfield 531, 3) := by decide +kernel
theorem dX9_draw_24 : decode cX9_draw 24 = .ok (.iload_n 1, 1) := by decide +kernel
theorem dX9_draw_25 : decode cX9_draw 25 = .ok (.i2l, 1) := by decide +kernel
theorem dX9_draw_26 : decode cX9_draw 26 = .ok (.lrem, 1) := by decide +kernel
theorem dX9_draw_27 : decode cX9_draw 27 = .ok (.l2i, 1) := by decide +kernel
theorem dX9_draw_28 : decode cX9_draw 28 = .ok (.ireturn, 1) := by decide +kernel
theorem dX9_dusks_0 : decode cX9_dusks 0 = .ok (.aload_n 0, 1) := by decide +kernel
theorem dX9_dusks_1 : decode cX9_dusks 1 = .ok (.iconst 0, 1) := by decide +kernel
theorem dX9_dusks_2 : decode cX9_dusks 2 = .ok (.putfield 161, 3) := by decide +kernel
theorem dX9_dusks_5 : decode cX9_dusks 5 = .ok (.iload_n 1, 1) := by decide +kernel
theorem dX9_dusks_6 : decode cX9_dusks 6 = .ok (.i2l, 1) := by decide +kernel
theorem dX9_dusks_7 : decode cX9_dusks 7 = .ok (.lconst 0, 1) := by decide +kernel
theorem dX9_dusks_8 : decode cX9_dusks 8 = .ok (.ldc2_w 283, 3) := by decide +kernel
theorem dX9_dusks_11 : decode cX9_dusks 11 = .ok (.invokestatic 181, 3) := by decide +kernel
theorem dX9_dusks_14 : decode cX9_dusks 14 = .ok (.ifCond .eq 15, 3) := by decide +kernel
theorem dX9_dusks_17 : decode cX9_dusks 17 = .ok (.iload_n 2, 1) := by decide +kernel
theorem dX9_dusks_18 : decode cX9_dusks 18 = .ok (.i2l, 1) := by decide +kernel
theorem dX9_dusks_19 : decode cX9_dusks 19 = .ok (.lconst 1, 1) := by decide +kernel
theorem dX9_dusks_20 : decode cX9_dusks 20 = .ok (.ldc2_w 487, 3) := by decide +kernel
theorem dX9_dusks_23 : decode cX9_dusks 23 = .ok (.invokestatic 181, 3) := by decide +kernel
theorem dX9_dusks_26 : decode cX9_dusks 26 = .ok (.ifCond .ne 9, 3) := by decide +kernel
theorem dX9_dusks_29 : decode cX9_dusks 29 = .ok (.aload_n 0, 1) := by decide +kernel
theorem dX9_dusks_30 : decode cX9_dusks 30 = .ok (.iconst (-1), 1) := by decide +kernel
theorem dX9_dusks_31 : decode cX9_dusks 31 = .ok (.invokevirtual 170, 3) := by decide +kernel
theorem dX9_dusks_34 : decode cX9_dusks 34 = .ok (.ireturn, 1) := by decide +kernel
theorem dX9_dusks_35 : decode cX9_dusks 35 = .ok (.aload_n 0, 1) := by decide +kernel
theorem dX9_dusks_36 : decode cX9_dusks 36 = .ok (.getfield 13, 3) := by decide +kernel
theorem dX9_dusks_39 : decode cX9_dusks 39 = .ok (.iconst 1, 1) := by decide +kernel
theorem dX9_dusks_40 : decode cX9_dusks 40 = .ok (.iaload, 1) := by decide +kernel
theorem dX9_dusks_41 : decode cX9_dusks 41 = .ok (.ifCond .ne 10, 3) := by decide +kernel
theorem dX9_dusks_44 : decode cX9_dusks 44 = .ok (.aload_n 0, 1) := by decide +kernel
theorem dX9_dusks_45 : decode cX9_dusks 45 = .ok (.bipush (-3), 2) := by decide +kernel
theorem dX9_dusks_47 : decode cX9_dusks 47 = .ok (.invokevirtual 170, 3) := by decide +kernel
theorem dX9_dusks_50 : decode cX9_dusks 50 = .ok (.ireturn, 1) := by decide +kernel
theorem dX9_dusks_51 : decode cX9_dusks 51 = .ok (.aload_n 0, 1) := by decide +kernel
theorem dX9_dusks_52 : decode cX9_dusks 52 = .ok (.bipush 16, 2) := by decide +kernel
theorem dX9_dusks_54 : decode cX9_dusks 54 = .ok (.invokevirtual 174, 3) := by decide +kernel
theorem dX9_dusks_57 : decode cX9_dusks 57 = .ok (.aload_n 0, 1) := by decide +kernel
theorem dX9_dusks_58 : decode cX9_dusks 58 = .ok (.iload_n 1, 1) := by decide +kernel
theorem dX9_dusks_59 : decode cX9_dusks 59 = .ok (.i2l, 1) := by decide +kernel
theorem dX9_dusks_60 : decode cX9_dusks 60 = .ok (.putfield 531, 3) := by decide +kernel
theorem dX9_dusks_63 : decode cX9_dusks 63 = .ok (.aload_n 0, 1) := by decide +kernel
theorem dX9_dusks_64 : decode cX9_dusks 64 = .ok (.getfield 13, 3) := by decide +kernel
theorem dX9_dusks_67 : decode cX9_dusks 67 = .ok (.bipush 10, 2) := by decide +kernel
theorem dX9_dusks_69 : decode cX9_dusks 69 = .ok (.iaload, 1) := by decide +kernel
theorem dX9_dusks_70 : decode cX9_dusks 70 = .ok (.istore_n 3, 1) := by decide +kernel
theorem dX9_dusks_71 : decode cX9_dusks 71 = .ok (.iconst 0, 1) := by decide +kernel
theorem dX9_dusks_72 : decode cX9_dusks 72 = .ok (.istore 4, 2) := by decide +kernel
theorem dX9_dusks_74 : decode cX9_dusks 74 = .ok (.iload 4, 2) := by decide +kernel
theorem dX9_dusks_76 : decode cX9_dusks 76 = .ok (.iload_n 2, 1) := by decide +kernel
theorem dX9_dusks_77 : decode cX9_dusks 77 = .ok (.if_icmp .ge 97, 3) := by decide +kernel
theorem dX9_dusks_80 : decode cX9_dusks 80 = .ok (.aload_n 0, 1) := by decide +kernel
theorem dX9_dusks_81 : decode cX9_dusks 81 = .ok (.getfield 13, 3) := by decide +kernel
theorem dX9_dusks_84 : decode cX9_dusks 84 = .ok (.bipush 7, 2) := by decide +kernel
theorem dX9_dusks_86 : decode cX9_dusks 86 = .ok (.iaload, 1) := by decide +kernel
theorem dX9_dusks_87 : decode cX9_dusks 87 = .ok (.sipush 999, 3) := by decide +kernel
theorem dX9_dusks_90 : decode cX9_dusks 90 = .ok (.if_icmp .ge 84, 3) := by decide +kernel
theorem dX9_dusks_93 : decode cX9_dusks 93 = .ok (.aload_n 0, 1) := by decide +kernel
theorem dX9_dusks_94 : decode cX9_dusks 94 = .ok (.aload_n 0, 1) := by decide +kernel
theorem dX9_dusks_95 : decode cX9_dusks 95 = .ok (.getfield 13, 3) := by decide +kernel
theorem dX9_dusks_98 : decode cX9_dusks 98 = .ok (.iconst 1, 1) := by decide +kernel
theorem dX9_dusks_99 : decode cX9_dusks 99 = .ok (.iaload, 1) := by decide +kernel
theorem dX9_dusks_100 : decode cX9_dusks 100 = .ok (.invokevirtual 540, 3) := by decide +kernel
theorem dX9_dusks_103 : decode cX9_dusks 103 = .ok (.istore 5, 2) := by decide +kernel
theorem dX9_dusks_105 : decode cX9_dusks 105 = .ok (.aload_n 0, 1) := by decide +kernel
theorem dX9_dusks_106 : decode cX9_dusks 106 = .ok (.aload_n 0, 1) := by decide +kernel
theorem dX9_dusks_107 : decode cX9_dusks 107 = .ok (.getfield 13, 3) := by decide +kernel
theorem dX9_dusks_110 : decode cX9_dusks 110 = .ok (.iconst 0, 1) := by decide +kernel
theorem dX9_dusks_111 : decode cX9_dusks 111 = .ok (.iaload, 1) := by decide +kernel
theorem dX9_dusks_112 : decode cX9_dusks 112 = .ok (.invokevirtual 540, 3) := by decide +kernel
theorem dX9_dusks_115 : decode cX9_dusks 115 = .ok (.istore 6, 2) := by decide +kernel
theorem dX9_dusks_117 : decode cX9_dusks 117 = .ok (.aload_n 0, 1) := by decide +kernel
theorem dX9_dusks_118 : decode cX9_dusks 118 = .ok (.iconst 4, 1) := by decide +kernel
theorem dX9_dusks_119 : decode cX9_dusks 119 = .ok (.invokevirtual 540, 3) := by decide +kernel
theorem dX9_dusks_122 : decode cX9_dusks 122 = .ok (.istore 7, 2) := by decide +kernel
theorem dX9_dusks_124 : decode cX9_dusks 124 = .ok (.iload 7, 2) := by decide +kernel
theorem dX9_dusks_126 : decode cX9_dusks 126 = .ok (.iconst 3, 1) := by decide +kernel
theorem dX9_dusks_127 : decode cX9_dusks 127 = .ok (.if_icmp .ge 36, 3) := by decide +kernel
theorem dX9_dusks_130 : decode cX9_dusks 130 = .ok (.aload_n 0, 1) := by decide +kernel
theorem dX9_dusks_131 : decode cX9_dusks 131 = .ok (.iload 5, 2) := by decide +kernel
theorem dX9_dusks_133 : decode cX9_dusks 133 = .ok (.aload_n 0, 1) := by decide +kernel
theorem dX9_dusks_134 : decode cX9_dusks 134 = .ok (.getfield 13, 3) := by decide +kernel
theorem dX9_dusks_137 : decode cX9_dusks 137 = .ok (.bipush 17, 2) := by decide +kernel
theorem dX9_dusks_139 : decode cX9_dusks 139 = .ok (.iload 5, 2) := by decide +kernel
theorem dX9_dusks_141 : decode cX9_dusks 141 = .ok (.iadd, 1) := by decide +kernel
theorem dX9_dusks_142 : decode cX9_dusks 142 = .ok (.iaload, 1) := by decide +kernel
theorem dX9_dusks_143 : decode cX9_dusks 143 = .ok (.iload 6, 2) := by decide +kernel
theorem dX9_dusks_145 : decode cX9_dusks 145 = .ok (.invokevirtual 231, 3) := by decide +kernel
theorem dX9_dusks_148 : decode cX9_dusks 148 = .ok (.ifCond .eq 15, 3) := by decide +kernel
theorem dX9_dusks_151 : decode cX9_dusks 151 = .ok (.aload_n 0, 1) := by decide +kernel
theorem dX9_dusks_152 : decode cX9_dusks 152 = .ok (.getfield 13, 3) := by decide +kernel
theorem dX9_dusks_155 : decode cX9_dusks 155 = .ok (.bipush 17, 2) := by decide +kernel
theorem dX9_dusks_157 : decode cX9_dusks 157 = .ok (.iload 5, 2) := by decide +kernel
theorem dX9_dusks_159 : decode cX9_dusks 159 = .ok (.iadd, 1) := by decide +kernel
theorem dX9_dusks_160 : decode cX9_dusks 160 = .ok (.iload 6, 2) := by decide +kernel
theorem dX9_dusks_162 : decode cX9_dusks 162 = .ok (.iastore, 1) := by decide +kernel
theorem dX9_dusks_163 : decode cX9_dusks 163 = .ok (.aload_n 0, 1) := by decide +kernel
theorem dX9_dusks_164 : decode cX9_dusks 164 = .ok (.invokevirtual 457, 3) := by decide +kernel
theorem dX9_dusks_167 : decode cX9_dusks 167 = .ok (.pop, 1) := by decide +kernel
theorem dX9_dusks_168 : decode cX9_dusks 168 = .ok (.iinc 4 1, 3) := by decide +kernel
theorem dX9_dusks_171 : decode cX9_dusks 171 = .ok (.goto (-97), 3) := by decide +kernel
theorem dX9_dusks_174 : decode cX9_dusks 174 = .ok (.iconst 0, 1) := by decide +kernel
theorem dX9_dusks_175 : decode cX9_dusks 175 = .ok (.istore 4, 2) := by decide +kernel
theorem dX9_dusks_177 : decode cX9_dusks 177 = .ok (.iload 4, 2) := by decide +kernel
theorem dX9_dusks_179 : decode cX9_dusks 179 = .ok (.bipush 23, 2) := by decide +kernel
theorem dX9_dusks_181 : decode cX9_dusks 181 = .ok (.if_icmp .ge 26, 3) := by decide +kernel
theorem dX9_dusks_184 : decode cX9_dusks 184 = .ok (.aload_n 0, 1) := by decide +kernel
theorem dX9_dusks_185 : decode cX9_dusks 185 = .ok (.getfield 152, 3) := by decide +kernel
theorem dX9_dusks_188 : decode cX9_dusks 188 = .ok (.iload 4, 2) := by decide +kernel
theorem dX9_dusks_190 : decode cX9_dusks 190 = .ok (.aload_n 0, 1) := by decide +kernel
theorem dX9_dusks_191 : decode cX9_dusks 191 = .ok (.getfield 13, 3) := by decide +kernel
theorem dX9_dusks_194 : decode cX9_dusks 194 = .ok (.bipush 7, 2) := by decide +kernel
theorem dX9_dusks_196 : decode cX9_dusks 196 = .ok (.iload 4, 2) := by decide +kernel
theorem dX9_dusks_198 : decode cX9_dusks 198 = .ok (.iadd, 1) := by decide +kernel
theorem dX9_dusks_199 : decode cX9_dusks 199 = .ok (.iaload, 1) := by decide +kernel
theorem dX9_dusks_200 : decode cX9_dusks 200 = .ok (.iastore, 1) := by decide +kernel
theorem dX9_dusks_201 : decode cX9_dusks 201 = .ok (.iinc 4 1, 3) := by decide +kernel
theorem dX9_dusks_204 : decode cX9_dusks 204 = .ok (.goto (-27), 3) := by decide +kernel
theorem dX9_dusks_207 : decode cX9_dusks 207 = .ok (.aload_n 0, 1) := by decide +kernel
theorem dX9_dusks_208 : decode cX9_dusks 208 = .ok (.aload_n 0, 1) := by decide +kernel
theorem dX9_dusks_209 : decode cX9_dusks 209 = .ok (.getfield 13, 3) := by decide +kernel
theorem dX9_dusks_212 : decode cX9_dusks 212 = .ok (.iconst 1, 1) := by decide +kernel
theorem dX9_dusks_213 : decode cX9_dusks 213 = .ok (.iaload, 1) := by decide +kernel
theorem dX9_dusks_214 : decode cX9_dusks 214 = .ok (.putfield 155, 3) := by decide +kernel
theorem dX9_dusks_217 : decode cX9_dusks 217 = .ok (.aload_n 0, 1) := by decide +kernel
theorem dX9_dusks_218 : decode cX9_dusks 218 = .ok (.aload_n 0, 1) := by decide +kernel
theorem dX9_dusks_219 : decode cX9_dusks 219 = .ok (.getfield 13, 3) := by decide +kernel
theorem dX9_dusks_222 : decode cX9_dusks 222 = .ok (.iconst 2, 1) := by decide +kernel
theorem dX9_dusks_223 : decode cX9_dusks 223 = .ok (.iaload, 1) := by decide +kernel
theorem dX9_dusks_224 : decode cX9_dusks 224 = .ok (.putfield 158, 3) := by decide +kernel
theorem dX9_dusks_227 : decode cX9_dusks 227 = .ok (.aload_n 0, 1) := by decide +kernel
theorem dX9_dusks_228 : decode cX9_dusks 228 = .ok (.getfield 13, 3) := by decide +kernel
theorem dX9_dusks_231 : decode cX9_dusks 231 = .ok (.bipush 10, 2) := by decide +kernel
theorem dX9_dusks_233 : decode cX9_dusks 233 = .ok (.iaload, 1) := by decide +kernel
theorem dX9_dusks_234 : decode cX9_dusks 234 = .ok (.iload_n 3, 1) := by decide +kernel
theorem dX9_dusks_235 : decode cX9_dusks 235 = .ok (.isub, 1) := by decide +kernel
theorem dX9_dusks_236 : decode cX9_dusks 236 = .ok (.istore 4, 2) := by decide +kernel
theorem dX9_dusks_238 : decode cX9_dusks 238 = .ok (.aload_n 0, 1) := by decide +kernel
theorem dX9_dusks_239 : decode cX9_dusks 239 = .ok (.bipush 16, 2) := by decide +kernel
theorem dX9_dusks_241 : decode cX9_dusks 241 = .ok (.invokevirtual 178, 3) := by decide +kernel
theorem dX9_dusks_244 : decode cX9_dusks 244 = .ok (.aload_n 0, 1) := by decide +kernel
theorem dX9_dusks_245 : decode cX9_dusks 245 = .ok (.iload 4, 2) := by decide +kernel
theorem dX9_dusks_247 : decode cX9_dusks 247 = .ok (.invokevirtual 170, 3) := by decide +kernel
theorem dX9_dusks_250 : decode cX9_dusks 250 = .ok (.ireturn, 1) := by decide +kernel
theorem dX9_drawn_0 : decode cX9_drawn 0 = .ok (.aload_n 0, 1) := by decide +kernel
theorem dX9_drawn_1 : decode cX9_drawn 1 = .ok (.iconst 0, 1) := by decide +kernel
theorem dX9_drawn_2 : decode cX9_drawn 2 = .ok (.putfield 161, 3) := by decide +kernel
theorem dX9_drawn_5 : decode cX9_drawn 5 = .ok (.iload_n 2, 1) := by decide +kernel
theorem dX9_drawn_6 : decode cX9_drawn 6 = .ok (.i2l, 1) := by decide +kernel
theorem dX9_drawn_7 : decode cX9_drawn 7 = .ok (.lconst 0, 1) := by decide +kernel
theorem dX9_drawn_8 : decode cX9_drawn 8 = .ok (.lconst 1, 1) := by decide +kernel
theorem dX9_drawn_9 : decode cX9_drawn 9 = .ok (.invokestatic 181, 3) := by decide +kernel
theorem dX9_drawn_12 : decode cX9_drawn 12 = .ok (.ifCond .eq 30, 3) := by decide +kernel
theorem dX9_drawn_15 : decode cX9_drawn 15 = .ok (.iload_n 1, 1) := by decide +kernel
theorem dX9_drawn_16 : decode cX9_drawn 16 = .ok (.i2l, 1) := by decide +kernel
theorem dX9_drawn_17 : decode cX9_drawn 17 = .ok (.lconst 0, 1) := by decide +kernel
theorem dX9_drawn_18 : decode cX9_drawn 18 = .ok (.iload_n 2, 1) := by decide +kernel
theorem dX9_drawn_19 : decode cX9_drawn 19 = .ok (.ifCond .ne 10, 3) := by decide +kernel
theorem dX9_drawn_22 : decode cX9_drawn 22 = .ok (.aload_n 0, 1) := by decide +kernel
theorem dX9_drawn_23 : decode cX9_drawn 23 = .ok (.getfield 155, 3) := by decide +kernel
theorem dX9_drawn_26 : decode cX9_drawn 26 = .ok (.goto 7, 3) := by decide +kernel
theorem dX9_drawn_29 : decode cX9_drawn 29 = .ok (.aload_n 0, 1) := by decide +kernel
theorem dX9_drawn_30 : decode cX9_drawn 30 = .ok (.getfield 158, 3) := by decide +kernel
theorem dX9_drawn_33 : decode cX9_drawn 33 = .ok (.i2l, 1) := by decide +kernel
theorem dX9_drawn_34 : decode cX9_drawn 34 = .ok (.lconst 1, 1) := by decide +kernel
theorem dX9_drawn_35 : decode cX9_drawn 35 = .ok (.lsub, 1) := by decide +kernel
theorem dX9_drawn_36 : decode cX9_drawn 36 = .ok (.invokestatic 181, 3) := by decide +kernel
theorem dX9_drawn_39 : decode cX9_drawn 39 = .ok (.ifCond .ne 5, 3) := by decide +kernel
theorem dX9_drawn_42 : decode cX9_drawn 42 = .ok (.iconst (-1), 1) := by decide +kernel
theorem dX9_drawn_43 : decode cX9_drawn 43 = .ok (.ireturn, 1) := by decide +kernel
theorem dX9_drawn_44 : decode cX9_drawn 44 = .ok (.aload_n 0, 1) := by decide +kernel
theorem dX9_drawn_45 : decode cX9_drawn 45 = .ok (.getfield 152, 3) := by decide +kernel
theorem dX9_drawn_48 : decode cX9_drawn 48 = .ok (.iload_n 2, 1) := by decide +kernel
theorem dX9_drawn_49 : decode cX9_drawn 49 = .ok (.ifCond .ne 8, 3) := by decide +kernel
theorem dX9_drawn_52 : decode cX9_drawn 52 = .ok (.bipush 17, 2) := by decide +kernel
theorem dX9_drawn_54 : decode cX9_drawn 54 = .ok (.goto 5, 3) := by decide +kernel
theorem dX9_drawn_57 : decode cX9_drawn 57 = .ok (.bipush 21, 2) := by decide +kernel
theorem dX9_drawn_59 : decode cX9_drawn 59 = .ok (.bipush 7, 2) := by decide +kernel
theorem dX9_drawn_61 : decode cX9_drawn 61 = .ok (.isub, 1) := by decide +kernel
theorem dX9_drawn_62 : decode cX9_drawn 62 = .ok (.iload_n 1, 1) := by decide +kernel
theorem dX9_drawn_63 : decode cX9_drawn 63 = .ok (.iadd, 1) := by decide +kernel
theorem dX9_drawn_64 : decode cX9_drawn 64 = .ok (.iaload, 1) := by decide +kernel
theorem dX9_drawn_65 : decode cX9_drawn 65 = .ok (.ireturn, 1) := by decide +kernel
theorem dX9_count_0 : decode cX9_count 0 = .ok (.aload_n 0, 1) := by decide +kernel
theorem dX9_count_1 : decode cX9_count 1 = .ok (.iconst 0, 1) := by decide +kernel
theorem dX9_count_2 : decode cX9_count 2 = .ok (.putfield 161, 3) := by decide +kernel
theorem dX9_count_5 : decode cX9_count 5 = .ok (.iload_n 1, 1) := by decide +kernel
theorem dX9_count_6 : decode cX9_count 6 = .ok (.tableswitch 178 0 14 #[74, 81, 88, 95, 102, 110, 117, 124, 129, 134, 141, 148, 155, 162, 170], 74) := by decide +kernel
theorem dX9_count_80 : decode cX9_count 80 = .ok (.aload_n 0, 1) := by decide +kernel
theorem dX9_count_81 : decode cX9_count 81 = .ok (.getfield 13, 3) := by decide +kernel
theorem dX9_count_84 : decode cX9_count 84 = .ok (.iconst 0, 1) := by decide +kernel
theorem dX9_count_85 : decode cX9_count 85 = .ok (.iaload, 1) := by decide +kernel
theorem dX9_count_86 : decode cX9_count 86 = .ok (.ireturn, 1) := by decide +kernel
theorem dX9_count_87 : decode cX9_count 87 = .ok (.aload_n 0, 1) := by decide +kernel
theorem dX9_count_88 : decode cX9_count 88 = .ok (.getfield 13, 3) := by decide +kernel
theorem dX9_count_91 : decode cX9_count 91 = .ok (.iconst 1, 1) := by decide +kernel
theorem dX9_count_92 : decode cX9_count 92 = .ok (.iaload, 1) := by decide +kernel
theorem dX9_count_93 : decode cX9_count 93 = .ok (.ireturn, 1) := by decide +kernel
theorem dX9_count_94 : decode cX9_count 94 = .ok (.aload_n 0, 1) := by decide +kernel
theorem dX9_count_95 : decode cX9_count 95 = .ok (.getfield 13, 3) := by decide +kernel
theorem dX9_count_98 : decode cX9_count 98 = .ok (.iconst 2, 1) := by decide +kernel
theorem dX9_count_99 : decode cX9_count 99 = .ok (.iaload, 1) := by decide +kernel
theorem dX9_count_100 : decode cX9_count 100 = .ok (.ireturn, 1) := by decide +kernel
theorem dX9_count_101 : decode cX9_count 101 = .ok (.aload_n 0, 1) := by decide +kernel
theorem dX9_count_102 : decode cX9_count 102 = .ok (.getfield 13, 3) := by decide +kernel
theorem dX9_count_105 : decode cX9_count 105 = .ok (.iconst 3, 1) := by decide +kernel
theorem dX9_count_106 : decode cX9_count 106 = .ok (.iaload, 1) := by decide +kernel
theorem dX9_count_107 : decode cX9_count 107 = .ok (.ireturn, 1) := by decide +kernel
theorem dX9_count_108 : decode cX9_count 108 = .ok (.aload_n 0, 1) := by decide +kernel
theorem dX9_count_109 : decode cX9_count 109 = .ok (.getfield 13, 3) := by decide +kernel
theorem dX9_count_112 : decode cX9_count 112 = .ok (.bipush 10, 2) := by decide +kernel
theorem dX9_count_114 : decode cX9_count 114 = .ok (.iaload, 1) := by decide +kernel
theorem dX9_count_115 : decode cX9_count 115 = .ok (.ireturn, 1) := by decide +kernel
theorem dX9_count_116 : decode cX9_count 116 = .ok (.aload_n 0, 1) := by decide +kernel
theorem dX9_count_117 : decode cX9_count 117 = .ok (.getfield 13, 3) := by decide +kernel
theorem dX9_count_120 : decode cX9_count 120 = .ok (.iconst 4, 1) := by decide +kernel
theorem dX9_count_121 : decode cX9_count 121 = .ok (.iaload, 1) := by decide +kernel
theorem dX9_count_122 : decode cX9_count 122 = .ok (.ireturn, 1) := by decide +kernel
theorem dX9_count_123 : decode cX9_count 123 = .ok (.aload_n 0, 1) := by decide +kernel
theorem dX9_count_124 : decode cX9_count 124 = .ok (.getfield 13, 3) := by decide +kernel
theorem dX9_count_127 : decode cX9_count 127 = .ok (.iconst 5, 1) := by decide +kernel
theorem dX9_count_128 : decode cX9_count 128 = .ok (.iaload, 1) := by decide +kernel
theorem dX9_count_129 : decode cX9_count 129 = .ok (.ireturn, 1) := by decide +kernel
theorem dX9_count_130 : decode cX9_count 130 = .ok (.aload_n 0, 1) := by decide +kernel
theorem dX9_count_131 : decode cX9_count 131 = .ok (.getfield 167, 3) := by decide +kernel
theorem dX9_count_134 : decode cX9_count 134 = .ok (.ireturn, 1) := by decide +kernel
theorem dX9_count_135 : decode cX9_count 135 = .ok (.aload_n 0, 1) := by decide +kernel
theorem dX9_count_136 : decode cX9_count 136 = .ok (.getfield 242, 3) := by decide +kernel
theorem dX9_count_139 : decode cX9_count 139 = .ok (.ireturn, 1) := by decide +kernel
theorem dX9_count_140 : decode cX9_count 140 = .ok (.aload_n 0, 1) := by decide +kernel
theorem dX9_count_141 : decode cX9_count 141 = .ok (.getfield 7, 3) := by decide +kernel
theorem dX9_count_144 : decode cX9_count 144 = .ok (.iconst 1, 1) := by decide +kernel
theorem dX9_count_145 : decode cX9_count 145 = .ok (.iaload, 1) := by decide +kernel
theorem dX9_count_146 : decode cX9_count 146 = .ok (.ireturn, 1) := by decide +kernel
theorem dX9_count_147 : decode cX9_count 147 = .ok (.aload_n 0, 1) := by decide +kernel
theorem dX9_count_148 : decode cX9_count 148 = .ok (.getfield 7, 3) := by decide +kernel
theorem dX9_count_151 : decode cX9_count 151 = .ok (.iconst 2, 1) := by decide +kernel
theorem dX9_count_152 : decode cX9_count 152 = .ok (.iaload, 1) := by decide +kernel
theorem dX9_count_153 : decode cX9_count 153 = .ok (.ireturn, 1) := by decide +kernel
theorem dX9_count_154 : decode cX9_count 154 = .ok (.aload_n 0, 1) := by decide +kernel
theorem dX9_count_155 : decode cX9_count 155 = .ok (.getfield 7, 3) := by decide +kernel
theorem dX9_count_158 : decode cX9_count 158 = .ok (.iconst 3, 1) := by decide +kernel
theorem dX9_count_159 : decode cX9_count 159 = .ok (.iaload, 1) := by decide +kernel
theorem dX9_count_160 : decode cX9_count 160 = .ok (.ireturn, 1) := by decide +kernel
theorem dX9_count_161 : decode cX9_count 161 = .ok (.aload_n 0, 1) := by decide +kernel
theorem dX9_count_162 : decode cX9_count 162 = .ok (.getfield 7, 3) := by decide +kernel
theorem dX9_count_165 : decode cX9_count 165 = .ok (.iconst 5, 1) := by decide +kernel
theorem dX9_count_166 : decode cX9_count 166 = .ok (.iaload, 1) := by decide +kernel
theorem dX9_count_167 : decode cX9_count 167 = .ok (.ireturn, 1) := by decide +kernel
theorem dX9_count_168 : decode cX9_count 168 = .ok (.aload_n 0, 1) := by decide +kernel
theorem dX9_count_169 : decode cX9_count 169 = .ok (.getfield 7, 3) := by decide +kernel
theorem dX9_count_172 : decode cX9_count 172 = .ok (.bipush 6, 2) := by decide +kernel
theorem dX9_count_174 : decode cX9_count 174 = .ok (.iaload, 1) := by decide +kernel
theorem dX9_count_175 : decode cX9_count 175 = .ok (.ireturn, 1) := by decide +kernel
theorem dX9_count_176 : decode cX9_count 176 = .ok (.aload_n 0, 1) := by decide +kernel
theorem dX9_count_177 : decode cX9_count 177 = .ok (.getfield 13, 3) := by decide +kernel
theorem dX9_count_180 : decode cX9_count 180 = .ok (.bipush 6, 2) := by decide +kernel
theorem dX9_count_182 : decode cX9_count 182 = .ok (.iaload, 1) := by decide +kernel
theorem dX9_count_183 : decode cX9_count 183 = .ok (.ireturn, 1) := by decide +kernel
theorem dX9_count_184 : decode cX9_count 184 = .ok (.iload_n 1, 1) := by decide +kernel
theorem dX9_count_185 : decode cX9_count 185 = .ok (.i2l, 1) := by decide +kernel
theorem dX9_count_186 : decode cX9_count 186 = .ok (.ldc2_w 543, 3) := by decide +kernel
theorem dX9_count_189 : decode cX9_count 189 = .ok (.ldc2_w 545, 3) := by decide +kernel
theorem dX9_count_192 : decode cX9_count 192 = .ok (.invokestatic 181, 3) := by decide +kernel
theorem dX9_count_195 : decode cX9_count 195 = .ok (.ifCond .eq 18, 3) := by decide +kernel
theorem dX9_count_198 : decode cX9_count 198 = .ok (.aload_n 0, 1) := by decide +kernel
theorem dX9_count_199 : decode cX9_count 199 = .ok (.getfield 13, 3) := by decide +kernel
theorem dX9_count_202 : decode cX9_count 202 = .ok (.bipush 7, 2) := by decide +kernel
theorem dX9_count_204 : decode cX9_count 204 = .ok (.iload_n 1, 1) := by decide +kernel
theorem dX9_count_205 : decode cX9_count 205 = .ok (.iadd, 1) := by decide +kernel
theorem dX9_count_206 : decode cX9_count 206 = .ok (.bipush 15, 2) := by decide +kernel
theorem dX9_count_208 : decode cX9_count 208 = .ok (.isub, 1) := by decide +kernel
theorem dX9_count_209 : decode cX9_count 209 = .ok (.iaload, 1) := by decide +kernel
theorem dX9_count_210 : decode cX9_count 210 = .ok (.goto 4, 3) := by decide +kernel
theorem dX9_count_213 : decode cX9_count 213 = .ok (.iconst (-1), 1) := by decide +kernel
theorem dX9_count_214 : decode cX9_count 214 = .ok (.ireturn, 1) := by decide +kernel
theorem dX9_status_0 : decode cX9_status 0 = .ok (.aload_n 0, 1) := by decide +kernel
theorem dX9_status_1 : decode cX9_status 1 = .ok (.iconst 0, 1) := by decide +kernel
theorem dX9_status_2 : decode cX9_status 2 = .ok (.putfield 161, 3) := by decide +kernel
theorem dX9_status_5 : decode cX9_status 5 = .ok (.aload_n 0, 1) := by decide +kernel
theorem dX9_status_6 : decode cX9_status 6 = .ok (.getfield 164, 3) := by decide +kernel
theorem dX9_status_9 : decode cX9_status 9 = .ok (.ireturn, 1) := by decide +kernel
