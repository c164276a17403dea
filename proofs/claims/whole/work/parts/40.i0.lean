theorem cd_i0_0 : cd_I 0 0 = some (.new 8, 0, 0) := by decide +kernel
theorem cd_i0_3 : cd_I 0 3 = some (.dup, 0, 0) := by decide +kernel
theorem cd_i0_4 : cd_I 0 4 = some (.invokespecial 31, 1, 0) := by decide +kernel
theorem cd_i0_7 : cd_I 0 7 = some (.astore_n 1, 0, 0) := by decide +kernel
theorem cd_i0_8 : cd_I 0 8 = some (.new 32, 11, 0) := by decide +kernel
theorem cd_i0_11 : cd_I 0 11 = some (.dup, 0, 0) := by decide +kernel
theorem cd_i0_12 : cd_I 0 12 = some (.invokespecial 34, 98, 0) := by decide +kernel
theorem cd_i0_15 : cd_I 0 15 = some (.astore_n 2, 0, 0) := by decide +kernel
theorem cd_i0_16 : cd_I 0 16 = some (.iconst 1, 0, 0) := by decide +kernel
theorem cd_i0_17 : cd_I 0 17 = some (.newarray .long, 0, 0) := by decide +kernel
theorem cd_i0_19 : cd_I 0 19 = some (.astore_n 3, 0, 0) := by decide +kernel
theorem cd_i0_20 : cd_I 0 20 = some (.iconst 0, 0, 0) := by decide +kernel
theorem cd_i0_21 : cd_I 0 21 = some (.istore 4, 0, 0) := by decide +kernel
theorem cd_i0_23 : cd_I 0 23 = some (.iload 4, 0, 0) := by decide +kernel
theorem cd_i0_25 : cd_I 0 25 = some (.aload_n 0, 0, 0) := by decide +kernel
theorem cd_i0_26 : cd_I 0 26 = some (.arraylength, 0, 0) := by decide +kernel
theorem cd_i0_27 : cd_I 0 27 = some (.iconst 3, 0, 0) := by decide +kernel
theorem cd_i0_28 : cd_I 0 28 = some (.isub, 0, 0) := by decide +kernel
theorem cd_i0_29 : cd_I 0 29 = some (.if_icmp .gt 551, 580, 0) := by decide +kernel
theorem cd_i0_32 : cd_I 0 32 = some (.aload_n 0, 0, 0) := by decide +kernel
theorem cd_i0_33 : cd_I 0 33 = some (.iload 4, 0, 0) := by decide +kernel
theorem cd_i0_35 : cd_I 0 35 = some (.iaload, 0, 0) := by decide +kernel
theorem cd_i0_36 : cd_I 0 36 = some (.bipush 15, 0, 0) := by decide +kernel
theorem cd_i0_38 : cd_I 0 38 = some (.iand, 0, 0) := by decide +kernel
theorem cd_i0_39 : cd_I 0 39 = some (.tableswitch 535 0 12 #[65, 102, 146, 190, 201, 237, 305, 349, 362, 399, 436, 473, 498], 0, 0) := by decide +kernel
theorem cd_i0_104 : cd_I 0 104 = some (.aload_n 1, 0, 0) := by decide +kernel
theorem cd_i0_105 : cd_I 0 105 = some (.aload_n 0, 0, 0) := by decide +kernel
theorem cd_i0_106 : cd_I 0 106 = some (.iload 4, 0, 0) := by decide +kernel
theorem cd_i0_108 : cd_I 0 108 = some (.iconst 1, 0, 0) := by decide +kernel
theorem cd_i0_109 : cd_I 0 109 = some (.iadd, 0, 0) := by decide +kernel
theorem cd_i0_110 : cd_I 0 110 = some (.iaload, 0, 0) := by decide +kernel
theorem cd_i0_111 : cd_I 0 111 = some (.aload_n 0, 0, 0) := by decide +kernel
theorem cd_i0_112 : cd_I 0 112 = some (.iload 4, 0, 0) := by decide +kernel
theorem cd_i0_114 : cd_I 0 114 = some (.iconst 2, 0, 0) := by decide +kernel
theorem cd_i0_115 : cd_I 0 115 = some (.iadd, 0, 0) := by decide +kernel
theorem cd_i0_116 : cd_I 0 116 = some (.iaload, 0, 0) := by decide +kernel
theorem cd_i0_117 : cd_I 0 117 = some (.invokevirtual 35, 10, 2) := by decide +kernel
theorem cd_i0_120 : cd_I 0 120 = some (.aload_n 2, 0, 0) := by decide +kernel
theorem cd_i0_121 : cd_I 0 121 = some (.aload_n 0, 0, 0) := by decide +kernel
theorem cd_i0_122 : cd_I 0 122 = some (.iload 4, 0, 0) := by decide +kernel
theorem cd_i0_124 : cd_I 0 124 = some (.iconst 1, 0, 0) := by decide +kernel
theorem cd_i0_125 : cd_I 0 125 = some (.iadd, 0, 0) := by decide +kernel
theorem cd_i0_126 : cd_I 0 126 = some (.iaload, 0, 0) := by decide +kernel
theorem cd_i0_127 : cd_I 0 127 = some (.aload_n 0, 0, 0) := by decide +kernel
theorem cd_i0_128 : cd_I 0 128 = some (.iload 4, 0, 0) := by decide +kernel
theorem cd_i0_130 : cd_I 0 130 = some (.iconst 2, 0, 0) := by decide +kernel
theorem cd_i0_131 : cd_I 0 131 = some (.iadd, 0, 0) := by decide +kernel
theorem cd_i0_132 : cd_I 0 132 = some (.iaload, 0, 0) := by decide +kernel
theorem cd_i0_133 : cd_I 0 133 = some (.invokevirtual 39, 100, 2) := by decide +kernel
theorem cd_i0_136 : cd_I 0 136 = some (.if_icmp .eq 438, 574, 0) := by decide +kernel
theorem cd_i0_139 : cd_I 0 139 = some (.iconst 0, 0, 0) := by decide +kernel
theorem cd_i0_140 : cd_I 0 140 = some (.ireturn, 0, 0) := by decide +kernel
theorem cd_i0_141 : cd_I 0 141 = some (.aload_n 1, 0, 0) := by decide +kernel
theorem cd_i0_142 : cd_I 0 142 = some (.aload_n 3, 0, 0) := by decide +kernel
theorem cd_i0_143 : cd_I 0 143 = some (.invokestatic 40, 157, 2) := by decide +kernel
theorem cd_i0_146 : cd_I 0 146 = some (.istore 5, 0, 0) := by decide +kernel
theorem cd_i0_148 : cd_I 0 148 = some (.aload_n 2, 0, 0) := by decide +kernel
theorem cd_i0_149 : cd_I 0 149 = some (.invokevirtual 45, 102, 0) := by decide +kernel
theorem cd_i0_152 : cd_I 0 152 = some (.istore 6, 0, 0) := by decide +kernel
theorem cd_i0_154 : cd_I 0 154 = some (.aload_n 2, 0, 0) := by decide +kernel
theorem cd_i0_155 : cd_I 0 155 = some (.invokevirtual 46, 99, 0) := by decide +kernel
theorem cd_i0_158 : cd_I 0 158 = some (.iload 5, 0, 0) := by decide +kernel
theorem cd_i0_160 : cd_I 0 160 = some (.if_icmp .eq 5, 165, 0) := by decide +kernel
theorem cd_i0_163 : cd_I 0 163 = some (.iconst 0, 0, 0) := by decide +kernel
theorem cd_i0_164 : cd_I 0 164 = some (.ireturn, 0, 0) := by decide +kernel
theorem cd_i0_165 : cd_I 0 165 = some (.iload 5, 0, 0) := by decide +kernel
theorem cd_i0_167 : cd_I 0 167 = some (.ifCond .ne 15, 182, 0) := by decide +kernel
theorem cd_i0_170 : cd_I 0 170 = some (.aload_n 3, 0, 0) := by decide +kernel
theorem cd_i0_171 : cd_I 0 171 = some (.iconst 0, 0, 0) := by decide +kernel
theorem cd_i0_172 : cd_I 0 172 = some (.laload, 0, 0) := by decide +kernel
theorem cd_i0_173 : cd_I 0 173 = some (.iload 6, 0, 0) := by decide +kernel
theorem cd_i0_175 : cd_I 0 175 = some (.i2l, 0, 0) := by decide +kernel
theorem cd_i0_176 : cd_I 0 176 = some (.lcmp, 0, 0) := by decide +kernel
theorem cd_i0_177 : cd_I 0 177 = some (.ifCond .eq 5, 182, 0) := by decide +kernel
theorem cd_i0_180 : cd_I 0 180 = some (.iconst 0, 0, 0) := by decide +kernel
theorem cd_i0_181 : cd_I 0 181 = some (.ireturn, 0, 0) := by decide +kernel
theorem cd_i0_182 : cd_I 0 182 = some (.goto 392, 574, 0) := by decide +kernel
theorem cd_i0_185 : cd_I 0 185 = some (.aload_n 1, 0, 0) := by decide +kernel
theorem cd_i0_186 : cd_I 0 186 = some (.aload_n 3, 0, 0) := by decide +kernel
theorem cd_i0_187 : cd_I 0 187 = some (.invokestatic 49, 158, 2) := by decide +kernel
theorem cd_i0_190 : cd_I 0 190 = some (.istore 5, 0, 0) := by decide +kernel
theorem cd_i0_192 : cd_I 0 192 = some (.aload_n 2, 0, 0) := by decide +kernel
theorem cd_i0_193 : cd_I 0 193 = some (.invokevirtual 51, 123, 0) := by decide +kernel
theorem cd_i0_196 : cd_I 0 196 = some (.istore 6, 0, 0) := by decide +kernel
theorem cd_i0_198 : cd_I 0 198 = some (.aload_n 2, 0, 0) := by decide +kernel
theorem cd_i0_199 : cd_I 0 199 = some (.invokevirtual 46, 99, 0) := by decide +kernel
theorem cd_i0_202 : cd_I 0 202 = some (.iload 5, 0, 0) := by decide +kernel
theorem cd_i0_204 : cd_I 0 204 = some (.if_icmp .eq 5, 209, 0) := by decide +kernel
theorem cd_i0_207 : cd_I 0 207 = some (.iconst 0, 0, 0) := by decide +kernel
theorem cd_i0_208 : cd_I 0 208 = some (.ireturn, 0, 0) := by decide +kernel
theorem cd_i0_209 : cd_I 0 209 = some (.iload 5, 0, 0) := by decide +kernel
theorem cd_i0_211 : cd_I 0 211 = some (.ifCond .ne 15, 226, 0) := by decide +kernel
theorem cd_i0_214 : cd_I 0 214 = some (.aload_n 3, 0, 0) := by decide +kernel
theorem cd_i0_215 : cd_I 0 215 = some (.iconst 0, 0, 0) := by decide +kernel
theorem cd_i0_216 : cd_I 0 216 = some (.laload, 0, 0) := by decide +kernel
theorem cd_i0_217 : cd_I 0 217 = some (.iload 6, 0, 0) := by decide +kernel
theorem cd_i0_219 : cd_I 0 219 = some (.i2l, 0, 0) := by decide +kernel
theorem cd_i0_220 : cd_I 0 220 = some (.lcmp, 0, 0) := by decide +kernel
theorem cd_i0_221 : cd_I 0 221 = some (.ifCond .eq 5, 226, 0) := by decide +kernel
theorem cd_i0_224 : cd_I 0 224 = some (.iconst 0, 0, 0) := by decide +kernel
theorem cd_i0_225 : cd_I 0 225 = some (.ireturn, 0, 0) := by decide +kernel
theorem cd_i0_226 : cd_I 0 226 = some (.goto 348, 574, 0) := by decide +kernel
theorem cd_i0_229 : cd_I 0 229 = some (.aload_n 1, 0, 0) := by decide +kernel
theorem cd_i0_230 : cd_I 0 230 = some (.invokevirtual 52, 12, 0) := by decide +kernel
theorem cd_i0_233 : cd_I 0 233 = some (.aload_n 2, 0, 0) := by decide +kernel
theorem cd_i0_234 : cd_I 0 234 = some (.invokevirtual 55, 125, 0) := by decide +kernel
theorem cd_i0_237 : cd_I 0 237 = some (.goto 337, 574, 0) := by decide +kernel
theorem cd_i0_240 : cd_I 0 240 = some (.aload_n 1, 0, 0) := by decide +kernel
theorem cd_i0_241 : cd_I 0 241 = some (.aload_n 0, 0, 0) := by decide +kernel
theorem cd_i0_242 : cd_I 0 242 = some (.iload 4, 0, 0) := by decide +kernel
theorem cd_i0_244 : cd_I 0 244 = some (.iconst 1, 0, 0) := by decide +kernel
theorem cd_i0_245 : cd_I 0 245 = some (.iadd, 0, 0) := by decide +kernel
theorem cd_i0_246 : cd_I 0 246 = some (.iaload, 0, 0) := by decide +kernel
theorem cd_i0_247 : cd_I 0 247 = some (.invokestatic 56, 159, 2) := by decide +kernel
theorem cd_i0_250 : cd_I 0 250 = some (.istore 5, 0, 0) := by decide +kernel
theorem cd_i0_252 : cd_I 0 252 = some (.aload_n 2, 0, 0) := by decide +kernel
theorem cd_i0_253 : cd_I 0 253 = some (.aload_n 0, 0, 0) := by decide +kernel
theorem cd_i0_254 : cd_I 0 254 = some (.iload 4, 0, 0) := by decide +kernel
theorem cd_i0_256 : cd_I 0 256 = some (.iconst 1, 0, 0) := by decide +kernel
theorem cd_i0_257 : cd_I 0 257 = some (.iadd, 0, 0) := by decide +kernel
theorem cd_i0_258 : cd_I 0 258 = some (.iaload, 0, 0) := by decide +kernel
theorem cd_i0_259 : cd_I 0 259 = some (.invokevirtual 59, 126, 1) := by decide +kernel
theorem cd_i0_262 : cd_I 0 262 = some (.aload_n 2, 0, 0) := by decide +kernel
theorem cd_i0_263 : cd_I 0 263 = some (.invokevirtual 46, 99, 0) := by decide +kernel
theorem cd_i0_266 : cd_I 0 266 = some (.iload 5, 0, 0) := by decide +kernel
theorem cd_i0_268 : cd_I 0 268 = some (.if_icmp .eq 5, 273, 0) := by decide +kernel
theorem cd_i0_271 : cd_I 0 271 = some (.iconst 0, 0, 0) := by decide +kernel
theorem cd_i0_272 : cd_I 0 272 = some (.ireturn, 0, 0) := by decide +kernel
theorem cd_i0_273 : cd_I 0 273 = some (.goto 301, 574, 0) := by decide +kernel
theorem cd_i0_276 : cd_I 0 276 = some (.aload_n 1, 0, 0) := by decide +kernel
theorem cd_i0_277 : cd_I 0 277 = some (.aload_n 0, 0, 0) := by decide +kernel
theorem cd_i0_278 : cd_I 0 278 = some (.iload 4, 0, 0) := by decide +kernel
theorem cd_i0_280 : cd_I 0 280 = some (.iconst 1, 0, 0) := by decide +kernel
theorem cd_i0_281 : cd_I 0 281 = some (.iadd, 0, 0) := by decide +kernel
theorem cd_i0_282 : cd_I 0 282 = some (.iaload, 0, 0) := by decide +kernel
theorem cd_i0_283 : cd_I 0 283 = some (.aload_n 0, 0, 0) := by decide +kernel
theorem cd_i0_284 : cd_I 0 284 = some (.iload 4, 0, 0) := by decide +kernel
theorem cd_i0_286 : cd_I 0 286 = some (.iconst 2, 0, 0) := by decide +kernel
theorem cd_i0_287 : cd_I 0 287 = some (.iadd, 0, 0) := by decide +kernel
theorem cd_i0_288 : cd_I 0 288 = some (.iaload, 0, 0) := by decide +kernel
theorem cd_i0_289 : cd_I 0 289 = some (.aload_n 3, 0, 0) := by decide +kernel
theorem cd_i0_290 : cd_I 0 290 = some (.invokestatic 60, 160, 4) := by decide +kernel
theorem cd_i0_293 : cd_I 0 293 = some (.istore 5, 0, 0) := by decide +kernel
theorem cd_i0_295 : cd_I 0 295 = some (.aload_n 2, 0, 0) := by decide +kernel
theorem cd_i0_296 : cd_I 0 296 = some (.aload_n 0, 0, 0) := by decide +kernel
theorem cd_i0_297 : cd_I 0 297 = some (.iload 4, 0, 0) := by decide +kernel
theorem cd_i0_299 : cd_I 0 299 = some (.iconst 1, 0, 0) := by decide +kernel
theorem cd_i0_300 : cd_I 0 300 = some (.iadd, 0, 0) := by decide +kernel
theorem cd_i0_301 : cd_I 0 301 = some (.iaload, 0, 0) := by decide +kernel
theorem cd_i0_302 : cd_I 0 302 = some (.aload_n 0, 0, 0) := by decide +kernel
theorem cd_i0_303 : cd_I 0 303 = some (.iload 4, 0, 0) := by decide +kernel
theorem cd_i0_305 : cd_I 0 305 = some (.iconst 2, 0, 0) := by decide +kernel
theorem cd_i0_306 : cd_I 0 306 = some (.iadd, 0, 0) := by decide +kernel
theorem cd_i0_307 : cd_I 0 307 = some (.iaload, 0, 0) := by decide +kernel
theorem cd_i0_308 : cd_I 0 308 = some (.invokevirtual 63, 130, 2) := by decide +kernel
theorem cd_i0_311 : cd_I 0 311 = some (.istore 6, 0, 0) := by decide +kernel
theorem cd_i0_313 : cd_I 0 313 = some (.aload_n 2, 0, 0) := by decide +kernel
theorem cd_i0_314 : cd_I 0 314 = some (.invokevirtual 46, 99, 0) := by decide +kernel
theorem cd_i0_317 : cd_I 0 317 = some (.iload 5, 0, 0) := by decide +kernel
theorem cd_i0_319 : cd_I 0 319 = some (.if_icmp .eq 5, 324, 0) := by decide +kernel
theorem cd_i0_322 : cd_I 0 322 = some (.iconst 0, 0, 0) := by decide +kernel
theorem cd_i0_323 : cd_I 0 323 = some (.ireturn, 0, 0) := by decide +kernel
theorem cd_i0_324 : cd_I 0 324 = some (.iload 5, 0, 0) := by decide +kernel
theorem cd_i0_326 : cd_I 0 326 = some (.ifCond .ne 15, 341, 0) := by decide +kernel
theorem cd_i0_329 : cd_I 0 329 = some (.aload_n 3, 0, 0) := by decide +kernel
theorem cd_i0_330 : cd_I 0 330 = some (.iconst 0, 0, 0) := by decide +kernel
theorem cd_i0_331 : cd_I 0 331 = some (.laload, 0, 0) := by decide +kernel
theorem cd_i0_332 : cd_I 0 332 = some (.iload 6, 0, 0) := by decide +kernel
theorem cd_i0_334 : cd_I 0 334 = some (.i2l, 0, 0) := by decide +kernel
theorem cd_i0_335 : cd_I 0 335 = some (.lcmp, 0, 0) := by decide +kernel
theorem cd_i0_336 : cd_I 0 336 = some (.ifCond .eq 5, 341, 0) := by decide +kernel
theorem cd_i0_339 : cd_I 0 339 = some (.iconst 0, 0, 0) := by decide +kernel
theorem cd_i0_340 : cd_I 0 340 = some (.ireturn, 0, 0) := by decide +kernel
theorem cd_i0_341 : cd_I 0 341 = some (.goto 233, 574, 0) := by decide +kernel
theorem cd_i0_344 : cd_I 0 344 = some (.aload_n 1, 0, 0) := by decide +kernel
theorem cd_i0_345 : cd_I 0 345 = some (.aload_n 3, 0, 0) := by decide +kernel
theorem cd_i0_346 : cd_I 0 346 = some (.invokestatic 64, 161, 2) := by decide +kernel
theorem cd_i0_349 : cd_I 0 349 = some (.istore 5, 0, 0) := by decide +kernel
theorem cd_i0_351 : cd_I 0 351 = some (.aload_n 2, 0, 0) := by decide +kernel
theorem cd_i0_352 : cd_I 0 352 = some (.invokevirtual 66, 146, 0) := by decide +kernel
theorem cd_i0_355 : cd_I 0 355 = some (.istore 6, 0, 0) := by decide +kernel
theorem cd_i0_357 : cd_I 0 357 = some (.aload_n 2, 0, 0) := by decide +kernel
theorem cd_i0_358 : cd_I 0 358 = some (.invokevirtual 46, 99, 0) := by decide +kernel
theorem cd_i0_361 : cd_I 0 361 = some (.iload 5, 0, 0) := by decide +kernel
theorem cd_i0_363 : cd_I 0 363 = some (.if_icmp .eq 5, 368, 0) := by decide +kernel
theorem cd_i0_366 : cd_I 0 366 = some (.iconst 0, 0, 0) := by decide +kernel
theorem cd_i0_367 : cd_I 0 367 = some (.ireturn, 0, 0) := by decide +kernel
theorem cd_i0_368 : cd_I 0 368 = some (.iload 5, 0, 0) := by decide +kernel
theorem cd_i0_370 : cd_I 0 370 = some (.ifCond .ne 15, 385, 0) := by decide +kernel
theorem cd_i0_373 : cd_I 0 373 = some (.aload_n 3, 0, 0) := by decide +kernel
theorem cd_i0_374 : cd_I 0 374 = some (.iconst 0, 0, 0) := by decide +kernel
theorem cd_i0_375 : cd_I 0 375 = some (.laload, 0, 0) := by decide +kernel
theorem cd_i0_376 : cd_I 0 376 = some (.iload 6, 0, 0) := by decide +kernel
theorem cd_i0_378 : cd_I 0 378 = some (.i2l, 0, 0) := by decide +kernel
theorem cd_i0_379 : cd_I 0 379 = some (.lcmp, 0, 0) := by decide +kernel
theorem cd_i0_380 : cd_I 0 380 = some (.ifCond .eq 5, 385, 0) := by decide +kernel
theorem cd_i0_383 : cd_I 0 383 = some (.iconst 0, 0, 0) := by decide +kernel
theorem cd_i0_384 : cd_I 0 384 = some (.ireturn, 0, 0) := by decide +kernel
theorem cd_i0_385 : cd_I 0 385 = some (.goto 189, 574, 0) := by decide +kernel
theorem cd_i0_388 : cd_I 0 388 = some (.aload_n 1, 0, 0) := by decide +kernel
theorem cd_i0_389 : cd_I 0 389 = some (.invokevirtual 67, 13, 0) := by decide +kernel
theorem cd_i0_392 : cd_I 0 392 = some (.aload_n 2, 0, 0) := by decide +kernel
theorem cd_i0_393 : cd_I 0 393 = some (.invokevirtual 70, 152, 0) := by decide +kernel
theorem cd_i0_396 : cd_I 0 396 = some (.if_icmp .eq 178, 574, 0) := by decide +kernel
theorem cd_i0_399 : cd_I 0 399 = some (.iconst 0, 0, 0) := by decide +kernel
theorem cd_i0_400 : cd_I 0 400 = some (.ireturn, 0, 0) := by decide +kernel
theorem cd_i0_401 : cd_I 0 401 = some (.aload_n 1, 0, 0) := by decide +kernel
theorem cd_i0_402 : cd_I 0 402 = some (.aload_n 0, 0, 0) := by decide +kernel
theorem cd_i0_403 : cd_I 0 403 = some (.iload 4, 0, 0) := by decide +kernel
theorem cd_i0_405 : cd_I 0 405 = some (.iconst 1, 0, 0) := by decide +kernel
theorem cd_i0_406 : cd_I 0 406 = some (.iadd, 0, 0) := by decide +kernel
theorem cd_i0_407 : cd_I 0 407 = some (.iaload, 0, 0) := by decide +kernel
theorem cd_i0_408 : cd_I 0 408 = some (.aload_n 0, 0, 0) := by decide +kernel
theorem cd_i0_409 : cd_I 0 409 = some (.iload 4, 0, 0) := by decide +kernel
theorem cd_i0_411 : cd_I 0 411 = some (.iconst 2, 0, 0) := by decide +kernel
theorem cd_i0_412 : cd_I 0 412 = some (.iadd, 0, 0) := by decide +kernel
theorem cd_i0_413 : cd_I 0 413 = some (.iaload, 0, 0) := by decide +kernel
theorem cd_i0_414 : cd_I 0 414 = some (.invokevirtual 71, 14, 2) := by decide +kernel
theorem cd_i0_417 : cd_I 0 417 = some (.aload_n 2, 0, 0) := by decide +kernel
theorem cd_i0_418 : cd_I 0 418 = some (.aload_n 0, 0, 0) := by decide +kernel
theorem cd_i0_419 : cd_I 0 419 = some (.iload 4, 0, 0) := by decide +kernel
theorem cd_i0_421 : cd_I 0 421 = some (.iconst 1, 0, 0) := by decide +kernel
theorem cd_i0_422 : cd_I 0 422 = some (.iadd, 0, 0) := by decide +kernel
theorem cd_i0_423 : cd_I 0 423 = some (.iaload, 0, 0) := by decide +kernel
theorem cd_i0_424 : cd_I 0 424 = some (.aload_n 0, 0, 0) := by decide +kernel
theorem cd_i0_425 : cd_I 0 425 = some (.iload 4, 0, 0) := by decide +kernel
theorem cd_i0_427 : cd_I 0 427 = some (.iconst 2, 0, 0) := by decide +kernel
theorem cd_i0_428 : cd_I 0 428 = some (.iadd, 0, 0) := by decide +kernel
theorem cd_i0_429 : cd_I 0 429 = some (.iaload, 0, 0) := by decide +kernel
theorem cd_i0_430 : cd_I 0 430 = some (.invokevirtual 74, 127, 2) := by decide +kernel
theorem cd_i0_433 : cd_I 0 433 = some (.if_icmp .eq 141, 574, 0) := by decide +kernel
theorem cd_i0_436 : cd_I 0 436 = some (.iconst 0, 0, 0) := by decide +kernel
theorem cd_i0_437 : cd_I 0 437 = some (.ireturn, 0, 0) := by decide +kernel
theorem cd_i0_438 : cd_I 0 438 = some (.aload_n 1, 0, 0) := by decide +kernel
theorem cd_i0_439 : cd_I 0 439 = some (.aload_n 0, 0, 0) := by decide +kernel
theorem cd_i0_440 : cd_I 0 440 = some (.iload 4, 0, 0) := by decide +kernel
theorem cd_i0_442 : cd_I 0 442 = some (.iconst 1, 0, 0) := by decide +kernel
theorem cd_i0_443 : cd_I 0 443 = some (.iadd, 0, 0) := by decide +kernel
theorem cd_i0_444 : cd_I 0 444 = some (.iaload, 0, 0) := by decide +kernel
theorem cd_i0_445 : cd_I 0 445 = some (.aload_n 0, 0, 0) := by decide +kernel
theorem cd_i0_446 : cd_I 0 446 = some (.iload 4, 0, 0) := by decide +kernel
theorem cd_i0_448 : cd_I 0 448 = some (.iconst 2, 0, 0) := by decide +kernel
theorem cd_i0_449 : cd_I 0 449 = some (.iadd, 0, 0) := by decide +kernel
theorem cd_i0_450 : cd_I 0 450 = some (.iaload, 0, 0) := by decide +kernel
theorem cd_i0_451 : cd_I 0 451 = some (.invokevirtual 75, 17, 2) := by decide +kernel
theorem cd_i0_454 : cd_I 0 454 = some (.aload_n 2, 0, 0) := by decide +kernel
theorem cd_i0_455 : cd_I 0 455 = some (.aload_n 0, 0, 0) := by decide +kernel
theorem cd_i0_456 : cd_I 0 456 = some (.iload 4, 0, 0) := by decide +kernel
theorem cd_i0_458 : cd_I 0 458 = some (.iconst 1, 0, 0) := by decide +kernel
theorem cd_i0_459 : cd_I 0 459 = some (.iadd, 0, 0) := by decide +kernel
theorem cd_i0_460 : cd_I 0 460 = some (.iaload, 0, 0) := by decide +kernel
theorem cd_i0_461 : cd_I 0 461 = some (.aload_n 0, 0, 0) := by decide +kernel
theorem cd_i0_462 : cd_I 0 462 = some (.iload 4, 0, 0) := by decide +kernel
theorem cd_i0_464 : cd_I 0 464 = some (.iconst 2, 0, 0) := by decide +kernel
theorem cd_i0_465 : cd_I 0 465 = some (.iadd, 0, 0) := by decide +kernel
theorem cd_i0_466 : cd_I 0 466 = some (.iaload, 0, 0) := by decide +kernel
theorem cd_i0_467 : cd_I 0 467 = some (.invokevirtual 78, 153, 2) := by decide +kernel
theorem cd_i0_470 : cd_I 0 470 = some (.if_icmp .eq 104, 574, 0) := by decide +kernel
theorem cd_i0_473 : cd_I 0 473 = some (.iconst 0, 0, 0) := by decide +kernel
theorem cd_i0_474 : cd_I 0 474 = some (.ireturn, 0, 0) := by decide +kernel
theorem cd_i0_475 : cd_I 0 475 = some (.aload_n 1, 0, 0) := by decide +kernel
theorem cd_i0_476 : cd_I 0 476 = some (.aload_n 0, 0, 0) := by decide +kernel
theorem cd_i0_477 : cd_I 0 477 = some (.iload 4, 0, 0) := by decide +kernel
theorem cd_i0_479 : cd_I 0 479 = some (.iconst 1, 0, 0) := by decide +kernel
theorem cd_i0_480 : cd_I 0 480 = some (.iadd, 0, 0) := by decide +kernel
theorem cd_i0_481 : cd_I 0 481 = some (.iaload, 0, 0) := by decide +kernel
theorem cd_i0_482 : cd_I 0 482 = some (.aload_n 0, 0, 0) := by decide +kernel
theorem cd_i0_483 : cd_I 0 483 = some (.iload 4, 0, 0) := by decide +kernel
theorem cd_i0_485 : cd_I 0 485 = some (.iconst 2, 0, 0) := by decide +kernel
theorem cd_i0_486 : cd_I 0 486 = some (.iadd, 0, 0) := by decide +kernel
theorem cd_i0_487 : cd_I 0 487 = some (.iaload, 0, 0) := by decide +kernel
theorem cd_i0_488 : cd_I 0 488 = some (.invokevirtual 79, 19, 2) := by decide +kernel
theorem cd_i0_491 : cd_I 0 491 = some (.aload_n 2, 0, 0) := by decide +kernel
theorem cd_i0_492 : cd_I 0 492 = some (.aload_n 0, 0, 0) := by decide +kernel
theorem cd_i0_493 : cd_I 0 493 = some (.iload 4, 0, 0) := by decide +kernel
theorem cd_i0_495 : cd_I 0 495 = some (.iconst 1, 0, 0) := by decide +kernel
theorem cd_i0_496 : cd_I 0 496 = some (.iadd, 0, 0) := by decide +kernel
theorem cd_i0_497 : cd_I 0 497 = some (.iaload, 0, 0) := by decide +kernel
theorem cd_i0_498 : cd_I 0 498 = some (.aload_n 0, 0, 0) := by decide +kernel
theorem cd_i0_499 : cd_I 0 499 = some (.iload 4, 0, 0) := by decide +kernel
theorem cd_i0_501 : cd_I 0 501 = some (.iconst 2, 0, 0) := by decide +kernel
theorem cd_i0_502 : cd_I 0 502 = some (.iadd, 0, 0) := by decide +kernel
theorem cd_i0_503 : cd_I 0 503 = some (.iaload, 0, 0) := by decide +kernel
theorem cd_i0_504 : cd_I 0 504 = some (.invokevirtual 82, 154, 2) := by decide +kernel
theorem cd_i0_507 : cd_I 0 507 = some (.if_icmp .eq 67, 574, 0) := by decide +kernel
theorem cd_i0_510 : cd_I 0 510 = some (.iconst 0, 0, 0) := by decide +kernel
theorem cd_i0_511 : cd_I 0 511 = some (.ireturn, 0, 0) := by decide +kernel
theorem cd_i0_512 : cd_I 0 512 = some (.aload_n 1, 0, 0) := by decide +kernel
theorem cd_i0_513 : cd_I 0 513 = some (.aload_n 0, 0, 0) := by decide +kernel
theorem cd_i0_514 : cd_I 0 514 = some (.iload 4, 0, 0) := by decide +kernel
theorem cd_i0_516 : cd_I 0 516 = some (.iconst 1, 0, 0) := by decide +kernel
theorem cd_i0_517 : cd_I 0 517 = some (.iadd, 0, 0) := by decide +kernel
theorem cd_i0_518 : cd_I 0 518 = some (.iaload, 0, 0) := by decide +kernel
theorem cd_i0_519 : cd_I 0 519 = some (.invokevirtual 83, 21, 1) := by decide +kernel
theorem cd_i0_522 : cd_I 0 522 = some (.aload_n 2, 0, 0) := by decide +kernel
theorem cd_i0_523 : cd_I 0 523 = some (.aload_n 0, 0, 0) := by decide +kernel
theorem cd_i0_524 : cd_I 0 524 = some (.iload 4, 0, 0) := by decide +kernel
theorem cd_i0_526 : cd_I 0 526 = some (.iconst 1, 0, 0) := by decide +kernel
theorem cd_i0_527 : cd_I 0 527 = some (.iadd, 0, 0) := by decide +kernel
theorem cd_i0_528 : cd_I 0 528 = some (.iaload, 0, 0) := by decide +kernel
theorem cd_i0_529 : cd_I 0 529 = some (.invokevirtual 87, 155, 1) := by decide +kernel
theorem cd_i0_532 : cd_I 0 532 = some (.if_icmp .eq 42, 574, 0) := by decide +kernel
theorem cd_i0_535 : cd_I 0 535 = some (.iconst 0, 0, 0) := by decide +kernel
theorem cd_i0_536 : cd_I 0 536 = some (.ireturn, 0, 0) := by decide +kernel
theorem cd_i0_537 : cd_I 0 537 = some (.aload_n 1, 0, 0) := by decide +kernel
theorem cd_i0_538 : cd_I 0 538 = some (.aload_n 0, 0, 0) := by decide +kernel
theorem cd_i0_539 : cd_I 0 539 = some (.iload 4, 0, 0) := by decide +kernel
theorem cd_i0_541 : cd_I 0 541 = some (.iconst 1, 0, 0) := by decide +kernel
theorem cd_i0_542 : cd_I 0 542 = some (.iadd, 0, 0) := by decide +kernel
theorem cd_i0_543 : cd_I 0 543 = some (.iaload, 0, 0) := by decide +kernel
theorem cd_i0_544 : cd_I 0 544 = some (.aload_n 0, 0, 0) := by decide +kernel
theorem cd_i0_545 : cd_I 0 545 = some (.iload 4, 0, 0) := by decide +kernel
theorem cd_i0_547 : cd_I 0 547 = some (.iconst 2, 0, 0) := by decide +kernel
theorem cd_i0_548 : cd_I 0 548 = some (.iadd, 0, 0) := by decide +kernel
theorem cd_i0_549 : cd_I 0 549 = some (.iaload, 0, 0) := by decide +kernel
theorem cd_i0_550 : cd_I 0 550 = some (.invokevirtual 88, 23, 2) := by decide +kernel
theorem cd_i0_553 : cd_I 0 553 = some (.aload_n 2, 0, 0) := by decide +kernel
theorem cd_i0_554 : cd_I 0 554 = some (.aload_n 0, 0, 0) := by decide +kernel
theorem cd_i0_555 : cd_I 0 555 = some (.iload 4, 0, 0) := by decide +kernel
theorem cd_i0_557 : cd_I 0 557 = some (.iconst 1, 0, 0) := by decide +kernel
theorem cd_i0_558 : cd_I 0 558 = some (.iadd, 0, 0) := by decide +kernel
theorem cd_i0_559 : cd_I 0 559 = some (.iaload, 0, 0) := by decide +kernel
theorem cd_i0_560 : cd_I 0 560 = some (.aload_n 0, 0, 0) := by decide +kernel
theorem cd_i0_561 : cd_I 0 561 = some (.iload 4, 0, 0) := by decide +kernel
theorem cd_i0_563 : cd_I 0 563 = some (.iconst 2, 0, 0) := by decide +kernel
theorem cd_i0_564 : cd_I 0 564 = some (.iadd, 0, 0) := by decide +kernel
theorem cd_i0_565 : cd_I 0 565 = some (.iaload, 0, 0) := by decide +kernel
theorem cd_i0_566 : cd_I 0 566 = some (.invokevirtual 91, 156, 2) := by decide +kernel
theorem cd_i0_569 : cd_I 0 569 = some (.if_icmp .eq 5, 574, 0) := by decide +kernel
theorem cd_i0_572 : cd_I 0 572 = some (.iconst 0, 0, 0) := by decide +kernel
theorem cd_i0_573 : cd_I 0 573 = some (.ireturn, 0, 0) := by decide +kernel
theorem cd_i0_574 : cd_I 0 574 = some (.iinc 4 3, 0, 0) := by decide +kernel
theorem cd_i0_577 : cd_I 0 577 = some (.goto (-554), 23, 0) := by decide +kernel
theorem cd_i0_580 : cd_I 0 580 = some (.iconst 1, 0, 0) := by decide +kernel
theorem cd_i0_581 : cd_I 0 581 = some (.ireturn, 0, 0) := by decide +kernel
theorem cd_i1_0 : cd_I 1 0 = some (.aload_n 0, 0, 0) := by decide +kernel
theorem cd_i1_1 : cd_I 1 1 = some (.invokespecial 1, 1000, 0) := by decide +kernel
theorem cd_i1_4 : cd_I 1 4 = some (.aload_n 0, 0, 0) := by decide +kernel
theorem cd_i1_5 : cd_I 1 5 = some (.new 7, 1, 0) := by decide +kernel
theorem cd_i1_8 : cd_I 1 8 = some (.dup, 0, 0) := by decide +kernel
theorem cd_i1_9 : cd_I 1 9 = some (.invokespecial 9, 2, 0) := by decide +kernel
theorem cd_i1_12 : cd_I 1 12 = some (.putfield 10, 0, 0) := by decide +kernel
theorem cd_i1_15 : cd_I 1 15 = some (.aload_n 0, 0, 0) := by decide +kernel
theorem cd_i1_16 : cd_I 1 16 = some (.new 16, 2, 0) := by decide +kernel
theorem cd_i1_19 : cd_I 1 19 = some (.dup, 0, 0) := by decide +kernel
theorem cd_i1_20 : cd_I 1 20 = some (.invokespecial 18, 3, 0) := by decide +kernel
theorem cd_i1_23 : cd_I 1 23 = some (.putfield 19, 0, 1) := by decide +kernel
theorem cd_i1_26 : cd_I 1 26 = some (.aload_n 0, 0, 0) := by decide +kernel
theorem cd_i1_27 : cd_I 1 27 = some (.new 23, 9, 0) := by decide +kernel
theorem cd_i1_30 : cd_I 1 30 = some (.dup, 0, 0) := by decide +kernel
theorem cd_i1_31 : cd_I 1 31 = some (.invokespecial 25, 4, 0) := by decide +kernel
theorem cd_i1_34 : cd_I 1 34 = some (.putfield 26, 0, 2) := by decide +kernel
theorem cd_i1_37 : cd_I 1 37 = some (.aload_n 0, 0, 0) := by decide +kernel
theorem cd_i1_38 : cd_I 1 38 = some (.new 30, 5, 0) := by decide +kernel
theorem cd_i1_41 : cd_I 1 41 = some (.dup, 0, 0) := by decide +kernel
theorem cd_i1_42 : cd_I 1 42 = some (.aload_n 0, 0, 0) := by decide +kernel
theorem cd_i1_43 : cd_I 1 43 = some (.getfield 10, 0, 0) := by decide +kernel
theorem cd_i1_46 : cd_I 1 46 = some (.aload_n 0, 0, 0) := by decide +kernel
theorem cd_i1_47 : cd_I 1 47 = some (.getfield 19, 0, 1) := by decide +kernel
theorem cd_i1_50 : cd_I 1 50 = some (.invokespecial 32, 5, 2) := by decide +kernel
theorem cd_i1_53 : cd_I 1 53 = some (.putfield 35, 0, 3) := by decide +kernel
theorem cd_i1_56 : cd_I 1 56 = some (.aload_n 0, 0, 0) := by decide +kernel
theorem cd_i1_57 : cd_I 1 57 = some (.new 39, 6, 0) := by decide +kernel
theorem cd_i1_60 : cd_I 1 60 = some (.dup, 0, 0) := by decide +kernel
theorem cd_i1_61 : cd_I 1 61 = some (.aload_n 0, 0, 0) := by decide +kernel
theorem cd_i1_62 : cd_I 1 62 = some (.getfield 10, 0, 0) := by decide +kernel
theorem cd_i1_65 : cd_I 1 65 = some (.aload_n 0, 0, 0) := by decide +kernel
theorem cd_i1_66 : cd_I 1 66 = some (.getfield 19, 0, 1) := by decide +kernel
theorem cd_i1_69 : cd_I 1 69 = some (.aload_n 0, 0, 0) := by decide +kernel
theorem cd_i1_70 : cd_I 1 70 = some (.getfield 26, 0, 2) := by decide +kernel
theorem cd_i1_73 : cd_I 1 73 = some (.invokespecial 41, 6, 3) := by decide +kernel
theorem cd_i1_76 : cd_I 1 76 = some (.putfield 44, 0, 4) := by decide +kernel
theorem cd_i1_79 : cd_I 1 79 = some (.aload_n 0, 0, 0) := by decide +kernel
theorem cd_i1_80 : cd_I 1 80 = some (.new 48, 3, 0) := by decide +kernel
theorem cd_i1_83 : cd_I 1 83 = some (.dup, 0, 0) := by decide +kernel
theorem cd_i1_84 : cd_I 1 84 = some (.aload_n 0, 0, 0) := by decide +kernel
theorem cd_i1_85 : cd_I 1 85 = some (.getfield 19, 0, 1) := by decide +kernel
theorem cd_i1_88 : cd_I 1 88 = some (.aload_n 0, 0, 0) := by decide +kernel
theorem cd_i1_89 : cd_I 1 89 = some (.getfield 26, 0, 2) := by decide +kernel
theorem cd_i1_92 : cd_I 1 92 = some (.invokespecial 50, 7, 2) := by decide +kernel
theorem cd_i1_95 : cd_I 1 95 = some (.putfield 53, 0, 5) := by decide +kernel
theorem cd_i1_98 : cd_I 1 98 = some (.aload_n 0, 0, 0) := by decide +kernel
theorem cd_i1_99 : cd_I 1 99 = some (.iconst 0, 0, 0) := by decide +kernel
theorem cd_i1_100 : cd_I 1 100 = some (.putfield 57, 0, 6) := by decide +kernel
theorem cd_i1_103 : cd_I 1 103 = some (.return_, 0, 0) := by decide +kernel
theorem cd_i2_0 : cd_I 2 0 = some (.aload_n 0, 0, 0) := by decide +kernel
theorem cd_i2_1 : cd_I 2 1 = some (.invokespecial 3, 1000, 0) := by decide +kernel
theorem cd_i2_4 : cd_I 2 4 = some (.aload_n 0, 0, 0) := by decide +kernel
theorem cd_i2_5 : cd_I 2 5 = some (.bipush 120, 0, 0) := by decide +kernel
theorem cd_i2_7 : cd_I 2 7 = some (.newarray .char, 0, 0) := by decide +kernel
theorem cd_i2_9 : cd_I 2 9 = some (.putfield 9, 1, 0) := by decide +kernel
theorem cd_i2_12 : cd_I 2 12 = some (.return_, 0, 0) := by decide +kernel
theorem cd_i3_0 : cd_I 3 0 = some (.aload_n 0, 0, 0) := by decide +kernel
theorem cd_i3_1 : cd_I 3 1 = some (.invokespecial 3, 1000, 0) := by decide +kernel
theorem cd_i3_4 : cd_I 3 4 = some (.aload_n 0, 0, 0) := by decide +kernel
theorem cd_i3_5 : cd_I 3 5 = some (.bipush 10, 0, 0) := by decide +kernel
theorem cd_i3_7 : cd_I 3 7 = some (.anewarray 9, 4, 0) := by decide +kernel
theorem cd_i3_10 : cd_I 3 10 = some (.putfield 11, 2, 0) := by decide +kernel
theorem cd_i3_13 : cd_I 3 13 = some (.aload_n 0, 0, 0) := by decide +kernel
theorem cd_i3_14 : cd_I 3 14 = some (.bipush 13, 0, 0) := by decide +kernel
theorem cd_i3_16 : cd_I 3 16 = some (.newarray .int, 0, 0) := by decide +kernel
theorem cd_i3_18 : cd_I 3 18 = some (.putfield 17, 2, 1) := by decide +kernel
theorem cd_i3_21 : cd_I 3 21 = some (.aload_n 0, 0, 0) := by decide +kernel
theorem cd_i3_22 : cd_I 3 22 = some (.iconst (-1), 0, 0) := by decide +kernel
theorem cd_i3_23 : cd_I 3 23 = some (.putfield 21, 2, 2) := by decide +kernel
theorem cd_i3_26 : cd_I 3 26 = some (.iconst 0, 0, 0) := by decide +kernel
theorem cd_i3_27 : cd_I 3 27 = some (.istore_n 1, 0, 0) := by decide +kernel
theorem cd_i3_28 : cd_I 3 28 = some (.iload_n 1, 0, 0) := by decide +kernel
theorem cd_i3_29 : cd_I 3 29 = some (.bipush 13, 0, 0) := by decide +kernel
theorem cd_i3_31 : cd_I 3 31 = some (.if_icmp .ge 18, 49, 0) := by decide +kernel
theorem cd_i3_34 : cd_I 3 34 = some (.aload_n 0, 0, 0) := by decide +kernel
theorem cd_i3_35 : cd_I 3 35 = some (.getfield 17, 2, 1) := by decide +kernel
theorem cd_i3_38 : cd_I 3 38 = some (.iload_n 1, 0, 0) := by decide +kernel
theorem cd_i3_39 : cd_I 3 39 = some (.iconst 1, 0, 0) := by decide +kernel
theorem cd_i3_40 : cd_I 3 40 = some (.iload_n 1, 0, 0) := by decide +kernel
theorem cd_i3_41 : cd_I 3 41 = some (.ishl, 0, 0) := by decide +kernel
theorem cd_i3_42 : cd_I 3 42 = some (.iastore, 0, 0) := by decide +kernel
theorem cd_i3_43 : cd_I 3 43 = some (.iinc 1 1, 0, 0) := by decide +kernel
theorem cd_i3_46 : cd_I 3 46 = some (.goto (-18), 28, 0) := by decide +kernel
theorem cd_i3_49 : cd_I 3 49 = some (.aload_n 0, 0, 0) := by decide +kernel
theorem cd_i3_50 : cd_I 3 50 = some (.getfield 17, 2, 1) := by decide +kernel
theorem cd_i3_53 : cd_I 3 53 = some (.iconst 0, 0, 0) := by decide +kernel
theorem cd_i3_54 : cd_I 3 54 = some (.dup2, 0, 0) := by decide +kernel
theorem cd_i3_55 : cd_I 3 55 = some (.iaload, 0, 0) := by decide +kernel
theorem cd_i3_56 : cd_I 3 56 = some (.iconst 2, 0, 0) := by decide +kernel
theorem cd_i3_57 : cd_I 3 57 = some (.ior, 0, 0) := by decide +kernel
theorem cd_i3_58 : cd_I 3 58 = some (.iastore, 0, 0) := by decide +kernel
theorem cd_i3_59 : cd_I 3 59 = some (.return_, 0, 0) := by decide +kernel
theorem cd_i4_0 : cd_I 4 0 = some (.aload_n 0, 0, 0) := by decide +kernel
theorem cd_i4_1 : cd_I 4 1 = some (.invokespecial 3, 1000, 0) := by decide +kernel
theorem cd_i4_4 : cd_I 4 4 = some (.aload_n 0, 0, 0) := by decide +kernel
theorem cd_i4_5 : cd_I 4 5 = some (.iconst 5, 0, 0) := by decide +kernel
theorem cd_i4_6 : cd_I 4 6 = some (.newarray .int, 0, 0) := by decide +kernel
theorem cd_i4_8 : cd_I 4 8 = some (.putfield 9, 9, 0) := by decide +kernel
theorem cd_i4_11 : cd_I 4 11 = some (.aload_n 0, 0, 0) := by decide +kernel
theorem cd_i4_12 : cd_I 4 12 = some (.iconst 5, 0, 0) := by decide +kernel
theorem cd_i4_13 : cd_I 4 13 = some (.newarray .int, 0, 0) := by decide +kernel
theorem cd_i4_15 : cd_I 4 15 = some (.putfield 15, 9, 1) := by decide +kernel
theorem cd_i4_18 : cd_I 4 18 = some (.return_, 0, 0) := by decide +kernel
theorem cd_i5_0 : cd_I 5 0 = some (.aload_n 0, 0, 0) := by decide +kernel
theorem cd_i5_1 : cd_I 5 1 = some (.invokespecial 3, 1000, 0) := by decide +kernel
theorem cd_i5_4 : cd_I 5 4 = some (.aload_n 0, 0, 0) := by decide +kernel
theorem cd_i5_5 : cd_I 5 5 = some (.aload_n 1, 0, 0) := by decide +kernel
theorem cd_i5_6 : cd_I 5 6 = some (.putfield 9, 5, 0) := by decide +kernel
theorem cd_i5_9 : cd_I 5 9 = some (.aload_n 0, 0, 0) := by decide +kernel
theorem cd_i5_10 : cd_I 5 10 = some (.aload_n 2, 0, 0) := by decide +kernel
theorem cd_i5_11 : cd_I 5 11 = some (.putfield 15, 5, 1) := by decide +kernel
theorem cd_i5_14 : cd_I 5 14 = some (.return_, 0, 0) := by decide +kernel
theorem cd_i6_0 : cd_I 6 0 = some (.aload_n 0, 0, 0) := by decide +kernel
theorem cd_i6_1 : cd_I 6 1 = some (.invokespecial 3, 1000, 0) := by decide +kernel
theorem cd_i6_4 : cd_I 6 4 = some (.aload_n 0, 0, 0) := by decide +kernel
theorem cd_i6_5 : cd_I 6 5 = some (.aload_n 1, 0, 0) := by decide +kernel
theorem cd_i6_6 : cd_I 6 6 = some (.putfield 9, 6, 0) := by decide +kernel
theorem cd_i6_9 : cd_I 6 9 = some (.aload_n 0, 0, 0) := by decide +kernel
theorem cd_i6_10 : cd_I 6 10 = some (.aload_n 2, 0, 0) := by decide +kernel
theorem cd_i6_11 : cd_I 6 11 = some (.putfield 15, 6, 1) := by decide +kernel
theorem cd_i6_14 : cd_I 6 14 = some (.aload_n 0, 0, 0) := by decide +kernel
theorem cd_i6_15 : cd_I 6 15 = some (.aload_n 3, 0, 0) := by decide +kernel
theorem cd_i6_16 : cd_I 6 16 = some (.putfield 19, 6, 2) := by decide +kernel
theorem cd_i6_19 : cd_I 6 19 = some (.return_, 0, 0) := by decide +kernel
theorem cd_i7_0 : cd_I 7 0 = some (.aload_n 0, 0, 0) := by decide +kernel
theorem cd_i7_1 : cd_I 7 1 = some (.invokespecial 3, 1000, 0) := by decide +kernel
theorem cd_i7_4 : cd_I 7 4 = some (.aload_n 0, 0, 0) := by decide +kernel
theorem cd_i7_5 : cd_I 7 5 = some (.iconst 4, 0, 0) := by decide +kernel
theorem cd_i7_6 : cd_I 7 6 = some (.anewarray 9, 10, 0) := by decide +kernel
theorem cd_i7_9 : cd_I 7 9 = some (.putfield 11, 3, 2) := by decide +kernel
theorem cd_i7_12 : cd_I 7 12 = some (.aload_n 0, 0, 0) := by decide +kernel
theorem cd_i7_13 : cd_I 7 13 = some (.bipush 10, 0, 0) := by decide +kernel
theorem cd_i7_15 : cd_I 7 15 = some (.anewarray 17, 8, 0) := by decide +kernel
theorem cd_i7_18 : cd_I 7 18 = some (.putfield 19, 3, 3) := by decide +kernel
theorem cd_i7_21 : cd_I 7 21 = some (.aload_n 0, 0, 0) := by decide +kernel
theorem cd_i7_22 : cd_I 7 22 = some (.new 17, 8, 0) := by decide +kernel
theorem cd_i7_25 : cd_I 7 25 = some (.dup, 0, 0) := by decide +kernel
theorem cd_i7_26 : cd_I 7 26 = some (.invokespecial 23, 8, 0) := by decide +kernel
theorem cd_i7_29 : cd_I 7 29 = some (.putfield 24, 3, 4) := by decide +kernel
theorem cd_i7_32 : cd_I 7 32 = some (.aload_n 0, 0, 0) := by decide +kernel
theorem cd_i7_33 : cd_I 7 33 = some (.aload_n 1, 0, 0) := by decide +kernel
theorem cd_i7_34 : cd_I 7 34 = some (.putfield 28, 3, 0) := by decide +kernel
theorem cd_i7_37 : cd_I 7 37 = some (.aload_n 0, 0, 0) := by decide +kernel
theorem cd_i7_38 : cd_I 7 38 = some (.aload_n 2, 0, 0) := by decide +kernel
theorem cd_i7_39 : cd_I 7 39 = some (.putfield 32, 3, 1) := by decide +kernel
theorem cd_i7_42 : cd_I 7 42 = some (.iconst 0, 0, 0) := by decide +kernel
theorem cd_i7_43 : cd_I 7 43 = some (.istore_n 3, 0, 0) := by decide +kernel
theorem cd_i7_44 : cd_I 7 44 = some (.iload_n 3, 0, 0) := by decide +kernel
theorem cd_i7_45 : cd_I 7 45 = some (.aload_n 0, 0, 0) := by decide +kernel
theorem cd_i7_46 : cd_I 7 46 = some (.getfield 11, 3, 2) := by decide +kernel
theorem cd_i7_49 : cd_I 7 49 = some (.arraylength, 0, 0) := by decide +kernel
theorem cd_i7_50 : cd_I 7 50 = some (.if_icmp .ge 22, 72, 0) := by decide +kernel
theorem cd_i7_53 : cd_I 7 53 = some (.aload_n 0, 0, 0) := by decide +kernel
theorem cd_i7_54 : cd_I 7 54 = some (.getfield 11, 3, 2) := by decide +kernel
theorem cd_i7_57 : cd_I 7 57 = some (.iload_n 3, 0, 0) := by decide +kernel
theorem cd_i7_58 : cd_I 7 58 = some (.new 9, 10, 0) := by decide +kernel
theorem cd_i7_61 : cd_I 7 61 = some (.dup, 0, 0) := by decide +kernel
theorem cd_i7_62 : cd_I 7 62 = some (.invokespecial 36, 9, 0) := by decide +kernel
theorem cd_i7_65 : cd_I 7 65 = some (.aastore, 0, 0) := by decide +kernel
theorem cd_i7_66 : cd_I 7 66 = some (.iinc 3 1, 0, 0) := by decide +kernel
theorem cd_i7_69 : cd_I 7 69 = some (.goto (-25), 44, 0) := by decide +kernel
theorem cd_i7_72 : cd_I 7 72 = some (.aload_n 0, 0, 0) := by decide +kernel
theorem cd_i7_73 : cd_I 7 73 = some (.aload_n 0, 0, 0) := by decide +kernel
theorem cd_i7_74 : cd_I 7 74 = some (.getfield 11, 3, 2) := by decide +kernel
theorem cd_i7_77 : cd_I 7 77 = some (.iconst 0, 0, 0) := by decide +kernel
theorem cd_i7_78 : cd_I 7 78 = some (.aaload, 0, 0) := by decide +kernel
theorem cd_i7_79 : cd_I 7 79 = some (.putfield 37, 3, 5) := by decide +kernel
theorem cd_i7_82 : cd_I 7 82 = some (.return_, 0, 0) := by decide +kernel
theorem cd_i8_0 : cd_I 8 0 = some (.aload_n 0, 0, 0) := by decide +kernel
theorem cd_i8_1 : cd_I 8 1 = some (.invokespecial 3, 1000, 0) := by decide +kernel
theorem cd_i8_4 : cd_I 8 4 = some (.aload_n 0, 0, 0) := by decide +kernel
theorem cd_i8_5 : cd_I 8 5 = some (.bipush 25, 0, 0) := by decide +kernel
theorem cd_i8_7 : cd_I 8 7 = some (.newarray .char, 0, 0) := by decide +kernel
theorem cd_i8_9 : cd_I 8 9 = some (.putfield 9, 8, 0) := by decide +kernel
theorem cd_i8_12 : cd_I 8 12 = some (.return_, 0, 0) := by decide +kernel
theorem cd_i9_0 : cd_I 9 0 = some (.aload_n 0, 0, 0) := by decide +kernel
theorem cd_i9_1 : cd_I 9 1 = some (.invokespecial 3, 1000, 0) := by decide +kernel
theorem cd_i9_4 : cd_I 9 4 = some (.aload_n 0, 0, 0) := by decide +kernel
theorem cd_i9_5 : cd_I 9 5 = some (.bipush 8, 0, 0) := by decide +kernel
theorem cd_i9_7 : cd_I 9 7 = some (.anewarray 9, 8, 0) := by decide +kernel
theorem cd_i9_10 : cd_I 9 10 = some (.putfield 11, 10, 0) := by decide +kernel
theorem cd_i9_13 : cd_I 9 13 = some (.iconst 0, 0, 0) := by decide +kernel
theorem cd_i9_14 : cd_I 9 14 = some (.istore_n 1, 0, 0) := by decide +kernel
theorem cd_i9_15 : cd_I 9 15 = some (.iload_n 1, 0, 0) := by decide +kernel
theorem cd_i9_16 : cd_I 9 16 = some (.aload_n 0, 0, 0) := by decide +kernel
theorem cd_i9_17 : cd_I 9 17 = some (.getfield 11, 10, 0) := by decide +kernel
theorem cd_i9_20 : cd_I 9 20 = some (.arraylength, 0, 0) := by decide +kernel
theorem cd_i9_21 : cd_I 9 21 = some (.if_icmp .ge 22, 43, 0) := by decide +kernel
theorem cd_i9_24 : cd_I 9 24 = some (.aload_n 0, 0, 0) := by decide +kernel
theorem cd_i9_25 : cd_I 9 25 = some (.getfield 11, 10, 0) := by decide +kernel
theorem cd_i9_28 : cd_I 9 28 = some (.iload_n 1, 0, 0) := by decide +kernel
theorem cd_i9_29 : cd_I 9 29 = some (.new 9, 8, 0) := by decide +kernel
theorem cd_i9_32 : cd_I 9 32 = some (.dup, 0, 0) := by decide +kernel
theorem cd_i9_33 : cd_I 9 33 = some (.invokespecial 17, 8, 0) := by decide +kernel
theorem cd_i9_36 : cd_I 9 36 = some (.aastore, 0, 0) := by decide +kernel
theorem cd_i9_37 : cd_I 9 37 = some (.iinc 1 1, 0, 0) := by decide +kernel
theorem cd_i9_40 : cd_I 9 40 = some (.goto (-25), 15, 0) := by decide +kernel
theorem cd_i9_43 : cd_I 9 43 = some (.return_, 0, 0) := by decide +kernel
theorem cd_i10_0 : cd_I 10 0 = some (.aload_n 0, 0, 0) := by decide +kernel
theorem cd_i10_1 : cd_I 10 1 = some (.getfield 10, 0, 0) := by decide +kernel
theorem cd_i10_4 : cd_I 10 4 = some (.iload_n 1, 0, 0) := by decide +kernel
theorem cd_i10_5 : cd_I 10 5 = some (.iload_n 2, 0, 0) := by decide +kernel
theorem cd_i10_6 : cd_I 10 6 = some (.invokevirtual 61, 11, 2) := by decide +kernel
theorem cd_i10_9 : cd_I 10 9 = some (.ireturn, 0, 0) := by decide +kernel
theorem cd_i11_0 : cd_I 11 0 = some (.iload_n 2, 0, 0) := by decide +kernel
theorem cd_i11_1 : cd_I 11 1 = some (.iconst 1, 0, 0) := by decide +kernel
theorem cd_i11_2 : cd_I 11 2 = some (.if_icmp .lt 19, 21, 0) := by decide +kernel
theorem cd_i11_5 : cd_I 11 5 = some (.iload_n 2, 0, 0) := by decide +kernel
theorem cd_i11_6 : cd_I 11 6 = some (.iconst 4, 0, 0) := by decide +kernel
theorem cd_i11_7 : cd_I 11 7 = some (.if_icmp .gt 14, 21, 0) := by decide +kernel
theorem cd_i11_10 : cd_I 11 10 = some (.iload_n 2, 0, 0) := by decide +kernel
theorem cd_i11_11 : cd_I 11 11 = some (.bipush 120, 0, 0) := by decide +kernel
theorem cd_i11_13 : cd_I 11 13 = some (.aload_n 0, 0, 0) := by decide +kernel
theorem cd_i11_14 : cd_I 11 14 = some (.getfield 15, 1, 1) := by decide +kernel
theorem cd_i11_17 : cd_I 11 17 = some (.isub, 0, 0) := by decide +kernel
theorem cd_i11_18 : cd_I 11 18 = some (.if_icmp .le 5, 23, 0) := by decide +kernel
theorem cd_i11_21 : cd_I 11 21 = some (.iconst 0, 0, 0) := by decide +kernel
theorem cd_i11_22 : cd_I 11 22 = some (.ireturn, 0, 0) := by decide +kernel
theorem cd_i11_23 : cd_I 11 23 = some (.iconst 0, 0, 0) := by decide +kernel
theorem cd_i11_24 : cd_I 11 24 = some (.istore_n 3, 0, 0) := by decide +kernel
theorem cd_i11_25 : cd_I 11 25 = some (.iload_n 3, 0, 0) := by decide +kernel
theorem cd_i11_26 : cd_I 11 26 = some (.iload_n 2, 0, 0) := by decide +kernel
theorem cd_i11_27 : cd_I 11 27 = some (.if_icmp .ge 55, 82, 0) := by decide +kernel
theorem cd_i11_30 : cd_I 11 30 = some (.iload_n 1, 0, 0) := by decide +kernel
theorem cd_i11_31 : cd_I 11 31 = some (.bipush 8, 0, 0) := by decide +kernel
theorem cd_i11_33 : cd_I 11 33 = some (.iload_n 2, 0, 0) := by decide +kernel
theorem cd_i11_34 : cd_I 11 34 = some (.iconst 1, 0, 0) := by decide +kernel
theorem cd_i11_35 : cd_I 11 35 = some (.isub, 0, 0) := by decide +kernel
theorem cd_i11_36 : cd_I 11 36 = some (.iload_n 3, 0, 0) := by decide +kernel
theorem cd_i11_37 : cd_I 11 37 = some (.isub, 0, 0) := by decide +kernel
theorem cd_i11_38 : cd_I 11 38 = some (.imul, 0, 0) := by decide +kernel
theorem cd_i11_39 : cd_I 11 39 = some (.ishr, 0, 0) := by decide +kernel
theorem cd_i11_40 : cd_I 11 40 = some (.sipush 255, 0, 0) := by decide +kernel
theorem cd_i11_43 : cd_I 11 43 = some (.iand, 0, 0) := by decide +kernel
theorem cd_i11_44 : cd_I 11 44 = some (.istore 4, 0, 0) := by decide +kernel
theorem cd_i11_46 : cd_I 11 46 = some (.iload 4, 0, 0) := by decide +kernel
theorem cd_i11_48 : cd_I 11 48 = some (.bipush 32, 0, 0) := by decide +kernel
theorem cd_i11_50 : cd_I 11 50 = some (.if_icmp .lt 10, 60, 0) := by decide +kernel
theorem cd_i11_53 : cd_I 11 53 = some (.iload 4, 0, 0) := by decide +kernel
theorem cd_i11_55 : cd_I 11 55 = some (.bipush 126, 0, 0) := by decide +kernel
theorem cd_i11_57 : cd_I 11 57 = some (.if_icmp .le 5, 62, 0) := by decide +kernel
theorem cd_i11_60 : cd_I 11 60 = some (.iconst 0, 0, 0) := by decide +kernel
theorem cd_i11_61 : cd_I 11 61 = some (.ireturn, 0, 0) := by decide +kernel
theorem cd_i11_62 : cd_I 11 62 = some (.aload_n 0, 0, 0) := by decide +kernel
theorem cd_i11_63 : cd_I 11 63 = some (.getfield 9, 1, 0) := by decide +kernel
theorem cd_i11_66 : cd_I 11 66 = some (.aload_n 0, 0, 0) := by decide +kernel
theorem cd_i11_67 : cd_I 11 67 = some (.getfield 15, 1, 1) := by decide +kernel
theorem cd_i11_70 : cd_I 11 70 = some (.iload_n 3, 0, 0) := by decide +kernel
theorem cd_i11_71 : cd_I 11 71 = some (.iadd, 0, 0) := by decide +kernel
theorem cd_i11_72 : cd_I 11 72 = some (.iload 4, 0, 0) := by decide +kernel
theorem cd_i11_74 : cd_I 11 74 = some (.i2c, 0, 0) := by decide +kernel
theorem cd_i11_75 : cd_I 11 75 = some (.castore, 0, 0) := by decide +kernel
theorem cd_i11_76 : cd_I 11 76 = some (.iinc 3 1, 0, 0) := by decide +kernel
theorem cd_i11_79 : cd_I 11 79 = some (.goto (-54), 25, 0) := by decide +kernel
theorem cd_i11_82 : cd_I 11 82 = some (.aload_n 0, 0, 0) := by decide +kernel
theorem cd_i11_83 : cd_I 11 83 = some (.dup, 0, 0) := by decide +kernel
theorem cd_i11_84 : cd_I 11 84 = some (.getfield 15, 1, 1) := by decide +kernel
theorem cd_i11_87 : cd_I 11 87 = some (.iload_n 2, 0, 0) := by decide +kernel
theorem cd_i11_88 : cd_I 11 88 = some (.iadd, 0, 0) := by decide +kernel
theorem cd_i11_89 : cd_I 11 89 = some (.putfield 15, 1, 1) := by decide +kernel
theorem cd_i11_92 : cd_I 11 92 = some (.iconst 1, 0, 0) := by decide +kernel
theorem cd_i11_93 : cd_I 11 93 = some (.ireturn, 0, 0) := by decide +kernel
theorem cd_i12_0 : cd_I 12 0 = some (.aload_n 0, 0, 0) := by decide +kernel
theorem cd_i12_1 : cd_I 12 1 = some (.getfield 26, 0, 2) := by decide +kernel
theorem cd_i12_4 : cd_I 12 4 = some (.iconst 0, 0, 0) := by decide +kernel
theorem cd_i12_5 : cd_I 12 5 = some (.putfield 100, 9, 2) := by decide +kernel
theorem cd_i12_8 : cd_I 12 8 = some (.return_, 0, 0) := by decide +kernel
theorem cd_i13_0 : cd_I 13 0 = some (.aload_n 0, 0, 0) := by decide +kernel
theorem cd_i13_1 : cd_I 13 1 = some (.getfield 57, 0, 6) := by decide +kernel
theorem cd_i13_4 : cd_I 13 4 = some (.ireturn, 0, 0) := by decide +kernel
theorem cd_i14_0 : cd_I 14 0 = some (.iload_n 1, 0, 0) := by decide +kernel
theorem cd_i14_1 : cd_I 14 1 = some (.invokestatic 108, 15, 1) := by decide +kernel
theorem cd_i14_4 : cd_I 14 4 = some (.ifCond .eq 26, 30, 0) := by decide +kernel
theorem cd_i14_7 : cd_I 14 7 = some (.iload_n 2, 0, 0) := by decide +kernel
theorem cd_i14_8 : cd_I 14 8 = some (.invokestatic 108, 15, 1) := by decide +kernel
theorem cd_i14_11 : cd_I 14 11 = some (.ifCond .eq 19, 30, 0) := by decide +kernel
theorem cd_i14_14 : cd_I 14 14 = some (.aload_n 0, 0, 0) := by decide +kernel
theorem cd_i14_15 : cd_I 14 15 = some (.getfield 19, 0, 1) := by decide +kernel
theorem cd_i14_18 : cd_I 14 18 = some (.iload_n 1, 0, 0) := by decide +kernel
theorem cd_i14_19 : cd_I 14 19 = some (.iload_n 2, 0, 0) := by decide +kernel
theorem cd_i14_20 : cd_I 14 20 = some (.invokevirtual 129, 16, 2) := by decide +kernel
theorem cd_i14_23 : cd_I 14 23 = some (.ifCond .eq 7, 30, 0) := by decide +kernel
theorem cd_i14_26 : cd_I 14 26 = some (.iconst 1, 0, 0) := by decide +kernel
theorem cd_i14_27 : cd_I 14 27 = some (.goto 4, 31, 0) := by decide +kernel
theorem cd_i14_30 : cd_I 14 30 = some (.iconst 0, 0, 0) := by decide +kernel
theorem cd_i14_31 : cd_I 14 31 = some (.ireturn, 0, 0) := by decide +kernel
theorem cd_i15_0 : cd_I 15 0 = some (.iload_n 0, 0, 0) := by decide +kernel
theorem cd_i15_1 : cd_I 15 1 = some (.ifCond .lt 13, 14, 0) := by decide +kernel
theorem cd_i15_4 : cd_I 15 4 = some (.iload_n 0, 0, 0) := by decide +kernel
theorem cd_i15_5 : cd_I 15 5 = some (.bipush 13, 0, 0) := by decide +kernel
theorem cd_i15_7 : cd_I 15 7 = some (.if_icmp .ge 7, 14, 0) := by decide +kernel
theorem cd_i15_10 : cd_I 15 10 = some (.iconst 1, 0, 0) := by decide +kernel
theorem cd_i15_11 : cd_I 15 11 = some (.goto 4, 15, 0) := by decide +kernel
theorem cd_i15_14 : cd_I 15 14 = some (.iconst 0, 0, 0) := by decide +kernel
theorem cd_i15_15 : cd_I 15 15 = some (.ireturn, 0, 0) := by decide +kernel
theorem cd_i16_0 : cd_I 16 0 = some (.aload_n 0, 0, 0) := by decide +kernel
theorem cd_i16_1 : cd_I 16 1 = some (.getfield 17, 2, 1) := by decide +kernel
theorem cd_i16_4 : cd_I 16 4 = some (.iload_n 1, 0, 0) := by decide +kernel
theorem cd_i16_5 : cd_I 16 5 = some (.iaload, 0, 0) := by decide +kernel
theorem cd_i16_6 : cd_I 16 6 = some (.iload_n 2, 0, 0) := by decide +kernel
theorem cd_i16_7 : cd_I 16 7 = some (.ishr, 0, 0) := by decide +kernel
theorem cd_i16_8 : cd_I 16 8 = some (.iconst 1, 0, 0) := by decide +kernel
theorem cd_i16_9 : cd_I 16 9 = some (.iand, 0, 0) := by decide +kernel
theorem cd_i16_10 : cd_I 16 10 = some (.iconst 1, 0, 0) := by decide +kernel
theorem cd_i16_11 : cd_I 16 11 = some (.if_icmp .ne 7, 18, 0) := by decide +kernel
theorem cd_i16_14 : cd_I 16 14 = some (.iconst 1, 0, 0) := by decide +kernel
theorem cd_i16_15 : cd_I 16 15 = some (.goto 4, 19, 0) := by decide +kernel
theorem cd_i16_18 : cd_I 16 18 = some (.iconst 0, 0, 0) := by decide +kernel
theorem cd_i16_19 : cd_I 16 19 = some (.ireturn, 0, 0) := by decide +kernel
theorem cd_i17_0 : cd_I 17 0 = some (.aload_n 0, 0, 0) := by decide +kernel
theorem cd_i17_1 : cd_I 17 1 = some (.getfield 53, 0, 5) := by decide +kernel
theorem cd_i17_4 : cd_I 17 4 = some (.iload_n 1, 0, 0) := by decide +kernel
theorem cd_i17_5 : cd_I 17 5 = some (.invokevirtual 132, 18, 1) := by decide +kernel
theorem cd_i17_8 : cd_I 17 8 = some (.astore_n 3, 0, 0) := by decide +kernel
theorem cd_i17_9 : cd_I 17 9 = some (.aload_n 3, 0, 0) := by decide +kernel
theorem cd_i17_10 : cd_I 17 10 = some (.ifnonnull 5, 15, 0) := by decide +kernel
theorem cd_i17_13 : cd_I 17 13 = some (.iconst (-1), 0, 0) := by decide +kernel
theorem cd_i17_14 : cd_I 17 14 = some (.ireturn, 0, 0) := by decide +kernel
theorem cd_i17_15 : cd_I 17 15 = some (.iload_n 2, 0, 0) := by decide +kernel
theorem cd_i17_16 : cd_I 17 16 = some (.tableswitch 43 0 2 #[28, 33, 38], 0, 0) := by decide +kernel
theorem cd_i17_44 : cd_I 17 44 = some (.aload_n 3, 0, 0) := by decide +kernel
theorem cd_i17_45 : cd_I 17 45 = some (.getfield 136, 8, 1) := by decide +kernel
theorem cd_i17_48 : cd_I 17 48 = some (.ireturn, 0, 0) := by decide +kernel
theorem cd_i17_49 : cd_I 17 49 = some (.aload_n 3, 0, 0) := by decide +kernel
theorem cd_i17_50 : cd_I 17 50 = some (.getfield 141, 8, 3) := by decide +kernel
theorem cd_i17_53 : cd_I 17 53 = some (.ireturn, 0, 0) := by decide +kernel
theorem cd_i17_54 : cd_I 17 54 = some (.aload_n 3, 0, 0) := by decide +kernel
theorem cd_i17_55 : cd_I 17 55 = some (.getfield 142, 8, 2) := by decide +kernel
theorem cd_i17_58 : cd_I 17 58 = some (.ireturn, 0, 0) := by decide +kernel
theorem cd_i17_59 : cd_I 17 59 = some (.iconst (-1), 0, 0) := by decide +kernel
theorem cd_i17_60 : cd_I 17 60 = some (.ireturn, 0, 0) := by decide +kernel
theorem cd_i18_0 : cd_I 18 0 = some (.iload_n 1, 0, 0) := by decide +kernel
theorem cd_i18_1 : cd_I 18 1 = some (.ifCond .lt 20, 21, 0) := by decide +kernel
theorem cd_i18_4 : cd_I 18 4 = some (.iload_n 1, 0, 0) := by decide +kernel
theorem cd_i18_5 : cd_I 18 5 = some (.aload_n 0, 0, 0) := by decide +kernel
theorem cd_i18_6 : cd_I 18 6 = some (.getfield 83, 3, 6) := by decide +kernel
theorem cd_i18_9 : cd_I 18 9 = some (.if_icmp .ge 12, 21, 0) := by decide +kernel
theorem cd_i18_12 : cd_I 18 12 = some (.aload_n 0, 0, 0) := by decide +kernel
theorem cd_i18_13 : cd_I 18 13 = some (.getfield 19, 3, 3) := by decide +kernel
theorem cd_i18_16 : cd_I 18 16 = some (.iload_n 1, 0, 0) := by decide +kernel
theorem cd_i18_17 : cd_I 18 17 = some (.aaload, 0, 0) := by decide +kernel
theorem cd_i18_18 : cd_I 18 18 = some (.goto 4, 22, 0) := by decide +kernel
theorem cd_i18_21 : cd_I 18 21 = some (.aconst_null, 0, 0) := by decide +kernel
theorem cd_i18_22 : cd_I 18 22 = some (.areturn, 0, 0) := by decide +kernel
theorem cd_i19_0 : cd_I 19 0 = some (.aload_n 0, 0, 0) := by decide +kernel
theorem cd_i19_1 : cd_I 19 1 = some (.getfield 53, 0, 5) := by decide +kernel
theorem cd_i19_4 : cd_I 19 4 = some (.iload_n 1, 0, 0) := by decide +kernel
theorem cd_i19_5 : cd_I 19 5 = some (.invokevirtual 132, 18, 1) := by decide +kernel
theorem cd_i19_8 : cd_I 19 8 = some (.astore_n 3, 0, 0) := by decide +kernel
theorem cd_i19_9 : cd_I 19 9 = some (.aload_n 3, 0, 0) := by decide +kernel
theorem cd_i19_10 : cd_I 19 10 = some (.ifnonnull 7, 17, 0) := by decide +kernel
theorem cd_i19_13 : cd_I 19 13 = some (.iconst 0, 0, 0) := by decide +kernel
theorem cd_i19_14 : cd_I 19 14 = some (.goto 8, 22, 0) := by decide +kernel
theorem cd_i19_17 : cd_I 19 17 = some (.aload_n 3, 0, 0) := by decide +kernel
theorem cd_i19_18 : cd_I 19 18 = some (.iload_n 2, 0, 0) := by decide +kernel
theorem cd_i19_19 : cd_I 19 19 = some (.invokevirtual 145, 20, 1) := by decide +kernel
theorem cd_i19_22 : cd_I 19 22 = some (.ireturn, 0, 0) := by decide +kernel
theorem cd_i20_0 : cd_I 20 0 = some (.iload_n 1, 0, 0) := by decide +kernel
theorem cd_i20_1 : cd_I 20 1 = some (.ifCond .lt 20, 21, 0) := by decide +kernel
theorem cd_i20_4 : cd_I 20 4 = some (.iload_n 1, 0, 0) := by decide +kernel
theorem cd_i20_5 : cd_I 20 5 = some (.aload_n 0, 0, 0) := by decide +kernel
theorem cd_i20_6 : cd_I 20 6 = some (.getfield 15, 8, 1) := by decide +kernel
theorem cd_i20_9 : cd_I 20 9 = some (.if_icmp .ge 12, 21, 0) := by decide +kernel
theorem cd_i20_12 : cd_I 20 12 = some (.aload_n 0, 0, 0) := by decide +kernel
theorem cd_i20_13 : cd_I 20 13 = some (.getfield 9, 8, 0) := by decide +kernel
theorem cd_i20_16 : cd_I 20 16 = some (.iload_n 1, 0, 0) := by decide +kernel
theorem cd_i20_17 : cd_I 20 17 = some (.caload, 0, 0) := by decide +kernel
theorem cd_i20_18 : cd_I 20 18 = some (.goto 4, 22, 0) := by decide +kernel
theorem cd_i20_21 : cd_I 20 21 = some (.iconst 0, 0, 0) := by decide +kernel
theorem cd_i20_22 : cd_I 20 22 = some (.ireturn, 0, 0) := by decide +kernel
theorem cd_i21_0 : cd_I 21 0 = some (.aload_n 0, 0, 0) := by decide +kernel
theorem cd_i21_1 : cd_I 21 1 = some (.getfield 19, 0, 1) := by decide +kernel
theorem cd_i21_4 : cd_I 21 4 = some (.iload_n 1, 0, 0) := by decide +kernel
theorem cd_i21_5 : cd_I 21 5 = some (.invokevirtual 149, 22, 1) := by decide +kernel
theorem cd_i21_8 : cd_I 21 8 = some (.astore_n 2, 0, 0) := by decide +kernel
theorem cd_i21_9 : cd_I 21 9 = some (.aload_n 2, 0, 0) := by decide +kernel
theorem cd_i21_10 : cd_I 21 10 = some (.ifnonnull 7, 17, 0) := by decide +kernel
theorem cd_i21_13 : cd_I 21 13 = some (.iconst (-1), 0, 0) := by decide +kernel
theorem cd_i21_14 : cd_I 21 14 = some (.goto 7, 21, 0) := by decide +kernel
theorem cd_i21_17 : cd_I 21 17 = some (.aload_n 2, 0, 0) := by decide +kernel
theorem cd_i21_18 : cd_I 21 18 = some (.getfield 89, 4, 3) := by decide +kernel
theorem cd_i21_21 : cd_I 21 21 = some (.ireturn, 0, 0) := by decide +kernel
theorem cd_i22_0 : cd_I 22 0 = some (.iload_n 1, 0, 0) := by decide +kernel
theorem cd_i22_1 : cd_I 22 1 = some (.ifCond .lt 21, 22, 0) := by decide +kernel
theorem cd_i22_4 : cd_I 22 4 = some (.iload_n 1, 0, 0) := by decide +kernel
theorem cd_i22_5 : cd_I 22 5 = some (.aload_n 0, 0, 0) := by decide +kernel
theorem cd_i22_6 : cd_I 22 6 = some (.getfield 11, 2, 0) := by decide +kernel
theorem cd_i22_9 : cd_I 22 9 = some (.arraylength, 0, 0) := by decide +kernel
theorem cd_i22_10 : cd_I 22 10 = some (.if_icmp .ge 12, 22, 0) := by decide +kernel
theorem cd_i22_13 : cd_I 22 13 = some (.aload_n 0, 0, 0) := by decide +kernel
theorem cd_i22_14 : cd_I 22 14 = some (.getfield 11, 2, 0) := by decide +kernel
theorem cd_i22_17 : cd_I 22 17 = some (.iload_n 1, 0, 0) := by decide +kernel
theorem cd_i22_18 : cd_I 22 18 = some (.aaload, 0, 0) := by decide +kernel
theorem cd_i22_19 : cd_I 22 19 = some (.goto 4, 23, 0) := by decide +kernel
theorem cd_i22_22 : cd_I 22 22 = some (.aconst_null, 0, 0) := by decide +kernel
theorem cd_i22_23 : cd_I 22 23 = some (.areturn, 0, 0) := by decide +kernel
theorem cd_i23_0 : cd_I 23 0 = some (.iload_n 1, 0, 0) := by decide +kernel
theorem cd_i23_1 : cd_I 23 1 = some (.invokestatic 101, 24, 1) := by decide +kernel
theorem cd_i23_4 : cd_I 23 4 = some (.ifCond .eq 12, 16, 0) := by decide +kernel
theorem cd_i23_7 : cd_I 23 7 = some (.iload_n 2, 0, 0) := by decide +kernel
theorem cd_i23_8 : cd_I 23 8 = some (.ifCond .lt 8, 16, 0) := by decide +kernel
theorem cd_i23_11 : cd_I 23 11 = some (.iload_n 2, 0, 0) := by decide +kernel
theorem cd_i23_12 : cd_I 23 12 = some (.iconst 1, 0, 0) := by decide +kernel
theorem cd_i23_13 : cd_I 23 13 = some (.if_icmp .le 5, 18, 0) := by decide +kernel
theorem cd_i23_16 : cd_I 23 16 = some (.iconst (-1), 0, 0) := by decide +kernel
theorem cd_i23_17 : cd_I 23 17 = some (.ireturn, 0, 0) := by decide +kernel
theorem cd_i23_18 : cd_I 23 18 = some (.aload_n 0, 0, 0) := by decide +kernel
theorem cd_i23_19 : cd_I 23 19 = some (.getfield 19, 0, 1) := by decide +kernel
theorem cd_i23_22 : cd_I 23 22 = some (.iload_n 1, 0, 0) := by decide +kernel
theorem cd_i23_23 : cd_I 23 23 = some (.iload_n 2, 0, 0) := by decide +kernel
theorem cd_i23_24 : cd_I 23 24 = some (.ifCond .ne 9, 33, 0) := by decide +kernel
theorem cd_i23_27 : cd_I 23 27 = some (.getstatic 153, 0, 0) := by decide +kernel
theorem cd_i23_30 : cd_I 23 30 = some (.goto 6, 36, 0) := by decide +kernel
theorem cd_i23_33 : cd_I 23 33 = some (.getstatic 159, 1, 0) := by decide +kernel
theorem cd_i23_36 : cd_I 23 36 = some (.invokevirtual 162, 25, 2) := by decide +kernel
theorem cd_i23_39 : cd_I 23 39 = some (.ireturn, 0, 0) := by decide +kernel
theorem cd_i24_0 : cd_I 24 0 = some (.iload_n 0, 0, 0) := by decide +kernel
theorem cd_i24_1 : cd_I 24 1 = some (.ifCond .lt 13, 14, 0) := by decide +kernel
theorem cd_i24_4 : cd_I 24 4 = some (.iload_n 0, 0, 0) := by decide +kernel
theorem cd_i24_5 : cd_I 24 5 = some (.bipush 10, 0, 0) := by decide +kernel
theorem cd_i24_7 : cd_I 24 7 = some (.if_icmp .ge 7, 14, 0) := by decide +kernel
theorem cd_i24_10 : cd_I 24 10 = some (.iconst 1, 0, 0) := by decide +kernel
theorem cd_i24_11 : cd_I 24 11 = some (.goto 4, 15, 0) := by decide +kernel
theorem cd_i24_14 : cd_I 24 14 = some (.iconst 0, 0, 0) := by decide +kernel
theorem cd_i24_15 : cd_I 24 15 = some (.ireturn, 0, 0) := by decide +kernel
theorem cd_i25_0 : cd_I 25 0 = some (.iconst 0, 0, 0) := by decide +kernel
theorem cd_i25_1 : cd_I 25 1 = some (.istore_n 3, 0, 0) := by decide +kernel
theorem cd_i25_2 : cd_I 25 2 = some (.aload_n 0, 0, 0) := by decide +kernel
theorem cd_i25_3 : cd_I 25 3 = some (.iload_n 1, 0, 0) := by decide +kernel
theorem cd_i25_4 : cd_I 25 4 = some (.invokevirtual 28, 22, 1) := by decide +kernel
theorem cd_i25_7 : cd_I 25 7 = some (.astore 4, 0, 0) := by decide +kernel
theorem cd_i25_9 : cd_I 25 9 = some (.aload 4, 0, 0) := by decide +kernel
theorem cd_i25_11 : cd_I 25 11 = some (.ifnull 66, 77, 0) := by decide +kernel
theorem cd_i25_14 : cd_I 25 14 = some (.iconst 0, 0, 0) := by decide +kernel
theorem cd_i25_15 : cd_I 25 15 = some (.istore 5, 0, 0) := by decide +kernel
theorem cd_i25_17 : cd_I 25 17 = some (.iload 5, 0, 0) := by decide +kernel
theorem cd_i25_19 : cd_I 25 19 = some (.aload 4, 0, 0) := by decide +kernel
theorem cd_i25_21 : cd_I 25 21 = some (.getfield 69, 4, 3) := by decide +kernel
theorem cd_i25_24 : cd_I 25 24 = some (.if_icmp .ge 43, 67, 0) := by decide +kernel
theorem cd_i25_27 : cd_I 25 27 = some (.aload 4, 0, 0) := by decide +kernel
theorem cd_i25_29 : cd_I 25 29 = some (.getfield 72, 4, 2) := by decide +kernel
theorem cd_i25_32 : cd_I 25 32 = some (.iload 5, 0, 0) := by decide +kernel
theorem cd_i25_34 : cd_I 25 34 = some (.aaload, 0, 0) := by decide +kernel
theorem cd_i25_35 : cd_I 25 35 = some (.getfield 53, 7, 0) := by decide +kernel
theorem cd_i25_38 : cd_I 25 38 = some (.aload_n 2, 0, 0) := by decide +kernel
theorem cd_i25_39 : cd_I 25 39 = some (.if_acmp .ne 22, 61, 0) := by decide +kernel
theorem cd_i25_42 : cd_I 25 42 = some (.aload_n 0, 0, 0) := by decide +kernel
theorem cd_i25_43 : cd_I 25 43 = some (.iload_n 1, 0, 0) := by decide +kernel
theorem cd_i25_44 : cd_I 25 44 = some (.aload 4, 0, 0) := by decide +kernel
theorem cd_i25_46 : cd_I 25 46 = some (.getfield 72, 4, 2) := by decide +kernel
theorem cd_i25_49 : cd_I 25 49 = some (.iload 5, 0, 0) := by decide +kernel
theorem cd_i25_51 : cd_I 25 51 = some (.aaload, 0, 0) := by decide +kernel
theorem cd_i25_52 : cd_I 25 52 = some (.invokevirtual 76, 26, 2) := by decide +kernel
theorem cd_i25_55 : cd_I 25 55 = some (.ifCond .eq 6, 61, 0) := by decide +kernel
theorem cd_i25_58 : cd_I 25 58 = some (.iinc 3 1, 0, 0) := by decide +kernel
theorem cd_i25_61 : cd_I 25 61 = some (.iinc 5 1, 0, 0) := by decide +kernel
theorem cd_i25_64 : cd_I 25 64 = some (.goto (-47), 17, 0) := by decide +kernel
theorem cd_i25_67 : cd_I 25 67 = some (.aload 4, 0, 0) := by decide +kernel
theorem cd_i25_69 : cd_I 25 69 = some (.getfield 32, 4, 1) := by decide +kernel
theorem cd_i25_72 : cd_I 25 72 = some (.astore 4, 0, 0) := by decide +kernel
theorem cd_i25_74 : cd_I 25 74 = some (.goto (-65), 9, 0) := by decide +kernel
theorem cd_i25_77 : cd_I 25 77 = some (.iload_n 3, 0, 0) := by decide +kernel
theorem cd_i25_78 : cd_I 25 78 = some (.ireturn, 0, 0) := by decide +kernel
theorem cd_i26_0 : cd_I 26 0 = some (.aload_n 2, 0, 0) := by decide +kernel
theorem cd_i26_1 : cd_I 26 1 = some (.getfield 53, 7, 0) := by decide +kernel
theorem cd_i26_4 : cd_I 26 4 = some (.getstatic 57, 2, 0) := by decide +kernel
theorem cd_i26_7 : cd_I 26 7 = some (.if_acmp .eq 24, 31, 0) := by decide +kernel
theorem cd_i26_10 : cd_I 26 10 = some (.aload_n 0, 0, 0) := by decide +kernel
theorem cd_i26_11 : cd_I 26 11 = some (.iload_n 1, 0, 0) := by decide +kernel
theorem cd_i26_12 : cd_I 26 12 = some (.aload_n 2, 0, 0) := by decide +kernel
theorem cd_i26_13 : cd_I 26 13 = some (.getfield 53, 7, 0) := by decide +kernel
theorem cd_i26_16 : cd_I 26 16 = some (.aload_n 2, 0, 0) := by decide +kernel
theorem cd_i26_17 : cd_I 26 17 = some (.getfield 62, 7, 3) := by decide +kernel
theorem cd_i26_20 : cd_I 26 20 = some (.invokevirtual 65, 27, 3) := by decide +kernel
theorem cd_i26_23 : cd_I 26 23 = some (.aload_n 2, 0, 0) := by decide +kernel
theorem cd_i26_24 : cd_I 26 24 = some (.if_acmp .ne 7, 31, 0) := by decide +kernel
theorem cd_i26_27 : cd_I 26 27 = some (.iconst 1, 0, 0) := by decide +kernel
theorem cd_i26_28 : cd_I 26 28 = some (.goto 4, 32, 0) := by decide +kernel
theorem cd_i26_31 : cd_I 26 31 = some (.iconst 0, 0, 0) := by decide +kernel
theorem cd_i26_32 : cd_I 26 32 = some (.ireturn, 0, 0) := by decide +kernel
theorem cd_i27_0 : cd_I 27 0 = some (.aload_n 0, 0, 0) := by decide +kernel
theorem cd_i27_1 : cd_I 27 1 = some (.iload_n 1, 0, 0) := by decide +kernel
theorem cd_i27_2 : cd_I 27 2 = some (.invokevirtual 28, 22, 1) := by decide +kernel
theorem cd_i27_5 : cd_I 27 5 = some (.astore 4, 0, 0) := by decide +kernel
theorem cd_i27_7 : cd_I 27 7 = some (.aload 4, 0, 0) := by decide +kernel
theorem cd_i27_9 : cd_I 27 9 = some (.ifnull 49, 58, 0) := by decide +kernel
theorem cd_i27_12 : cd_I 27 12 = some (.aload 4, 0, 0) := by decide +kernel
theorem cd_i27_14 : cd_I 27 14 = some (.aload_n 2, 0, 0) := by decide +kernel
theorem cd_i27_15 : cd_I 27 15 = some (.iload_n 3, 0, 0) := by decide +kernel
theorem cd_i27_16 : cd_I 27 16 = some (.invokevirtual 42, 28, 2) := by decide +kernel
theorem cd_i27_19 : cd_I 27 19 = some (.astore 5, 0, 0) := by decide +kernel
theorem cd_i27_21 : cd_I 27 21 = some (.aload 5, 0, 0) := by decide +kernel
theorem cd_i27_23 : cd_I 27 23 = some (.ifnull 25, 48, 0) := by decide +kernel
theorem cd_i27_26 : cd_I 27 26 = some (.aload 5, 0, 0) := by decide +kernel
theorem cd_i27_28 : cd_I 27 28 = some (.getfield 46, 7, 2) := by decide +kernel
theorem cd_i27_31 : cd_I 27 31 = some (.ifCond .ne 17, 48, 0) := by decide +kernel
theorem cd_i27_34 : cd_I 27 34 = some (.aload_n 0, 0, 0) := by decide +kernel
theorem cd_i27_35 : cd_I 27 35 = some (.aload 4, 0, 0) := by decide +kernel
theorem cd_i27_37 : cd_I 27 37 = some (.aload 5, 0, 0) := by decide +kernel
theorem cd_i27_39 : cd_I 27 39 = some (.invokevirtual 49, 30, 2) := by decide +kernel
theorem cd_i27_42 : cd_I 27 42 = some (.ifCond .eq 6, 48, 0) := by decide +kernel
theorem cd_i27_45 : cd_I 27 45 = some (.aload 5, 0, 0) := by decide +kernel
theorem cd_i27_47 : cd_I 27 47 = some (.areturn, 0, 0) := by decide +kernel
theorem cd_i27_48 : cd_I 27 48 = some (.aload 4, 0, 0) := by decide +kernel
theorem cd_i27_50 : cd_I 27 50 = some (.getfield 32, 4, 1) := by decide +kernel
theorem cd_i27_53 : cd_I 27 53 = some (.astore 4, 0, 0) := by decide +kernel
theorem cd_i27_55 : cd_I 27 55 = some (.goto (-48), 7, 0) := by decide +kernel
theorem cd_i27_58 : cd_I 27 58 = some (.aconst_null, 0, 0) := by decide +kernel
theorem cd_i27_59 : cd_I 27 59 = some (.areturn, 0, 0) := by decide +kernel
theorem cd_i28_0 : cd_I 28 0 = some (.iconst 0, 0, 0) := by decide +kernel
theorem cd_i28_1 : cd_I 28 1 = some (.istore_n 3, 0, 0) := by decide +kernel
theorem cd_i28_2 : cd_I 28 2 = some (.iload_n 3, 0, 0) := by decide +kernel
theorem cd_i28_3 : cd_I 28 3 = some (.aload_n 0, 0, 0) := by decide +kernel
theorem cd_i28_4 : cd_I 28 4 = some (.getfield 25, 4, 3) := by decide +kernel
theorem cd_i28_7 : cd_I 28 7 = some (.if_icmp .ge 30, 37, 0) := by decide +kernel
theorem cd_i28_10 : cd_I 28 10 = some (.aload_n 0, 0, 0) := by decide +kernel
theorem cd_i28_11 : cd_I 28 11 = some (.getfield 11, 4, 2) := by decide +kernel
theorem cd_i28_14 : cd_I 28 14 = some (.iload_n 3, 0, 0) := by decide +kernel
theorem cd_i28_15 : cd_I 28 15 = some (.aaload, 0, 0) := by decide +kernel
theorem cd_i28_16 : cd_I 28 16 = some (.aload_n 1, 0, 0) := by decide +kernel
theorem cd_i28_17 : cd_I 28 17 = some (.iload_n 2, 0, 0) := by decide +kernel
theorem cd_i28_18 : cd_I 28 18 = some (.invokevirtual 28, 29, 2) := by decide +kernel
theorem cd_i28_21 : cd_I 28 21 = some (.ifCond .eq 10, 31, 0) := by decide +kernel
theorem cd_i28_24 : cd_I 28 24 = some (.aload_n 0, 0, 0) := by decide +kernel
theorem cd_i28_25 : cd_I 28 25 = some (.getfield 11, 4, 2) := by decide +kernel
theorem cd_i28_28 : cd_I 28 28 = some (.iload_n 3, 0, 0) := by decide +kernel
theorem cd_i28_29 : cd_I 28 29 = some (.aaload, 0, 0) := by decide +kernel
theorem cd_i28_30 : cd_I 28 30 = some (.areturn, 0, 0) := by decide +kernel
theorem cd_i28_31 : cd_I 28 31 = some (.iinc 3 1, 0, 0) := by decide +kernel
theorem cd_i28_34 : cd_I 28 34 = some (.goto (-32), 2, 0) := by decide +kernel
theorem cd_i28_37 : cd_I 28 37 = some (.aconst_null, 0, 0) := by decide +kernel
theorem cd_i28_38 : cd_I 28 38 = some (.areturn, 0, 0) := by decide +kernel
theorem cd_i29_0 : cd_I 29 0 = some (.aload_n 0, 0, 0) := by decide +kernel
theorem cd_i29_1 : cd_I 29 1 = some (.getfield 15, 7, 0) := by decide +kernel
theorem cd_i29_4 : cd_I 29 4 = some (.aload_n 1, 0, 0) := by decide +kernel
theorem cd_i29_5 : cd_I 29 5 = some (.if_acmp .ne 15, 20, 0) := by decide +kernel
theorem cd_i29_8 : cd_I 29 8 = some (.aload_n 0, 0, 0) := by decide +kernel
theorem cd_i29_9 : cd_I 29 9 = some (.getfield 26, 7, 3) := by decide +kernel
theorem cd_i29_12 : cd_I 29 12 = some (.iload_n 2, 0, 0) := by decide +kernel
theorem cd_i29_13 : cd_I 29 13 = some (.if_icmp .ne 7, 20, 0) := by decide +kernel
theorem cd_i29_16 : cd_I 29 16 = some (.iconst 1, 0, 0) := by decide +kernel
theorem cd_i29_17 : cd_I 29 17 = some (.goto 4, 21, 0) := by decide +kernel
theorem cd_i29_20 : cd_I 29 20 = some (.iconst 0, 0, 0) := by decide +kernel
theorem cd_i29_21 : cd_I 29 21 = some (.ireturn, 0, 0) := by decide +kernel
theorem cd_i30_0 : cd_I 30 0 = some (.aload_n 2, 0, 0) := by decide +kernel
theorem cd_i30_1 : cd_I 30 1 = some (.getfield 36, 7, 1) := by decide +kernel
theorem cd_i30_4 : cd_I 30 4 = some (.ifCond .eq 14, 18, 0) := by decide +kernel
theorem cd_i30_7 : cd_I 30 7 = some (.aload_n 1, 0, 0) := by decide +kernel
theorem cd_i30_8 : cd_I 30 8 = some (.getfield 25, 4, 0) := by decide +kernel
theorem cd_i30_11 : cd_I 30 11 = some (.aload_n 0, 0, 0) := by decide +kernel
theorem cd_i30_12 : cd_I 30 12 = some (.getfield 21, 2, 2) := by decide +kernel
theorem cd_i30_15 : cd_I 30 15 = some (.if_icmp .ne 7, 22, 0) := by decide +kernel
theorem cd_i30_18 : cd_I 30 18 = some (.iconst 1, 0, 0) := by decide +kernel
theorem cd_i30_19 : cd_I 30 19 = some (.goto 4, 23, 0) := by decide +kernel
theorem cd_i30_22 : cd_I 30 22 = some (.iconst 0, 0, 0) := by decide +kernel
theorem cd_i30_23 : cd_I 30 23 = some (.ireturn, 0, 0) := by decide +kernel
theorem cd_i31_0 : cd_I 31 0 = some (.aload_n 0, 0, 0) := by decide +kernel
theorem cd_i31_1 : cd_I 31 1 = some (.getfield 35, 0, 3) := by decide +kernel
theorem cd_i31_4 : cd_I 31 4 = some (.invokevirtual 65, 32, 0) := by decide +kernel
theorem cd_i31_7 : cd_I 31 7 = some (.astore_n 1, 0, 0) := by decide +kernel
theorem cd_i31_8 : cd_I 31 8 = some (.aload_n 1, 0, 0) := by decide +kernel
theorem cd_i31_9 : cd_I 31 9 = some (.ifnull 28, 37, 0) := by decide +kernel
theorem cd_i31_12 : cd_I 31 12 = some (.aload_n 0, 0, 0) := by decide +kernel
theorem cd_i31_13 : cd_I 31 13 = some (.getfield 35, 0, 3) := by decide +kernel
theorem cd_i31_16 : cd_I 31 16 = some (.aload_n 1, 0, 0) := by decide +kernel
theorem cd_i31_17 : cd_I 31 17 = some (.invokevirtual 69, 37, 1) := by decide +kernel
theorem cd_i31_20 : cd_I 31 20 = some (.ifCond .eq 17, 37, 0) := by decide +kernel
theorem cd_i31_23 : cd_I 31 23 = some (.aload_n 0, 0, 0) := by decide +kernel
theorem cd_i31_24 : cd_I 31 24 = some (.getfield 10, 0, 0) := by decide +kernel
theorem cd_i31_27 : cd_I 31 27 = some (.invokevirtual 73, 59, 0) := by decide +kernel
theorem cd_i31_30 : cd_I 31 30 = some (.ifCond .eq 7, 37, 0) := by decide +kernel
theorem cd_i31_33 : cd_I 31 33 = some (.iconst 1, 0, 0) := by decide +kernel
theorem cd_i31_34 : cd_I 31 34 = some (.goto 4, 38, 0) := by decide +kernel
theorem cd_i31_37 : cd_I 31 37 = some (.iconst 0, 0, 0) := by decide +kernel
theorem cd_i31_38 : cd_I 31 38 = some (.istore_n 2, 0, 0) := by decide +kernel
theorem cd_i31_39 : cd_I 31 39 = some (.aload_n 0, 0, 0) := by decide +kernel
theorem cd_i31_40 : cd_I 31 40 = some (.getfield 10, 0, 0) := by decide +kernel
theorem cd_i31_43 : cd_I 31 43 = some (.invokevirtual 77, 60, 0) := by decide +kernel
theorem cd_i31_46 : cd_I 31 46 = some (.iload_n 2, 0, 0) := by decide +kernel
theorem cd_i31_47 : cd_I 31 47 = some (.ifCond .ne 11, 58, 0) := by decide +kernel
theorem cd_i31_50 : cd_I 31 50 = some (.new 80, 12, 82) := by decide +kernel
theorem cd_i31_58 : cd_I 31 58 = some (.aload_n 0, 0, 0) := by decide +kernel
theorem cd_i31_59 : cd_I 31 59 = some (.getfield 19, 0, 1) := by decide +kernel
theorem cd_i31_62 : cd_I 31 62 = some (.aload_n 1, 0, 0) := by decide +kernel
theorem cd_i31_63 : cd_I 31 63 = some (.invokevirtual 83, 61, 1) := by decide +kernel
theorem cd_i31_66 : cd_I 31 66 = some (.ifCond .ne 11, 77, 0) := by decide +kernel
theorem cd_i31_69 : cd_I 31 69 = some (.new 86, 13, 88) := by decide +kernel
theorem cd_i31_77 : cd_I 31 77 = some (.aload_n 1, 0, 0) := by decide +kernel
theorem cd_i31_78 : cd_I 31 78 = some (.getfield 89, 4, 3) := by decide +kernel
theorem cd_i31_81 : cd_I 31 81 = some (.ireturn, 0, 0) := by decide +kernel
