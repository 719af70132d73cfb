theorem d_law_0 : decode m_law.2.1 0 = .ok (.new 8, 3) := by decide +kernel
theorem d_law_3 : decode m_law.2.1 3 = .ok (.dup, 1) := by decide +kernel
theorem d_law_4 : decode m_law.2.1 4 = .ok (.invokespecial 31, 3) := by decide +kernel
theorem d_law_7 : decode m_law.2.1 7 = .ok (.astore_n 1, 1) := by decide +kernel
theorem d_law_8 : decode m_law.2.1 8 = .ok (.new 32, 3) := by decide +kernel
theorem d_law_11 : decode m_law.2.1 11 = .ok (.dup, 1) := by decide +kernel
theorem d_law_12 : decode m_law.2.1 12 = .ok (.invokespecial 34, 3) := by decide +kernel
theorem d_law_15 : decode m_law.2.1 15 = .ok (.astore_n 2, 1) := by decide +kernel
theorem d_law_16 : decode m_law.2.1 16 = .ok (.iconst 1, 1) := by decide +kernel
theorem d_law_17 : decode m_law.2.1 17 = .ok (.newarray .long, 2) := by decide +kernel
theorem d_law_19 : decode m_law.2.1 19 = .ok (.astore_n 3, 1) := by decide +kernel
theorem d_law_20 : decode m_law.2.1 20 = .ok (.iconst 0, 1) := by decide +kernel
theorem d_law_21 : decode m_law.2.1 21 = .ok (.istore 4, 2) := by decide +kernel
theorem d_law_23 : decode m_law.2.1 23 = .ok (.iload 4, 2) := by decide +kernel
theorem d_law_25 : decode m_law.2.1 25 = .ok (.aload_n 0, 1) := by decide +kernel
theorem d_law_26 : decode m_law.2.1 26 = .ok (.arraylength, 1) := by decide +kernel
theorem d_law_27 : decode m_law.2.1 27 = .ok (.iconst 2, 1) := by decide +kernel
theorem d_law_28 : decode m_law.2.1 28 = .ok (.isub, 1) := by decide +kernel
theorem d_law_29 : decode m_law.2.1 29 = .ok (.if_icmp .gt 495, 3) := by decide +kernel
theorem d_law_32 : decode m_law.2.1 32 = .ok (.aload_n 0, 1) := by decide +kernel
theorem d_law_33 : decode m_law.2.1 33 = .ok (.iload 4, 2) := by decide +kernel
theorem d_law_35 : decode m_law.2.1 35 = .ok (.iaload, 1) := by decide +kernel
theorem d_law_36 : decode m_law.2.1 36 = .ok (.bipush 15, 2) := by decide +kernel
theorem d_law_38 : decode m_law.2.1 38 = .ok (.iand, 1) := by decide +kernel
theorem d_law_39 : decode m_law.2.1 39 = .ok (.tableswitch 479 0 12 #[65, 92, 105, 163, 221, 234, 272, 316, 374, 387, 414, 441, 454], 65) := by decide +kernel
theorem d_law_104 : decode m_law.2.1 104 = .ok (.aload_n 1, 1) := by decide +kernel
theorem d_law_105 : decode m_law.2.1 105 = .ok (.aload_n 0, 1) := by decide +kernel
theorem d_law_106 : decode m_law.2.1 106 = .ok (.iload 4, 2) := by decide +kernel
theorem d_law_108 : decode m_law.2.1 108 = .ok (.iconst 1, 1) := by decide +kernel
theorem d_law_109 : decode m_law.2.1 109 = .ok (.iadd, 1) := by decide +kernel
theorem d_law_110 : decode m_law.2.1 110 = .ok (.iaload, 1) := by decide +kernel
theorem d_law_111 : decode m_law.2.1 111 = .ok (.i2c, 1) := by decide +kernel
theorem d_law_112 : decode m_law.2.1 112 = .ok (.invokevirtual 35, 3) := by decide +kernel
theorem d_law_115 : decode m_law.2.1 115 = .ok (.aload_n 2, 1) := by decide +kernel
theorem d_law_116 : decode m_law.2.1 116 = .ok (.aload_n 0, 1) := by decide +kernel
theorem d_law_117 : decode m_law.2.1 117 = .ok (.iload 4, 2) := by decide +kernel
theorem d_law_119 : decode m_law.2.1 119 = .ok (.iconst 1, 1) := by decide +kernel
theorem d_law_120 : decode m_law.2.1 120 = .ok (.iadd, 1) := by decide +kernel
theorem d_law_121 : decode m_law.2.1 121 = .ok (.iaload, 1) := by decide +kernel
theorem d_law_122 : decode m_law.2.1 122 = .ok (.i2c, 1) := by decide +kernel
theorem d_law_123 : decode m_law.2.1 123 = .ok (.invokevirtual 39, 3) := by decide +kernel
theorem d_law_126 : decode m_law.2.1 126 = .ok (.if_icmp .eq 392, 3) := by decide +kernel
theorem d_law_129 : decode m_law.2.1 129 = .ok (.iconst 0, 1) := by decide +kernel
theorem d_law_130 : decode m_law.2.1 130 = .ok (.ireturn, 1) := by decide +kernel
theorem d_law_131 : decode m_law.2.1 131 = .ok (.aload_n 1, 1) := by decide +kernel
theorem d_law_132 : decode m_law.2.1 132 = .ok (.invokevirtual 40, 3) := by decide +kernel
theorem d_law_135 : decode m_law.2.1 135 = .ok (.aload_n 2, 1) := by decide +kernel
theorem d_law_136 : decode m_law.2.1 136 = .ok (.invokevirtual 44, 3) := by decide +kernel
theorem d_law_139 : decode m_law.2.1 139 = .ok (.if_icmp .eq 379, 3) := by decide +kernel
theorem d_law_142 : decode m_law.2.1 142 = .ok (.iconst 0, 1) := by decide +kernel
theorem d_law_143 : decode m_law.2.1 143 = .ok (.ireturn, 1) := by decide +kernel
theorem d_law_144 : decode m_law.2.1 144 = .ok (.aload_n 1, 1) := by decide +kernel
theorem d_law_145 : decode m_law.2.1 145 = .ok (.aload_n 0, 1) := by decide +kernel
theorem d_law_146 : decode m_law.2.1 146 = .ok (.iload 4, 2) := by decide +kernel
theorem d_law_148 : decode m_law.2.1 148 = .ok (.iconst 1, 1) := by decide +kernel
theorem d_law_149 : decode m_law.2.1 149 = .ok (.iadd, 1) := by decide +kernel
theorem d_law_150 : decode m_law.2.1 150 = .ok (.iaload, 1) := by decide +kernel
theorem d_law_151 : decode m_law.2.1 151 = .ok (.i2c, 1) := by decide +kernel
theorem d_law_152 : decode m_law.2.1 152 = .ok (.aload_n 3, 1) := by decide +kernel
theorem d_law_153 : decode m_law.2.1 153 = .ok (.invokestatic 45, 3) := by decide +kernel
theorem d_law_156 : decode m_law.2.1 156 = .ok (.istore 5, 2) := by decide +kernel
theorem d_law_158 : decode m_law.2.1 158 = .ok (.aload_n 2, 1) := by decide +kernel
theorem d_law_159 : decode m_law.2.1 159 = .ok (.aload_n 0, 1) := by decide +kernel
theorem d_law_160 : decode m_law.2.1 160 = .ok (.iload 4, 2) := by decide +kernel
theorem d_law_162 : decode m_law.2.1 162 = .ok (.iconst 1, 1) := by decide +kernel
theorem d_law_163 : decode m_law.2.1 163 = .ok (.iadd, 1) := by decide +kernel
theorem d_law_164 : decode m_law.2.1 164 = .ok (.iaload, 1) := by decide +kernel
theorem d_law_165 : decode m_law.2.1 165 = .ok (.i2c, 1) := by decide +kernel
theorem d_law_166 : decode m_law.2.1 166 = .ok (.invokevirtual 50, 3) := by decide +kernel
theorem d_law_169 : decode m_law.2.1 169 = .ok (.istore 6, 2) := by decide +kernel
theorem d_law_171 : decode m_law.2.1 171 = .ok (.aload_n 2, 1) := by decide +kernel
theorem d_law_172 : decode m_law.2.1 172 = .ok (.invokevirtual 51, 3) := by decide +kernel
theorem d_law_175 : decode m_law.2.1 175 = .ok (.iload 5, 2) := by decide +kernel
theorem d_law_177 : decode m_law.2.1 177 = .ok (.if_icmp .eq 5, 3) := by decide +kernel
theorem d_law_180 : decode m_law.2.1 180 = .ok (.iconst 0, 1) := by decide +kernel
theorem d_law_181 : decode m_law.2.1 181 = .ok (.ireturn, 1) := by decide +kernel
theorem d_law_182 : decode m_law.2.1 182 = .ok (.iload 5, 2) := by decide +kernel
theorem d_law_184 : decode m_law.2.1 184 = .ok (.ifCond .ne 15, 3) := by decide +kernel
theorem d_law_187 : decode m_law.2.1 187 = .ok (.aload_n 3, 1) := by decide +kernel
theorem d_law_188 : decode m_law.2.1 188 = .ok (.iconst 0, 1) := by decide +kernel
theorem d_law_189 : decode m_law.2.1 189 = .ok (.laload, 1) := by decide +kernel
theorem d_law_190 : decode m_law.2.1 190 = .ok (.iload 6, 2) := by decide +kernel
theorem d_law_192 : decode m_law.2.1 192 = .ok (.i2l, 1) := by decide +kernel
theorem d_law_193 : decode m_law.2.1 193 = .ok (.lcmp, 1) := by decide +kernel
theorem d_law_194 : decode m_law.2.1 194 = .ok (.ifCond .eq 5, 3) := by decide +kernel
theorem d_law_197 : decode m_law.2.1 197 = .ok (.iconst 0, 1) := by decide +kernel
theorem d_law_198 : decode m_law.2.1 198 = .ok (.ireturn, 1) := by decide +kernel
theorem d_law_199 : decode m_law.2.1 199 = .ok (.goto 319, 3) := by decide +kernel
theorem d_law_202 : decode m_law.2.1 202 = .ok (.aload_n 1, 1) := by decide +kernel
theorem d_law_203 : decode m_law.2.1 203 = .ok (.aload_n 0, 1) := by decide +kernel
theorem d_law_204 : decode m_law.2.1 204 = .ok (.iload 4, 2) := by decide +kernel
theorem d_law_206 : decode m_law.2.1 206 = .ok (.iconst 1, 1) := by decide +kernel
theorem d_law_207 : decode m_law.2.1 207 = .ok (.iadd, 1) := by decide +kernel
theorem d_law_208 : decode m_law.2.1 208 = .ok (.iaload, 1) := by decide +kernel
theorem d_law_209 : decode m_law.2.1 209 = .ok (.i2c, 1) := by decide +kernel
theorem d_law_210 : decode m_law.2.1 210 = .ok (.aload_n 3, 1) := by decide +kernel
theorem d_law_211 : decode m_law.2.1 211 = .ok (.invokestatic 54, 3) := by decide +kernel
theorem d_law_214 : decode m_law.2.1 214 = .ok (.istore 5, 2) := by decide +kernel
theorem d_law_216 : decode m_law.2.1 216 = .ok (.aload_n 2, 1) := by decide +kernel
theorem d_law_217 : decode m_law.2.1 217 = .ok (.aload_n 0, 1) := by decide +kernel
theorem d_law_218 : decode m_law.2.1 218 = .ok (.iload 4, 2) := by decide +kernel
theorem d_law_220 : decode m_law.2.1 220 = .ok (.iconst 1, 1) := by decide +kernel
theorem d_law_221 : decode m_law.2.1 221 = .ok (.iadd, 1) := by decide +kernel
theorem d_law_222 : decode m_law.2.1 222 = .ok (.iaload, 1) := by decide +kernel
theorem d_law_223 : decode m_law.2.1 223 = .ok (.i2c, 1) := by decide +kernel
theorem d_law_224 : decode m_law.2.1 224 = .ok (.invokevirtual 56, 3) := by decide +kernel
theorem d_law_227 : decode m_law.2.1 227 = .ok (.istore 6, 2) := by decide +kernel
theorem d_law_229 : decode m_law.2.1 229 = .ok (.aload_n 2, 1) := by decide +kernel
theorem d_law_230 : decode m_law.2.1 230 = .ok (.invokevirtual 51, 3) := by decide +kernel
theorem d_law_233 : decode m_law.2.1 233 = .ok (.iload 5, 2) := by decide +kernel
theorem d_law_235 : decode m_law.2.1 235 = .ok (.if_icmp .eq 5, 3) := by decide +kernel
theorem d_law_238 : decode m_law.2.1 238 = .ok (.iconst 0, 1) := by decide +kernel
theorem d_law_239 : decode m_law.2.1 239 = .ok (.ireturn, 1) := by decide +kernel
theorem d_law_240 : decode m_law.2.1 240 = .ok (.iload 5, 2) := by decide +kernel
theorem d_law_242 : decode m_law.2.1 242 = .ok (.ifCond .ne 15, 3) := by decide +kernel
theorem d_law_245 : decode m_law.2.1 245 = .ok (.aload_n 3, 1) := by decide +kernel
theorem d_law_246 : decode m_law.2.1 246 = .ok (.iconst 0, 1) := by decide +kernel
theorem d_law_247 : decode m_law.2.1 247 = .ok (.laload, 1) := by decide +kernel
theorem d_law_248 : decode m_law.2.1 248 = .ok (.iload 6, 2) := by decide +kernel
theorem d_law_250 : decode m_law.2.1 250 = .ok (.i2l, 1) := by decide +kernel
theorem d_law_251 : decode m_law.2.1 251 = .ok (.lcmp, 1) := by decide +kernel
theorem d_law_252 : decode m_law.2.1 252 = .ok (.ifCond .eq 5, 3) := by decide +kernel
theorem d_law_255 : decode m_law.2.1 255 = .ok (.iconst 0, 1) := by decide +kernel
theorem d_law_256 : decode m_law.2.1 256 = .ok (.ireturn, 1) := by decide +kernel
theorem d_law_257 : decode m_law.2.1 257 = .ok (.goto 261, 3) := by decide +kernel
theorem d_law_260 : decode m_law.2.1 260 = .ok (.aload_n 1, 1) := by decide +kernel
theorem d_law_261 : decode m_law.2.1 261 = .ok (.invokevirtual 57, 3) := by decide +kernel
theorem d_law_264 : decode m_law.2.1 264 = .ok (.aload_n 2, 1) := by decide +kernel
theorem d_law_265 : decode m_law.2.1 265 = .ok (.invokevirtual 60, 3) := by decide +kernel
theorem d_law_268 : decode m_law.2.1 268 = .ok (.if_icmp .eq 250, 3) := by decide +kernel
theorem d_law_271 : decode m_law.2.1 271 = .ok (.iconst 0, 1) := by decide +kernel
theorem d_law_272 : decode m_law.2.1 272 = .ok (.ireturn, 1) := by decide +kernel
theorem d_law_273 : decode m_law.2.1 273 = .ok (.aload_n 1, 1) := by decide +kernel
theorem d_law_274 : decode m_law.2.1 274 = .ok (.aload_n 0, 1) := by decide +kernel
theorem d_law_275 : decode m_law.2.1 275 = .ok (.iload 4, 2) := by decide +kernel
theorem d_law_277 : decode m_law.2.1 277 = .ok (.iconst 1, 1) := by decide +kernel
theorem d_law_278 : decode m_law.2.1 278 = .ok (.iadd, 1) := by decide +kernel
theorem d_law_279 : decode m_law.2.1 279 = .ok (.iaload, 1) := by decide +kernel
theorem d_law_280 : decode m_law.2.1 280 = .ok (.i2c, 1) := by decide +kernel
theorem d_law_281 : decode m_law.2.1 281 = .ok (.invokestatic 61, 3) := by decide +kernel
theorem d_law_284 : decode m_law.2.1 284 = .ok (.istore 5, 2) := by decide +kernel
theorem d_law_286 : decode m_law.2.1 286 = .ok (.aload_n 2, 1) := by decide +kernel
theorem d_law_287 : decode m_law.2.1 287 = .ok (.aload_n 0, 1) := by decide +kernel
theorem d_law_288 : decode m_law.2.1 288 = .ok (.iload 4, 2) := by decide +kernel
theorem d_law_290 : decode m_law.2.1 290 = .ok (.iconst 1, 1) := by decide +kernel
theorem d_law_291 : decode m_law.2.1 291 = .ok (.iadd, 1) := by decide +kernel
theorem d_law_292 : decode m_law.2.1 292 = .ok (.iaload, 1) := by decide +kernel
theorem d_law_293 : decode m_law.2.1 293 = .ok (.i2c, 1) := by decide +kernel
theorem d_law_294 : decode m_law.2.1 294 = .ok (.invokevirtual 64, 3) := by decide +kernel
theorem d_law_297 : decode m_law.2.1 297 = .ok (.aload_n 2, 1) := by decide +kernel
theorem d_law_298 : decode m_law.2.1 298 = .ok (.invokevirtual 51, 3) := by decide +kernel
theorem d_law_301 : decode m_law.2.1 301 = .ok (.iload 5, 2) := by decide +kernel
theorem d_law_303 : decode m_law.2.1 303 = .ok (.if_icmp .eq 5, 3) := by decide +kernel
theorem d_law_306 : decode m_law.2.1 306 = .ok (.iconst 0, 1) := by decide +kernel
theorem d_law_307 : decode m_law.2.1 307 = .ok (.ireturn, 1) := by decide +kernel
theorem d_law_308 : decode m_law.2.1 308 = .ok (.goto 210, 3) := by decide +kernel
theorem d_law_311 : decode m_law.2.1 311 = .ok (.aload_n 1, 1) := by decide +kernel
theorem d_law_312 : decode m_law.2.1 312 = .ok (.aload_n 3, 1) := by decide +kernel
theorem d_law_313 : decode m_law.2.1 313 = .ok (.invokestatic 65, 3) := by decide +kernel
theorem d_law_316 : decode m_law.2.1 316 = .ok (.istore 5, 2) := by decide +kernel
theorem d_law_318 : decode m_law.2.1 318 = .ok (.aload_n 2, 1) := by decide +kernel
theorem d_law_319 : decode m_law.2.1 319 = .ok (.invokevirtual 68, 3) := by decide +kernel
theorem d_law_322 : decode m_law.2.1 322 = .ok (.istore 6, 2) := by decide +kernel
theorem d_law_324 : decode m_law.2.1 324 = .ok (.aload_n 2, 1) := by decide +kernel
theorem d_law_325 : decode m_law.2.1 325 = .ok (.invokevirtual 51, 3) := by decide +kernel
theorem d_law_328 : decode m_law.2.1 328 = .ok (.iload 5, 2) := by decide +kernel
theorem d_law_330 : decode m_law.2.1 330 = .ok (.if_icmp .eq 5, 3) := by decide +kernel
theorem d_law_333 : decode m_law.2.1 333 = .ok (.iconst 0, 1) := by decide +kernel
theorem d_law_334 : decode m_law.2.1 334 = .ok (.ireturn, 1) := by decide +kernel
theorem d_law_335 : decode m_law.2.1 335 = .ok (.iload 5, 2) := by decide +kernel
theorem d_law_337 : decode m_law.2.1 337 = .ok (.ifCond .ne 15, 3) := by decide +kernel
theorem d_law_340 : decode m_law.2.1 340 = .ok (.aload_n 3, 1) := by decide +kernel
theorem d_law_341 : decode m_law.2.1 341 = .ok (.iconst 0, 1) := by decide +kernel
theorem d_law_342 : decode m_law.2.1 342 = .ok (.laload, 1) := by decide +kernel
theorem d_law_343 : decode m_law.2.1 343 = .ok (.iload 6, 2) := by decide +kernel
theorem d_law_345 : decode m_law.2.1 345 = .ok (.i2l, 1) := by decide +kernel
theorem d_law_346 : decode m_law.2.1 346 = .ok (.lcmp, 1) := by decide +kernel
theorem d_law_347 : decode m_law.2.1 347 = .ok (.ifCond .eq 5, 3) := by decide +kernel
theorem d_law_350 : decode m_law.2.1 350 = .ok (.iconst 0, 1) := by decide +kernel
theorem d_law_351 : decode m_law.2.1 351 = .ok (.ireturn, 1) := by decide +kernel
theorem d_law_352 : decode m_law.2.1 352 = .ok (.goto 166, 3) := by decide +kernel
theorem d_law_355 : decode m_law.2.1 355 = .ok (.aload_n 1, 1) := by decide +kernel
theorem d_law_356 : decode m_law.2.1 356 = .ok (.aload_n 0, 1) := by decide +kernel
theorem d_law_357 : decode m_law.2.1 357 = .ok (.iload 4, 2) := by decide +kernel
theorem d_law_359 : decode m_law.2.1 359 = .ok (.iconst 1, 1) := by decide +kernel
theorem d_law_360 : decode m_law.2.1 360 = .ok (.iadd, 1) := by decide +kernel
theorem d_law_361 : decode m_law.2.1 361 = .ok (.iaload, 1) := by decide +kernel
theorem d_law_362 : decode m_law.2.1 362 = .ok (.i2c, 1) := by decide +kernel
theorem d_law_363 : decode m_law.2.1 363 = .ok (.aload_n 3, 1) := by decide +kernel
theorem d_law_364 : decode m_law.2.1 364 = .ok (.invokestatic 69, 3) := by decide +kernel
theorem d_law_367 : decode m_law.2.1 367 = .ok (.istore 5, 2) := by decide +kernel
theorem d_law_369 : decode m_law.2.1 369 = .ok (.aload_n 2, 1) := by decide +kernel
theorem d_law_370 : decode m_law.2.1 370 = .ok (.aload_n 0, 1) := by decide +kernel
theorem d_law_371 : decode m_law.2.1 371 = .ok (.iload 4, 2) := by decide +kernel
theorem d_law_373 : decode m_law.2.1 373 = .ok (.iconst 1, 1) := by decide +kernel
theorem d_law_374 : decode m_law.2.1 374 = .ok (.iadd, 1) := by decide +kernel
theorem d_law_375 : decode m_law.2.1 375 = .ok (.iaload, 1) := by decide +kernel
theorem d_law_376 : decode m_law.2.1 376 = .ok (.i2c, 1) := by decide +kernel
theorem d_law_377 : decode m_law.2.1 377 = .ok (.invokevirtual 71, 3) := by decide +kernel
theorem d_law_380 : decode m_law.2.1 380 = .ok (.istore 6, 2) := by decide +kernel
theorem d_law_382 : decode m_law.2.1 382 = .ok (.aload_n 2, 1) := by decide +kernel
theorem d_law_383 : decode m_law.2.1 383 = .ok (.invokevirtual 51, 3) := by decide +kernel
theorem d_law_386 : decode m_law.2.1 386 = .ok (.iload 5, 2) := by decide +kernel
theorem d_law_388 : decode m_law.2.1 388 = .ok (.if_icmp .eq 5, 3) := by decide +kernel
theorem d_law_391 : decode m_law.2.1 391 = .ok (.iconst 0, 1) := by decide +kernel
theorem d_law_392 : decode m_law.2.1 392 = .ok (.ireturn, 1) := by decide +kernel
theorem d_law_393 : decode m_law.2.1 393 = .ok (.iload 5, 2) := by decide +kernel
theorem d_law_395 : decode m_law.2.1 395 = .ok (.ifCond .ne 15, 3) := by decide +kernel
theorem d_law_398 : decode m_law.2.1 398 = .ok (.aload_n 3, 1) := by decide +kernel
theorem d_law_399 : decode m_law.2.1 399 = .ok (.iconst 0, 1) := by decide +kernel
theorem d_law_400 : decode m_law.2.1 400 = .ok (.laload, 1) := by decide +kernel
theorem d_law_401 : decode m_law.2.1 401 = .ok (.iload 6, 2) := by decide +kernel
theorem d_law_403 : decode m_law.2.1 403 = .ok (.i2l, 1) := by decide +kernel
theorem d_law_404 : decode m_law.2.1 404 = .ok (.lcmp, 1) := by decide +kernel
theorem d_law_405 : decode m_law.2.1 405 = .ok (.ifCond .eq 5, 3) := by decide +kernel
theorem d_law_408 : decode m_law.2.1 408 = .ok (.iconst 0, 1) := by decide +kernel
theorem d_law_409 : decode m_law.2.1 409 = .ok (.ireturn, 1) := by decide +kernel
theorem d_law_410 : decode m_law.2.1 410 = .ok (.goto 108, 3) := by decide +kernel
theorem d_law_413 : decode m_law.2.1 413 = .ok (.aload_n 1, 1) := by decide +kernel
theorem d_law_414 : decode m_law.2.1 414 = .ok (.invokevirtual 72, 3) := by decide +kernel
theorem d_law_417 : decode m_law.2.1 417 = .ok (.aload_n 2, 1) := by decide +kernel
theorem d_law_418 : decode m_law.2.1 418 = .ok (.invokevirtual 75, 3) := by decide +kernel
theorem d_law_421 : decode m_law.2.1 421 = .ok (.if_icmp .eq 97, 3) := by decide +kernel
theorem d_law_424 : decode m_law.2.1 424 = .ok (.iconst 0, 1) := by decide +kernel
theorem d_law_425 : decode m_law.2.1 425 = .ok (.ireturn, 1) := by decide +kernel
theorem d_law_426 : decode m_law.2.1 426 = .ok (.aload_n 1, 1) := by decide +kernel
theorem d_law_427 : decode m_law.2.1 427 = .ok (.aload_n 0, 1) := by decide +kernel
theorem d_law_428 : decode m_law.2.1 428 = .ok (.iload 4, 2) := by decide +kernel
theorem d_law_430 : decode m_law.2.1 430 = .ok (.iconst 1, 1) := by decide +kernel
theorem d_law_431 : decode m_law.2.1 431 = .ok (.iadd, 1) := by decide +kernel
theorem d_law_432 : decode m_law.2.1 432 = .ok (.iaload, 1) := by decide +kernel
theorem d_law_433 : decode m_law.2.1 433 = .ok (.i2c, 1) := by decide +kernel
theorem d_law_434 : decode m_law.2.1 434 = .ok (.invokevirtual 76, 3) := by decide +kernel
theorem d_law_437 : decode m_law.2.1 437 = .ok (.aload_n 2, 1) := by decide +kernel
theorem d_law_438 : decode m_law.2.1 438 = .ok (.aload_n 0, 1) := by decide +kernel
theorem d_law_439 : decode m_law.2.1 439 = .ok (.iload 4, 2) := by decide +kernel
theorem d_law_441 : decode m_law.2.1 441 = .ok (.iconst 1, 1) := by decide +kernel
theorem d_law_442 : decode m_law.2.1 442 = .ok (.iadd, 1) := by decide +kernel
theorem d_law_443 : decode m_law.2.1 443 = .ok (.iaload, 1) := by decide +kernel
theorem d_law_444 : decode m_law.2.1 444 = .ok (.i2c, 1) := by decide +kernel
theorem d_law_445 : decode m_law.2.1 445 = .ok (.invokevirtual 79, 3) := by decide +kernel
theorem d_law_448 : decode m_law.2.1 448 = .ok (.if_icmp .eq 70, 3) := by decide +kernel
theorem d_law_451 : decode m_law.2.1 451 = .ok (.iconst 0, 1) := by decide +kernel
theorem d_law_452 : decode m_law.2.1 452 = .ok (.ireturn, 1) := by decide +kernel
theorem d_law_453 : decode m_law.2.1 453 = .ok (.aload_n 1, 1) := by decide +kernel
theorem d_law_454 : decode m_law.2.1 454 = .ok (.aload_n 0, 1) := by decide +kernel
theorem d_law_455 : decode m_law.2.1 455 = .ok (.iload 4, 2) := by decide +kernel
theorem d_law_457 : decode m_law.2.1 457 = .ok (.iconst 1, 1) := by decide +kernel
theorem d_law_458 : decode m_law.2.1 458 = .ok (.iadd, 1) := by decide +kernel
theorem d_law_459 : decode m_law.2.1 459 = .ok (.iaload, 1) := by decide +kernel
theorem d_law_460 : decode m_law.2.1 460 = .ok (.i2c, 1) := by decide +kernel
theorem d_law_461 : decode m_law.2.1 461 = .ok (.invokevirtual 80, 3) := by decide +kernel
theorem d_law_464 : decode m_law.2.1 464 = .ok (.aload_n 2, 1) := by decide +kernel
theorem d_law_465 : decode m_law.2.1 465 = .ok (.aload_n 0, 1) := by decide +kernel
theorem d_law_466 : decode m_law.2.1 466 = .ok (.iload 4, 2) := by decide +kernel
theorem d_law_468 : decode m_law.2.1 468 = .ok (.iconst 1, 1) := by decide +kernel
theorem d_law_469 : decode m_law.2.1 469 = .ok (.iadd, 1) := by decide +kernel
theorem d_law_470 : decode m_law.2.1 470 = .ok (.iaload, 1) := by decide +kernel
theorem d_law_471 : decode m_law.2.1 471 = .ok (.i2c, 1) := by decide +kernel
theorem d_law_472 : decode m_law.2.1 472 = .ok (.invokevirtual 83, 3) := by decide +kernel
theorem d_law_475 : decode m_law.2.1 475 = .ok (.if_icmp .eq 43, 3) := by decide +kernel
theorem d_law_478 : decode m_law.2.1 478 = .ok (.iconst 0, 1) := by decide +kernel
theorem d_law_479 : decode m_law.2.1 479 = .ok (.ireturn, 1) := by decide +kernel
theorem d_law_480 : decode m_law.2.1 480 = .ok (.aload_n 1, 1) := by decide +kernel
theorem d_law_481 : decode m_law.2.1 481 = .ok (.invokevirtual 84, 3) := by decide +kernel
theorem d_law_484 : decode m_law.2.1 484 = .ok (.aload_n 2, 1) := by decide +kernel
theorem d_law_485 : decode m_law.2.1 485 = .ok (.invokevirtual 87, 3) := by decide +kernel
theorem d_law_488 : decode m_law.2.1 488 = .ok (.if_icmp .eq 30, 3) := by decide +kernel
theorem d_law_491 : decode m_law.2.1 491 = .ok (.iconst 0, 1) := by decide +kernel
theorem d_law_492 : decode m_law.2.1 492 = .ok (.ireturn, 1) := by decide +kernel
theorem d_law_493 : decode m_law.2.1 493 = .ok (.aload_n 1, 1) := by decide +kernel
theorem d_law_494 : decode m_law.2.1 494 = .ok (.aload_n 0, 1) := by decide +kernel
theorem d_law_495 : decode m_law.2.1 495 = .ok (.iload 4, 2) := by decide +kernel
theorem d_law_497 : decode m_law.2.1 497 = .ok (.iconst 1, 1) := by decide +kernel
theorem d_law_498 : decode m_law.2.1 498 = .ok (.iadd, 1) := by decide +kernel
theorem d_law_499 : decode m_law.2.1 499 = .ok (.iaload, 1) := by decide +kernel
theorem d_law_500 : decode m_law.2.1 500 = .ok (.invokevirtual 88, 3) := by decide +kernel
theorem d_law_503 : decode m_law.2.1 503 = .ok (.aload_n 2, 1) := by decide +kernel
theorem d_law_504 : decode m_law.2.1 504 = .ok (.aload_n 0, 1) := by decide +kernel
theorem d_law_505 : decode m_law.2.1 505 = .ok (.iload 4, 2) := by decide +kernel
theorem d_law_507 : decode m_law.2.1 507 = .ok (.iconst 1, 1) := by decide +kernel
theorem d_law_508 : decode m_law.2.1 508 = .ok (.iadd, 1) := by decide +kernel
theorem d_law_509 : decode m_law.2.1 509 = .ok (.iaload, 1) := by decide +kernel
theorem d_law_510 : decode m_law.2.1 510 = .ok (.invokevirtual 92, 3) := by decide +kernel
theorem d_law_513 : decode m_law.2.1 513 = .ok (.if_icmp .eq 5, 3) := by decide +kernel
theorem d_law_516 : decode m_law.2.1 516 = .ok (.iconst 0, 1) := by decide +kernel
theorem d_law_517 : decode m_law.2.1 517 = .ok (.ireturn, 1) := by decide +kernel
theorem d_law_518 : decode m_law.2.1 518 = .ok (.iinc 4 2, 3) := by decide +kernel
theorem d_law_521 : decode m_law.2.1 521 = .ok (.goto (-498), 3) := by decide +kernel
theorem d_law_524 : decode m_law.2.1 524 = .ok (.iconst 1, 1) := by decide +kernel
theorem d_law_525 : decode m_law.2.1 525 = .ok (.ireturn, 1) := by decide +kernel
