theorem dLw_law_0 : decode cLw_law 0 = .ok (.new 8, 3) := by decide +kernel
theorem dLw_law_3 : decode cLw_law 3 = .ok (.dup, 1) := by decide +kernel
theorem dLw_law_4 : decode cLw_law 4 = .ok (.aload_n 0, 1) := by decide +kernel
theorem dLw_law_5 : decode cLw_law 5 = .ok (.iconst 0, 1) := by decide +kernel
theorem dLw_law_6 : decode cLw_law 6 = .ok (.invokestatic 70, 3) := by decide +kernel
theorem dLw_law_9 : decode cLw_law 9 = .ok (.invokespecial 76, 3) := by decide +kernel
theorem dLw_law_12 : decode cLw_law 12 = .ok (.astore_n 1, 1) := by decide +kernel
theorem dLw_law_13 : decode cLw_law 13 = .ok (.new 79, 3) := by decide +kernel
theorem dLw_law_16 : decode cLw_law 16 = .ok (.dup, 1) := by decide +kernel
theorem dLw_law_17 : decode cLw_law 17 = .ok (.aload_n 0, 1) := by decide +kernel
theorem dLw_law_18 : decode cLw_law 18 = .ok (.iconst 0, 1) := by decide +kernel
theorem dLw_law_19 : decode cLw_law 19 = .ok (.invokestatic 70, 3) := by decide +kernel
theorem dLw_law_22 : decode cLw_law 22 = .ok (.invokespecial 81, 3) := by decide +kernel
theorem dLw_law_25 : decode cLw_law 25 = .ok (.astore_n 2, 1) := by decide +kernel
theorem dLw_law_26 : decode cLw_law 26 = .ok (.iconst 1, 1) := by decide +kernel
theorem dLw_law_27 : decode cLw_law 27 = .ok (.newarray .long, 2) := by decide +kernel
theorem dLw_law_29 : decode cLw_law 29 = .ok (.astore_n 3, 1) := by decide +kernel
theorem dLw_law_30 : decode cLw_law 30 = .ok (.iconst 1, 1) := by decide +kernel
theorem dLw_law_31 : decode cLw_law 31 = .ok (.istore 4, 2) := by decide +kernel
theorem dLw_law_33 : decode cLw_law 33 = .ok (.iload 4, 2) := by decide +kernel
theorem dLw_law_35 : decode cLw_law 35 = .ok (.aload_n 0, 1) := by decide +kernel
theorem dLw_law_36 : decode cLw_law 36 = .ok (.arraylength, 1) := by decide +kernel
theorem dLw_law_37 : decode cLw_law 37 = .ok (.bipush 6, 2) := by decide +kernel
theorem dLw_law_39 : decode cLw_law 39 = .ok (.isub, 1) := by decide +kernel
theorem dLw_law_40 : decode cLw_law 40 = .ok (.if_icmp .gt 1111, 3) := by decide +kernel
theorem dLw_law_43 : decode cLw_law 43 = .ok (.aload_n 0, 1) := by decide +kernel
theorem dLw_law_44 : decode cLw_law 44 = .ok (.iload 4, 2) := by decide +kernel
theorem dLw_law_46 : decode cLw_law 46 = .ok (.iaload, 1) := by decide +kernel
theorem dLw_law_47 : decode cLw_law 47 = .ok (.bipush 15, 2) := by decide +kernel
theorem dLw_law_49 : decode cLw_law 49 = .ok (.iand, 1) := by decide +kernel
theorem dLw_law_50 : decode cLw_law 50 = .ok (.tableswitch 1095 0 15 #[78, 177, 281, 372, 471, 527, 540, 608, 683, 739, 802, 858, 901, 952, 996, 1052], 78) := by decide +kernel
theorem dLw_law_128 : decode cLw_law 128 = .ok (.aload_n 1, 1) := by decide +kernel
theorem dLw_law_129 : decode cLw_law 129 = .ok (.aload_n 0, 1) := by decide +kernel
theorem dLw_law_130 : decode cLw_law 130 = .ok (.iload 4, 2) := by decide +kernel
theorem dLw_law_132 : decode cLw_law 132 = .ok (.iconst 1, 1) := by decide +kernel
theorem dLw_law_133 : decode cLw_law 133 = .ok (.iadd, 1) := by decide +kernel
theorem dLw_law_134 : decode cLw_law 134 = .ok (.iaload, 1) := by decide +kernel
theorem dLw_law_135 : decode cLw_law 135 = .ok (.aload_n 0, 1) := by decide +kernel
theorem dLw_law_136 : decode cLw_law 136 = .ok (.iload 4, 2) := by decide +kernel
theorem dLw_law_138 : decode cLw_law 138 = .ok (.iconst 2, 1) := by decide +kernel
theorem dLw_law_139 : decode cLw_law 139 = .ok (.iadd, 1) := by decide +kernel
theorem dLw_law_140 : decode cLw_law 140 = .ok (.iaload, 1) := by decide +kernel
theorem dLw_law_141 : decode cLw_law 141 = .ok (.aload_n 0, 1) := by decide +kernel
theorem dLw_law_142 : decode cLw_law 142 = .ok (.iload 4, 2) := by decide +kernel
theorem dLw_law_144 : decode cLw_law 144 = .ok (.iconst 3, 1) := by decide +kernel
theorem dLw_law_145 : decode cLw_law 145 = .ok (.iadd, 1) := by decide +kernel
theorem dLw_law_146 : decode cLw_law 146 = .ok (.iaload, 1) := by decide +kernel
theorem dLw_law_147 : decode cLw_law 147 = .ok (.aload_n 0, 1) := by decide +kernel
theorem dLw_law_148 : decode cLw_law 148 = .ok (.iload 4, 2) := by decide +kernel
theorem dLw_law_150 : decode cLw_law 150 = .ok (.iconst 4, 1) := by decide +kernel
theorem dLw_law_151 : decode cLw_law 151 = .ok (.iadd, 1) := by decide +kernel
theorem dLw_law_152 : decode cLw_law 152 = .ok (.iaload, 1) := by decide +kernel
theorem dLw_law_153 : decode cLw_law 153 = .ok (.aload_n 3, 1) := by decide +kernel
theorem dLw_law_154 : decode cLw_law 154 = .ok (.invokestatic 82, 3) := by decide +kernel
theorem dLw_law_157 : decode cLw_law 157 = .ok (.istore 5, 2) := by decide +kernel
theorem dLw_law_159 : decode cLw_law 159 = .ok (.aload_n 2, 1) := by decide +kernel
theorem dLw_law_160 : decode cLw_law 160 = .ok (.aload_n 0, 1) := by decide +kernel
theorem dLw_law_161 : decode cLw_law 161 = .ok (.iload 4, 2) := by decide +kernel
theorem dLw_law_163 : decode cLw_law 163 = .ok (.iconst 1, 1) := by decide +kernel
theorem dLw_law_164 : decode cLw_law 164 = .ok (.iadd, 1) := by decide +kernel
theorem dLw_law_165 : decode cLw_law 165 = .ok (.iaload, 1) := by decide +kernel
theorem dLw_law_166 : decode cLw_law 166 = .ok (.aload_n 0, 1) := by decide +kernel
theorem dLw_law_167 : decode cLw_law 167 = .ok (.iload 4, 2) := by decide +kernel
theorem dLw_law_169 : decode cLw_law 169 = .ok (.iconst 2, 1) := by decide +kernel
theorem dLw_law_170 : decode cLw_law 170 = .ok (.iadd, 1) := by decide +kernel
theorem dLw_law_171 : decode cLw_law 171 = .ok (.iaload, 1) := by decide +kernel
theorem dLw_law_172 : decode cLw_law 172 = .ok (.aload_n 0, 1) := by decide +kernel
theorem dLw_law_173 : decode cLw_law 173 = .ok (.iload 4, 2) := by decide +kernel
theorem dLw_law_175 : decode cLw_law 175 = .ok (.iconst 3, 1) := by decide +kernel
theorem dLw_law_176 : decode cLw_law 176 = .ok (.iadd, 1) := by decide +kernel
theorem dLw_law_177 : decode cLw_law 177 = .ok (.iaload, 1) := by decide +kernel
theorem dLw_law_178 : decode cLw_law 178 = .ok (.aload_n 0, 1) := by decide +kernel
theorem dLw_law_179 : decode cLw_law 179 = .ok (.iload 4, 2) := by decide +kernel
theorem dLw_law_181 : decode cLw_law 181 = .ok (.iconst 4, 1) := by decide +kernel
theorem dLw_law_182 : decode cLw_law 182 = .ok (.iadd, 1) := by decide +kernel
theorem dLw_law_183 : decode cLw_law 183 = .ok (.iaload, 1) := by decide +kernel
theorem dLw_law_184 : decode cLw_law 184 = .ok (.invokevirtual 85, 3) := by decide +kernel
theorem dLw_law_187 : decode cLw_law 187 = .ok (.istore 6, 2) := by decide +kernel
theorem dLw_law_189 : decode cLw_law 189 = .ok (.aload_n 2, 1) := by decide +kernel
theorem dLw_law_190 : decode cLw_law 190 = .ok (.invokevirtual 86, 3) := by decide +kernel
theorem dLw_law_193 : decode cLw_law 193 = .ok (.iload 5, 2) := by decide +kernel
theorem dLw_law_195 : decode cLw_law 195 = .ok (.if_icmp .eq 5, 3) := by decide +kernel
theorem dLw_law_198 : decode cLw_law 198 = .ok (.iconst 0, 1) := by decide +kernel
theorem dLw_law_199 : decode cLw_law 199 = .ok (.ireturn, 1) := by decide +kernel
theorem dLw_law_200 : decode cLw_law 200 = .ok (.iload 5, 2) := by decide +kernel
theorem dLw_law_202 : decode cLw_law 202 = .ok (.ifCond .ne 22, 3) := by decide +kernel
theorem dLw_law_205 : decode cLw_law 205 = .ok (.aload_n 3, 1) := by decide +kernel
theorem dLw_law_206 : decode cLw_law 206 = .ok (.iconst 0, 1) := by decide +kernel
theorem dLw_law_207 : decode cLw_law 207 = .ok (.laload, 1) := by decide +kernel
theorem dLw_law_208 : decode cLw_law 208 = .ok (.iload 6, 2) := by decide +kernel
theorem dLw_law_210 : decode cLw_law 210 = .ok (.ifCond .eq 7, 3) := by decide +kernel
theorem dLw_law_213 : decode cLw_law 213 = .ok (.lconst 1, 1) := by decide +kernel
theorem dLw_law_214 : decode cLw_law 214 = .ok (.goto 4, 3) := by decide +kernel
theorem dLw_law_217 : decode cLw_law 217 = .ok (.lconst 0, 1) := by decide +kernel
theorem dLw_law_218 : decode cLw_law 218 = .ok (.lcmp, 1) := by decide +kernel
theorem dLw_law_219 : decode cLw_law 219 = .ok (.ifCond .eq 5, 3) := by decide +kernel
theorem dLw_law_222 : decode cLw_law 222 = .ok (.iconst 0, 1) := by decide +kernel
theorem dLw_law_223 : decode cLw_law 223 = .ok (.ireturn, 1) := by decide +kernel
theorem dLw_law_224 : decode cLw_law 224 = .ok (.goto 921, 3) := by decide +kernel
theorem dLw_law_227 : decode cLw_law 227 = .ok (.aload_n 1, 1) := by decide +kernel
theorem dLw_law_228 : decode cLw_law 228 = .ok (.aload_n 0, 1) := by decide +kernel
theorem dLw_law_229 : decode cLw_law 229 = .ok (.iload 4, 2) := by decide +kernel
theorem dLw_law_231 : decode cLw_law 231 = .ok (.iconst 1, 1) := by decide +kernel
theorem dLw_law_232 : decode cLw_law 232 = .ok (.iadd, 1) := by decide +kernel
theorem dLw_law_233 : decode cLw_law 233 = .ok (.iaload, 1) := by decide +kernel
theorem dLw_law_234 : decode cLw_law 234 = .ok (.aload_n 0, 1) := by decide +kernel
theorem dLw_law_235 : decode cLw_law 235 = .ok (.iload 4, 2) := by decide +kernel
theorem dLw_law_237 : decode cLw_law 237 = .ok (.iconst 2, 1) := by decide +kernel
theorem dLw_law_238 : decode cLw_law 238 = .ok (.iadd, 1) := by decide +kernel
theorem dLw_law_239 : decode cLw_law 239 = .ok (.iaload, 1) := by decide +kernel
theorem dLw_law_240 : decode cLw_law 240 = .ok (.aload_n 0, 1) := by decide +kernel
theorem dLw_law_241 : decode cLw_law 241 = .ok (.iload 4, 2) := by decide +kernel
theorem dLw_law_243 : decode cLw_law 243 = .ok (.iconst 3, 1) := by decide +kernel
theorem dLw_law_244 : decode cLw_law 244 = .ok (.iadd, 1) := by decide +kernel
theorem dLw_law_245 : decode cLw_law 245 = .ok (.iaload, 1) := by decide +kernel
theorem dLw_law_246 : decode cLw_law 246 = .ok (.aload_n 0, 1) := by decide +kernel
theorem dLw_law_247 : decode cLw_law 247 = .ok (.iload 4, 2) := by decide +kernel
theorem dLw_law_249 : decode cLw_law 249 = .ok (.iconst 4, 1) := by decide +kernel
theorem dLw_law_250 : decode cLw_law 250 = .ok (.iadd, 1) := by decide +kernel
theorem dLw_law_251 : decode cLw_law 251 = .ok (.iaload, 1) := by decide +kernel
theorem dLw_law_252 : decode cLw_law 252 = .ok (.aload_n 0, 1) := by decide +kernel
theorem dLw_law_253 : decode cLw_law 253 = .ok (.iload 4, 2) := by decide +kernel
theorem dLw_law_255 : decode cLw_law 255 = .ok (.iconst 5, 1) := by decide +kernel
theorem dLw_law_256 : decode cLw_law 256 = .ok (.iadd, 1) := by decide +kernel
theorem dLw_law_257 : decode cLw_law 257 = .ok (.iaload, 1) := by decide +kernel
theorem dLw_law_258 : decode cLw_law 258 = .ok (.aload_n 3, 1) := by decide +kernel
theorem dLw_law_259 : decode cLw_law 259 = .ok (.invokestatic 89, 3) := by decide +kernel
theorem dLw_law_262 : decode cLw_law 262 = .ok (.istore 5, 2) := by decide +kernel
theorem dLw_law_264 : decode cLw_law 264 = .ok (.aload_n 2, 1) := by decide +kernel
theorem dLw_law_265 : decode cLw_law 265 = .ok (.aload_n 0, 1) := by decide +kernel
theorem dLw_law_266 : decode cLw_law 266 = .ok (.iload 4, 2) := by decide +kernel
theorem dLw_law_268 : decode cLw_law 268 = .ok (.iconst 1, 1) := by decide +kernel
theorem dLw_law_269 : decode cLw_law 269 = .ok (.iadd, 1) := by decide +kernel
theorem dLw_law_270 : decode cLw_law 270 = .ok (.iaload, 1) := by decide +kernel
theorem dLw_law_271 : decode cLw_law 271 = .ok (.aload_n 0, 1) := by decide +kernel
theorem dLw_law_272 : decode cLw_law 272 = .ok (.iload 4, 2) := by decide +kernel
theorem dLw_law_274 : decode cLw_law 274 = .ok (.iconst 2, 1) := by decide +kernel
theorem dLw_law_275 : decode cLw_law 275 = .ok (.iadd, 1) := by decide +kernel
theorem dLw_law_276 : decode cLw_law 276 = .ok (.iaload, 1) := by decide +kernel
theorem dLw_law_277 : decode cLw_law 277 = .ok (.aload_n 0, 1) := by decide +kernel
theorem dLw_law_278 : decode cLw_law 278 = .ok (.iload 4, 2) := by decide +kernel
theorem dLw_law_280 : decode cLw_law 280 = .ok (.iconst 3, 1) := by decide +kernel
theorem dLw_law_281 : decode cLw_law 281 = .ok (.iadd, 1) := by decide +kernel
theorem dLw_law_282 : decode cLw_law 282 = .ok (.iaload, 1) := by decide +kernel
theorem dLw_law_283 : decode cLw_law 283 = .ok (.aload_n 0, 1) := by decide +kernel
theorem dLw_law_284 : decode cLw_law 284 = .ok (.iload 4, 2) := by decide +kernel
theorem dLw_law_286 : decode cLw_law 286 = .ok (.iconst 4, 1) := by decide +kernel
theorem dLw_law_287 : decode cLw_law 287 = .ok (.iadd, 1) := by decide +kernel
theorem dLw_law_288 : decode cLw_law 288 = .ok (.iaload, 1) := by decide +kernel
theorem dLw_law_289 : decode cLw_law 289 = .ok (.aload_n 0, 1) := by decide +kernel
theorem dLw_law_290 : decode cLw_law 290 = .ok (.iload 4, 2) := by decide +kernel
theorem dLw_law_292 : decode cLw_law 292 = .ok (.iconst 5, 1) := by decide +kernel
theorem dLw_law_293 : decode cLw_law 293 = .ok (.iadd, 1) := by decide +kernel
theorem dLw_law_294 : decode cLw_law 294 = .ok (.iaload, 1) := by decide +kernel
theorem dLw_law_295 : decode cLw_law 295 = .ok (.invokevirtual 92, 3) := by decide +kernel
theorem dLw_law_298 : decode cLw_law 298 = .ok (.istore 6, 2) := by decide +kernel
theorem dLw_law_300 : decode cLw_law 300 = .ok (.aload_n 2, 1) := by decide +kernel
theorem dLw_law_301 : decode cLw_law 301 = .ok (.invokevirtual 86, 3) := by decide +kernel
theorem dLw_law_304 : decode cLw_law 304 = .ok (.iload 5, 2) := by decide +kernel
theorem dLw_law_306 : decode cLw_law 306 = .ok (.if_icmp .eq 5, 3) := by decide +kernel
theorem dLw_law_309 : decode cLw_law 309 = .ok (.iconst 0, 1) := by decide +kernel
theorem dLw_law_310 : decode cLw_law 310 = .ok (.ireturn, 1) := by decide +kernel
theorem dLw_law_311 : decode cLw_law 311 = .ok (.iload 5, 2) := by decide +kernel
theorem dLw_law_313 : decode cLw_law 313 = .ok (.ifCond .ne 15, 3) := by decide +kernel
theorem dLw_law_316 : decode cLw_law 316 = .ok (.aload_n 3, 1) := by decide +kernel
theorem dLw_law_317 : decode cLw_law 317 = .ok (.iconst 0, 1) := by decide +kernel
theorem dLw_law_318 : decode cLw_law 318 = .ok (.laload, 1) := by decide +kernel
theorem dLw_law_319 : decode cLw_law 319 = .ok (.iload 6, 2) := by decide +kernel
theorem dLw_law_321 : decode cLw_law 321 = .ok (.i2l, 1) := by decide +kernel
theorem dLw_law_322 : decode cLw_law 322 = .ok (.lcmp, 1) := by decide +kernel
theorem dLw_law_323 : decode cLw_law 323 = .ok (.ifCond .eq 5, 3) := by decide +kernel
theorem dLw_law_326 : decode cLw_law 326 = .ok (.iconst 0, 1) := by decide +kernel
theorem dLw_law_327 : decode cLw_law 327 = .ok (.ireturn, 1) := by decide +kernel
theorem dLw_law_328 : decode cLw_law 328 = .ok (.goto 817, 3) := by decide +kernel
theorem dLw_law_331 : decode cLw_law 331 = .ok (.aload_n 1, 1) := by decide +kernel
theorem dLw_law_332 : decode cLw_law 332 = .ok (.aload_n 0, 1) := by decide +kernel
theorem dLw_law_333 : decode cLw_law 333 = .ok (.iload 4, 2) := by decide +kernel
theorem dLw_law_335 : decode cLw_law 335 = .ok (.iconst 1, 1) := by decide +kernel
theorem dLw_law_336 : decode cLw_law 336 = .ok (.iadd, 1) := by decide +kernel
theorem dLw_law_337 : decode cLw_law 337 = .ok (.iaload, 1) := by decide +kernel
theorem dLw_law_338 : decode cLw_law 338 = .ok (.aload_n 0, 1) := by decide +kernel
theorem dLw_law_339 : decode cLw_law 339 = .ok (.iload 4, 2) := by decide +kernel
theorem dLw_law_341 : decode cLw_law 341 = .ok (.iconst 2, 1) := by decide +kernel
theorem dLw_law_342 : decode cLw_law 342 = .ok (.iadd, 1) := by decide +kernel
theorem dLw_law_343 : decode cLw_law 343 = .ok (.iaload, 1) := by decide +kernel
theorem dLw_law_344 : decode cLw_law 344 = .ok (.ifCond .eq 7, 3) := by decide +kernel
theorem dLw_law_347 : decode cLw_law 347 = .ok (.iconst 1, 1) := by decide +kernel
theorem dLw_law_348 : decode cLw_law 348 = .ok (.goto 4, 3) := by decide +kernel
theorem dLw_law_351 : decode cLw_law 351 = .ok (.iconst 0, 1) := by decide +kernel
theorem dLw_law_352 : decode cLw_law 352 = .ok (.aload_n 3, 1) := by decide +kernel
theorem dLw_law_353 : decode cLw_law 353 = .ok (.invokestatic 93, 3) := by decide +kernel
theorem dLw_law_356 : decode cLw_law 356 = .ok (.istore 5, 2) := by decide +kernel
theorem dLw_law_358 : decode cLw_law 358 = .ok (.aload_n 2, 1) := by decide +kernel
theorem dLw_law_359 : decode cLw_law 359 = .ok (.aload_n 0, 1) := by decide +kernel
theorem dLw_law_360 : decode cLw_law 360 = .ok (.iload 4, 2) := by decide +kernel
theorem dLw_law_362 : decode cLw_law 362 = .ok (.iconst 1, 1) := by decide +kernel
theorem dLw_law_363 : decode cLw_law 363 = .ok (.iadd, 1) := by decide +kernel
theorem dLw_law_364 : decode cLw_law 364 = .ok (.iaload, 1) := by decide +kernel
theorem dLw_law_365 : decode cLw_law 365 = .ok (.aload_n 0, 1) := by decide +kernel
theorem dLw_law_366 : decode cLw_law 366 = .ok (.iload 4, 2) := by decide +kernel
theorem dLw_law_368 : decode cLw_law 368 = .ok (.iconst 2, 1) := by decide +kernel
theorem dLw_law_369 : decode cLw_law 369 = .ok (.iadd, 1) := by decide +kernel
theorem dLw_law_370 : decode cLw_law 370 = .ok (.iaload, 1) := by decide +kernel
theorem dLw_law_371 : decode cLw_law 371 = .ok (.ifCond .eq 7, 3) := by decide +kernel
theorem dLw_law_374 : decode cLw_law 374 = .ok (.iconst 1, 1) := by decide +kernel
theorem dLw_law_375 : decode cLw_law 375 = .ok (.goto 4, 3) := by decide +kernel
theorem dLw_law_378 : decode cLw_law 378 = .ok (.iconst 0, 1) := by decide +kernel
theorem dLw_law_379 : decode cLw_law 379 = .ok (.invokevirtual 96, 3) := by decide +kernel
theorem dLw_law_382 : decode cLw_law 382 = .ok (.istore 6, 2) := by decide +kernel
theorem dLw_law_384 : decode cLw_law 384 = .ok (.aload_n 2, 1) := by decide +kernel
theorem dLw_law_385 : decode cLw_law 385 = .ok (.invokevirtual 86, 3) := by decide +kernel
theorem dLw_law_388 : decode cLw_law 388 = .ok (.iload 5, 2) := by decide +kernel
theorem dLw_law_390 : decode cLw_law 390 = .ok (.if_icmp .eq 5, 3) := by decide +kernel
theorem dLw_law_393 : decode cLw_law 393 = .ok (.iconst 0, 1) := by decide +kernel
theorem dLw_law_394 : decode cLw_law 394 = .ok (.ireturn, 1) := by decide +kernel
theorem dLw_law_395 : decode cLw_law 395 = .ok (.iload 5, 2) := by decide +kernel
theorem dLw_law_397 : decode cLw_law 397 = .ok (.ifCond .ne 22, 3) := by decide +kernel
theorem dLw_law_400 : decode cLw_law 400 = .ok (.aload_n 3, 1) := by decide +kernel
theorem dLw_law_401 : decode cLw_law 401 = .ok (.iconst 0, 1) := by decide +kernel
theorem dLw_law_402 : decode cLw_law 402 = .ok (.laload, 1) := by decide +kernel
theorem dLw_law_403 : decode cLw_law 403 = .ok (.iload 6, 2) := by decide +kernel
theorem dLw_law_405 : decode cLw_law 405 = .ok (.ifCond .eq 7, 3) := by decide +kernel
theorem dLw_law_408 : decode cLw_law 408 = .ok (.lconst 1, 1) := by decide +kernel
theorem dLw_law_409 : decode cLw_law 409 = .ok (.goto 4, 3) := by decide +kernel
theorem dLw_law_412 : decode cLw_law 412 = .ok (.lconst 0, 1) := by decide +kernel
theorem dLw_law_413 : decode cLw_law 413 = .ok (.lcmp, 1) := by decide +kernel
theorem dLw_law_414 : decode cLw_law 414 = .ok (.ifCond .eq 5, 3) := by decide +kernel
theorem dLw_law_417 : decode cLw_law 417 = .ok (.iconst 0, 1) := by decide +kernel
theorem dLw_law_418 : decode cLw_law 418 = .ok (.ireturn, 1) := by decide +kernel
theorem dLw_law_419 : decode cLw_law 419 = .ok (.goto 726, 3) := by decide +kernel
theorem dLw_law_422 : decode cLw_law 422 = .ok (.aload_n 1, 1) := by decide +kernel
theorem dLw_law_423 : decode cLw_law 423 = .ok (.aload_n 0, 1) := by decide +kernel
theorem dLw_law_424 : decode cLw_law 424 = .ok (.iload 4, 2) := by decide +kernel
theorem dLw_law_426 : decode cLw_law 426 = .ok (.iconst 1, 1) := by decide +kernel
theorem dLw_law_427 : decode cLw_law 427 = .ok (.iadd, 1) := by decide +kernel
theorem dLw_law_428 : decode cLw_law 428 = .ok (.iaload, 1) := by decide +kernel
theorem dLw_law_429 : decode cLw_law 429 = .ok (.aload_n 0, 1) := by decide +kernel
theorem dLw_law_430 : decode cLw_law 430 = .ok (.iload 4, 2) := by decide +kernel
theorem dLw_law_432 : decode cLw_law 432 = .ok (.iconst 2, 1) := by decide +kernel
theorem dLw_law_433 : decode cLw_law 433 = .ok (.iadd, 1) := by decide +kernel
theorem dLw_law_434 : decode cLw_law 434 = .ok (.iaload, 1) := by decide +kernel
theorem dLw_law_435 : decode cLw_law 435 = .ok (.aload_n 0, 1) := by decide +kernel
theorem dLw_law_436 : decode cLw_law 436 = .ok (.iload 4, 2) := by decide +kernel
theorem dLw_law_438 : decode cLw_law 438 = .ok (.iconst 3, 1) := by decide +kernel
theorem dLw_law_439 : decode cLw_law 439 = .ok (.iadd, 1) := by decide +kernel
theorem dLw_law_440 : decode cLw_law 440 = .ok (.iaload, 1) := by decide +kernel
theorem dLw_law_441 : decode cLw_law 441 = .ok (.aload_n 0, 1) := by decide +kernel
theorem dLw_law_442 : decode cLw_law 442 = .ok (.iload 4, 2) := by decide +kernel
theorem dLw_law_444 : decode cLw_law 444 = .ok (.iconst 4, 1) := by decide +kernel
theorem dLw_law_445 : decode cLw_law 445 = .ok (.iadd, 1) := by decide +kernel
theorem dLw_law_446 : decode cLw_law 446 = .ok (.iaload, 1) := by decide +kernel
theorem dLw_law_447 : decode cLw_law 447 = .ok (.aload_n 3, 1) := by decide +kernel
theorem dLw_law_448 : decode cLw_law 448 = .ok (.invokestatic 97, 3) := by decide +kernel
theorem dLw_law_451 : decode cLw_law 451 = .ok (.istore 5, 2) := by decide +kernel
theorem dLw_law_453 : decode cLw_law 453 = .ok (.aload_n 2, 1) := by decide +kernel
theorem dLw_law_454 : decode cLw_law 454 = .ok (.aload_n 0, 1) := by decide +kernel
theorem dLw_law_455 : decode cLw_law 455 = .ok (.iload 4, 2) := by decide +kernel
theorem dLw_law_457 : decode cLw_law 457 = .ok (.iconst 1, 1) := by decide +kernel
theorem dLw_law_458 : decode cLw_law 458 = .ok (.iadd, 1) := by decide +kernel
theorem dLw_law_459 : decode cLw_law 459 = .ok (.iaload, 1) := by decide +kernel
theorem dLw_law_460 : decode cLw_law 460 = .ok (.aload_n 0, 1) := by decide +kernel
theorem dLw_law_461 : decode cLw_law 461 = .ok (.iload 4, 2) := by decide +kernel
theorem dLw_law_463 : decode cLw_law 463 = .ok (.iconst 2, 1) := by decide +kernel
theorem dLw_law_464 : decode cLw_law 464 = .ok (.iadd, 1) := by decide +kernel
theorem dLw_law_465 : decode cLw_law 465 = .ok (.iaload, 1) := by decide +kernel
theorem dLw_law_466 : decode cLw_law 466 = .ok (.aload_n 0, 1) := by decide +kernel
theorem dLw_law_467 : decode cLw_law 467 = .ok (.iload 4, 2) := by decide +kernel
theorem dLw_law_469 : decode cLw_law 469 = .ok (.iconst 3, 1) := by decide +kernel
theorem dLw_law_470 : decode cLw_law 470 = .ok (.iadd, 1) := by decide +kernel
theorem dLw_law_471 : decode cLw_law 471 = .ok (.iaload, 1) := by decide +kernel
theorem dLw_law_472 : decode cLw_law 472 = .ok (.aload_n 0, 1) := by decide +kernel
theorem dLw_law_473 : decode cLw_law 473 = .ok (.iload 4, 2) := by decide +kernel
theorem dLw_law_475 : decode cLw_law 475 = .ok (.iconst 4, 1) := by decide +kernel
theorem dLw_law_476 : decode cLw_law 476 = .ok (.iadd, 1) := by decide +kernel
theorem dLw_law_477 : decode cLw_law 477 = .ok (.iaload, 1) := by decide +kernel
theorem dLw_law_478 : decode cLw_law 478 = .ok (.invokevirtual 99, 3) := by decide +kernel
theorem dLw_law_481 : decode cLw_law 481 = .ok (.istore 6, 2) := by decide +kernel
theorem dLw_law_483 : decode cLw_law 483 = .ok (.aload_n 2, 1) := by decide +kernel
theorem dLw_law_484 : decode cLw_law 484 = .ok (.invokevirtual 86, 3) := by decide +kernel
theorem dLw_law_487 : decode cLw_law 487 = .ok (.iload 5, 2) := by decide +kernel
theorem dLw_law_489 : decode cLw_law 489 = .ok (.if_icmp .eq 5, 3) := by decide +kernel
theorem dLw_law_492 : decode cLw_law 492 = .ok (.iconst 0, 1) := by decide +kernel
theorem dLw_law_493 : decode cLw_law 493 = .ok (.ireturn, 1) := by decide +kernel
theorem dLw_law_494 : decode cLw_law 494 = .ok (.iload 5, 2) := by decide +kernel
theorem dLw_law_496 : decode cLw_law 496 = .ok (.ifCond .ne 22, 3) := by decide +kernel
theorem dLw_law_499 : decode cLw_law 499 = .ok (.aload_n 3, 1) := by decide +kernel
theorem dLw_law_500 : decode cLw_law 500 = .ok (.iconst 0, 1) := by decide +kernel
theorem dLw_law_501 : decode cLw_law 501 = .ok (.laload, 1) := by decide +kernel
theorem dLw_law_502 : decode cLw_law 502 = .ok (.iload 6, 2) := by decide +kernel
theorem dLw_law_504 : decode cLw_law 504 = .ok (.ifCond .eq 7, 3) := by decide +kernel
theorem dLw_law_507 : decode cLw_law 507 = .ok (.lconst 1, 1) := by decide +kernel
theorem dLw_law_508 : decode cLw_law 508 = .ok (.goto 4, 3) := by decide +kernel
theorem dLw_law_511 : decode cLw_law 511 = .ok (.lconst 0, 1) := by decide +kernel
theorem dLw_law_512 : decode cLw_law 512 = .ok (.lcmp, 1) := by decide +kernel
theorem dLw_law_513 : decode cLw_law 513 = .ok (.ifCond .eq 5, 3) := by decide +kernel
theorem dLw_law_516 : decode cLw_law 516 = .ok (.iconst 0, 1) := by decide +kernel
theorem dLw_law_517 : decode cLw_law 517 = .ok (.ireturn, 1) := by decide +kernel
theorem dLw_law_518 : decode cLw_law 518 = .ok (.goto 627, 3) := by decide +kernel
theorem dLw_law_521 : decode cLw_law 521 = .ok (.aload_n 1, 1) := by decide +kernel
theorem dLw_law_522 : decode cLw_law 522 = .ok (.aload_n 0, 1) := by decide +kernel
theorem dLw_law_523 : decode cLw_law 523 = .ok (.iload 4, 2) := by decide +kernel
theorem dLw_law_525 : decode cLw_law 525 = .ok (.iconst 1, 1) := by decide +kernel
theorem dLw_law_526 : decode cLw_law 526 = .ok (.iadd, 1) := by decide +kernel
theorem dLw_law_527 : decode cLw_law 527 = .ok (.iaload, 1) := by decide +kernel
theorem dLw_law_528 : decode cLw_law 528 = .ok (.aload_n 3, 1) := by decide +kernel
theorem dLw_law_529 : decode cLw_law 529 = .ok (.invokestatic 100, 3) := by decide +kernel
theorem dLw_law_532 : decode cLw_law 532 = .ok (.istore 5, 2) := by decide +kernel
theorem dLw_law_534 : decode cLw_law 534 = .ok (.aload_n 2, 1) := by decide +kernel
theorem dLw_law_535 : decode cLw_law 535 = .ok (.aload_n 0, 1) := by decide +kernel
theorem dLw_law_536 : decode cLw_law 536 = .ok (.iload 4, 2) := by decide +kernel
theorem dLw_law_538 : decode cLw_law 538 = .ok (.iconst 1, 1) := by decide +kernel
theorem dLw_law_539 : decode cLw_law 539 = .ok (.iadd, 1) := by decide +kernel
theorem dLw_law_540 : decode cLw_law 540 = .ok (.iaload, 1) := by decide +kernel
theorem dLw_law_541 : decode cLw_law 541 = .ok (.invokevirtual 103, 3) := by decide +kernel
theorem dLw_law_544 : decode cLw_law 544 = .ok (.istore 6, 2) := by decide +kernel
theorem dLw_law_546 : decode cLw_law 546 = .ok (.aload_n 2, 1) := by decide +kernel
theorem dLw_law_547 : decode cLw_law 547 = .ok (.invokevirtual 86, 3) := by decide +kernel
theorem dLw_law_550 : decode cLw_law 550 = .ok (.iload 5, 2) := by decide +kernel
theorem dLw_law_552 : decode cLw_law 552 = .ok (.if_icmp .eq 5, 3) := by decide +kernel
theorem dLw_law_555 : decode cLw_law 555 = .ok (.iconst 0, 1) := by decide +kernel
theorem dLw_law_556 : decode cLw_law 556 = .ok (.ireturn, 1) := by decide +kernel
theorem dLw_law_557 : decode cLw_law 557 = .ok (.iload 5, 2) := by decide +kernel
theorem dLw_law_559 : decode cLw_law 559 = .ok (.ifCond .ne 15, 3) := by decide +kernel
theorem dLw_law_562 : decode cLw_law 562 = .ok (.aload_n 3, 1) := by decide +kernel
theorem dLw_law_563 : decode cLw_law 563 = .ok (.iconst 0, 1) := by decide +kernel
theorem dLw_law_564 : decode cLw_law 564 = .ok (.laload, 1) := by decide +kernel
theorem dLw_law_565 : decode cLw_law 565 = .ok (.iload 6, 2) := by decide +kernel
theorem dLw_law_567 : decode cLw_law 567 = .ok (.i2l, 1) := by decide +kernel
theorem dLw_law_568 : decode cLw_law 568 = .ok (.lcmp, 1) := by decide +kernel
theorem dLw_law_569 : decode cLw_law 569 = .ok (.ifCond .eq 5, 3) := by decide +kernel
theorem dLw_law_572 : decode cLw_law 572 = .ok (.iconst 0, 1) := by decide +kernel
theorem dLw_law_573 : decode cLw_law 573 = .ok (.ireturn, 1) := by decide +kernel
theorem dLw_law_574 : decode cLw_law 574 = .ok (.goto 571, 3) := by decide +kernel
theorem dLw_law_577 : decode cLw_law 577 = .ok (.aload_n 1, 1) := by decide +kernel
theorem dLw_law_578 : decode cLw_law 578 = .ok (.invokevirtual 104, 3) := by decide +kernel
theorem dLw_law_581 : decode cLw_law 581 = .ok (.aload_n 2, 1) := by decide +kernel
theorem dLw_law_582 : decode cLw_law 582 = .ok (.invokevirtual 107, 3) := by decide +kernel
theorem dLw_law_585 : decode cLw_law 585 = .ok (.if_icmp .eq 560, 3) := by decide +kernel
theorem dLw_law_588 : decode cLw_law 588 = .ok (.iconst 0, 1) := by decide +kernel
theorem dLw_law_589 : decode cLw_law 589 = .ok (.ireturn, 1) := by decide +kernel
theorem dLw_law_590 : decode cLw_law 590 = .ok (.aload_n 1, 1) := by decide +kernel
theorem dLw_law_591 : decode cLw_law 591 = .ok (.aload_n 0, 1) := by decide +kernel
theorem dLw_law_592 : decode cLw_law 592 = .ok (.iload 4, 2) := by decide +kernel
theorem dLw_law_594 : decode cLw_law 594 = .ok (.iconst 1, 1) := by decide +kernel
theorem dLw_law_595 : decode cLw_law 595 = .ok (.iadd, 1) := by decide +kernel
theorem dLw_law_596 : decode cLw_law 596 = .ok (.iaload, 1) := by decide +kernel
theorem dLw_law_597 : decode cLw_law 597 = .ok (.aload_n 0, 1) := by decide +kernel
theorem dLw_law_598 : decode cLw_law 598 = .ok (.iload 4, 2) := by decide +kernel
theorem dLw_law_600 : decode cLw_law 600 = .ok (.iconst 2, 1) := by decide +kernel
theorem dLw_law_601 : decode cLw_law 601 = .ok (.iadd, 1) := by decide +kernel
theorem dLw_law_602 : decode cLw_law 602 = .ok (.iaload, 1) := by decide +kernel
theorem dLw_law_603 : decode cLw_law 603 = .ok (.aload_n 3, 1) := by decide +kernel
theorem dLw_law_604 : decode cLw_law 604 = .ok (.invokestatic 108, 3) := by decide +kernel
theorem dLw_law_607 : decode cLw_law 607 = .ok (.istore 5, 2) := by decide +kernel
theorem dLw_law_609 : decode cLw_law 609 = .ok (.aload_n 2, 1) := by decide +kernel
theorem dLw_law_610 : decode cLw_law 610 = .ok (.aload_n 0, 1) := by decide +kernel
theorem dLw_law_611 : decode cLw_law 611 = .ok (.iload 4, 2) := by decide +kernel
theorem dLw_law_613 : decode cLw_law 613 = .ok (.iconst 1, 1) := by decide +kernel
theorem dLw_law_614 : decode cLw_law 614 = .ok (.iadd, 1) := by decide +kernel
theorem dLw_law_615 : decode cLw_law 615 = .ok (.iaload, 1) := by decide +kernel
theorem dLw_law_616 : decode cLw_law 616 = .ok (.aload_n 0, 1) := by decide +kernel
theorem dLw_law_617 : decode cLw_law 617 = .ok (.iload 4, 2) := by decide +kernel
theorem dLw_law_619 : decode cLw_law 619 = .ok (.iconst 2, 1) := by decide +kernel
theorem dLw_law_620 : decode cLw_law 620 = .ok (.iadd, 1) := by decide +kernel
theorem dLw_law_621 : decode cLw_law 621 = .ok (.iaload, 1) := by decide +kernel
theorem dLw_law_622 : decode cLw_law 622 = .ok (.invokevirtual 111, 3) := by decide +kernel
theorem dLw_law_625 : decode cLw_law 625 = .ok (.istore 6, 2) := by decide +kernel
theorem dLw_law_627 : decode cLw_law 627 = .ok (.aload_n 2, 1) := by decide +kernel
theorem dLw_law_628 : decode cLw_law 628 = .ok (.invokevirtual 86, 3) := by decide +kernel
theorem dLw_law_631 : decode cLw_law 631 = .ok (.iload 5, 2) := by decide +kernel
theorem dLw_law_633 : decode cLw_law 633 = .ok (.if_icmp .eq 5, 3) := by decide +kernel
theorem dLw_law_636 : decode cLw_law 636 = .ok (.iconst 0, 1) := by decide +kernel
theorem dLw_law_637 : decode cLw_law 637 = .ok (.ireturn, 1) := by decide +kernel
theorem dLw_law_638 : decode cLw_law 638 = .ok (.iload 5, 2) := by decide +kernel
theorem dLw_law_640 : decode cLw_law 640 = .ok (.ifCond .ne 15, 3) := by decide +kernel
theorem dLw_law_643 : decode cLw_law 643 = .ok (.aload_n 3, 1) := by decide +kernel
theorem dLw_law_644 : decode cLw_law 644 = .ok (.iconst 0, 1) := by decide +kernel
theorem dLw_law_645 : decode cLw_law 645 = .ok (.laload, 1) := by decide +kernel
theorem dLw_law_646 : decode cLw_law 646 = .ok (.iload 6, 2) := by decide +kernel
theorem dLw_law_648 : decode cLw_law 648 = .ok (.i2l, 1) := by decide +kernel
theorem dLw_law_649 : decode cLw_law 649 = .ok (.lcmp, 1) := by decide +kernel
theorem dLw_law_650 : decode cLw_law 650 = .ok (.ifCond .eq 5, 3) := by decide +kernel
theorem dLw_law_653 : decode cLw_law 653 = .ok (.iconst 0, 1) := by decide +kernel
theorem dLw_law_654 : decode cLw_law 654 = .ok (.ireturn, 1) := by decide +kernel
theorem dLw_law_655 : decode cLw_law 655 = .ok (.goto 490, 3) := by decide +kernel
theorem dLw_law_658 : decode cLw_law 658 = .ok (.aload_n 1, 1) := by decide +kernel
theorem dLw_law_659 : decode cLw_law 659 = .ok (.aload_n 0, 1) := by decide +kernel
theorem dLw_law_660 : decode cLw_law 660 = .ok (.iload 4, 2) := by decide +kernel
theorem dLw_law_662 : decode cLw_law 662 = .ok (.iconst 1, 1) := by decide +kernel
theorem dLw_law_663 : decode cLw_law 663 = .ok (.iadd, 1) := by decide +kernel
theorem dLw_law_664 : decode cLw_law 664 = .ok (.iaload, 1) := by decide +kernel
theorem dLw_law_665 : decode cLw_law 665 = .ok (.aload_n 0, 1) := by decide +kernel
theorem dLw_law_666 : decode cLw_law 666 = .ok (.iload 4, 2) := by decide +kernel
theorem dLw_law_668 : decode cLw_law 668 = .ok (.iconst 2, 1) := by decide +kernel
theorem dLw_law_669 : decode cLw_law 669 = .ok (.iadd, 1) := by decide +kernel
theorem dLw_law_670 : decode cLw_law 670 = .ok (.iaload, 1) := by decide +kernel
theorem dLw_law_671 : decode cLw_law 671 = .ok (.aload_n 3, 1) := by decide +kernel
theorem dLw_law_672 : decode cLw_law 672 = .ok (.invokestatic 112, 3) := by decide +kernel
theorem dLw_law_675 : decode cLw_law 675 = .ok (.istore 5, 2) := by decide +kernel
theorem dLw_law_677 : decode cLw_law 677 = .ok (.aload_n 2, 1) := by decide +kernel
theorem dLw_law_678 : decode cLw_law 678 = .ok (.aload_n 0, 1) := by decide +kernel
theorem dLw_law_679 : decode cLw_law 679 = .ok (.iload 4, 2) := by decide +kernel
theorem dLw_law_681 : decode cLw_law 681 = .ok (.iconst 1, 1) := by decide +kernel
theorem dLw_law_682 : decode cLw_law 682 = .ok (.iadd, 1) := by decide +kernel
theorem dLw_law_683 : decode cLw_law 683 = .ok (.iaload, 1) := by decide +kernel
theorem dLw_law_684 : decode cLw_law 684 = .ok (.aload_n 0, 1) := by decide +kernel
theorem dLw_law_685 : decode cLw_law 685 = .ok (.iload 4, 2) := by decide +kernel
theorem dLw_law_687 : decode cLw_law 687 = .ok (.iconst 2, 1) := by decide +kernel
theorem dLw_law_688 : decode cLw_law 688 = .ok (.iadd, 1) := by decide +kernel
theorem dLw_law_689 : decode cLw_law 689 = .ok (.iaload, 1) := by decide +kernel
theorem dLw_law_690 : decode cLw_law 690 = .ok (.invokevirtual 114, 3) := by decide +kernel
theorem dLw_law_693 : decode cLw_law 693 = .ok (.istore 6, 2) := by decide +kernel
theorem dLw_law_695 : decode cLw_law 695 = .ok (.aload_n 2, 1) := by decide +kernel
theorem dLw_law_696 : decode cLw_law 696 = .ok (.invokevirtual 86, 3) := by decide +kernel
theorem dLw_law_699 : decode cLw_law 699 = .ok (.iload 5, 2) := by decide +kernel
theorem dLw_law_701 : decode cLw_law 701 = .ok (.if_icmp .eq 5, 3) := by decide +kernel
theorem dLw_law_704 : decode cLw_law 704 = .ok (.iconst 0, 1) := by decide +kernel
theorem dLw_law_705 : decode cLw_law 705 = .ok (.ireturn, 1) := by decide +kernel
theorem dLw_law_706 : decode cLw_law 706 = .ok (.iload 5, 2) := by decide +kernel
theorem dLw_law_708 : decode cLw_law 708 = .ok (.ifCond .ne 22, 3) := by decide +kernel
theorem dLw_law_711 : decode cLw_law 711 = .ok (.aload_n 3, 1) := by decide +kernel
theorem dLw_law_712 : decode cLw_law 712 = .ok (.iconst 0, 1) := by decide +kernel
theorem dLw_law_713 : decode cLw_law 713 = .ok (.laload, 1) := by decide +kernel
theorem dLw_law_714 : decode cLw_law 714 = .ok (.iload 6, 2) := by decide +kernel
theorem dLw_law_716 : decode cLw_law 716 = .ok (.ifCond .eq 7, 3) := by decide +kernel
theorem dLw_law_719 : decode cLw_law 719 = .ok (.lconst 1, 1) := by decide +kernel
theorem dLw_law_720 : decode cLw_law 720 = .ok (.goto 4, 3) := by decide +kernel
theorem dLw_law_723 : decode cLw_law 723 = .ok (.lconst 0, 1) := by decide +kernel
theorem dLw_law_724 : decode cLw_law 724 = .ok (.lcmp, 1) := by decide +kernel
theorem dLw_law_725 : decode cLw_law 725 = .ok (.ifCond .eq 5, 3) := by decide +kernel
theorem dLw_law_728 : decode cLw_law 728 = .ok (.iconst 0, 1) := by decide +kernel
theorem dLw_law_729 : decode cLw_law 729 = .ok (.ireturn, 1) := by decide +kernel
theorem dLw_law_730 : decode cLw_law 730 = .ok (.goto 415, 3) := by decide +kernel
theorem dLw_law_733 : decode cLw_law 733 = .ok (.aload_n 1, 1) := by decide +kernel
theorem dLw_law_734 : decode cLw_law 734 = .ok (.aload_n 0, 1) := by decide +kernel
theorem dLw_law_735 : decode cLw_law 735 = .ok (.iload 4, 2) := by decide +kernel
theorem dLw_law_737 : decode cLw_law 737 = .ok (.iconst 1, 1) := by decide +kernel
theorem dLw_law_738 : decode cLw_law 738 = .ok (.iadd, 1) := by decide +kernel
theorem dLw_law_739 : decode cLw_law 739 = .ok (.iaload, 1) := by decide +kernel
theorem dLw_law_740 : decode cLw_law 740 = .ok (.aload_n 3, 1) := by decide +kernel
theorem dLw_law_741 : decode cLw_law 741 = .ok (.invokestatic 115, 3) := by decide +kernel
theorem dLw_law_744 : decode cLw_law 744 = .ok (.istore 5, 2) := by decide +kernel
theorem dLw_law_746 : decode cLw_law 746 = .ok (.aload_n 2, 1) := by decide +kernel
theorem dLw_law_747 : decode cLw_law 747 = .ok (.aload_n 0, 1) := by decide +kernel
theorem dLw_law_748 : decode cLw_law 748 = .ok (.iload 4, 2) := by decide +kernel
theorem dLw_law_750 : decode cLw_law 750 = .ok (.iconst 1, 1) := by decide +kernel
theorem dLw_law_751 : decode cLw_law 751 = .ok (.iadd, 1) := by decide +kernel
theorem dLw_law_752 : decode cLw_law 752 = .ok (.iaload, 1) := by decide +kernel
theorem dLw_law_753 : decode cLw_law 753 = .ok (.invokevirtual 117, 3) := by decide +kernel
theorem dLw_law_756 : decode cLw_law 756 = .ok (.istore 6, 2) := by decide +kernel
theorem dLw_law_758 : decode cLw_law 758 = .ok (.aload_n 2, 1) := by decide +kernel
theorem dLw_law_759 : decode cLw_law 759 = .ok (.invokevirtual 86, 3) := by decide +kernel
theorem dLw_law_762 : decode cLw_law 762 = .ok (.iload 5, 2) := by decide +kernel
theorem dLw_law_764 : decode cLw_law 764 = .ok (.if_icmp .eq 5, 3) := by decide +kernel
theorem dLw_law_767 : decode cLw_law 767 = .ok (.iconst 0, 1) := by decide +kernel
theorem dLw_law_768 : decode cLw_law 768 = .ok (.ireturn, 1) := by decide +kernel
theorem dLw_law_769 : decode cLw_law 769 = .ok (.iload 5, 2) := by decide +kernel
theorem dLw_law_771 : decode cLw_law 771 = .ok (.ifCond .ne 15, 3) := by decide +kernel
theorem dLw_law_774 : decode cLw_law 774 = .ok (.aload_n 3, 1) := by decide +kernel
theorem dLw_law_775 : decode cLw_law 775 = .ok (.iconst 0, 1) := by decide +kernel
theorem dLw_law_776 : decode cLw_law 776 = .ok (.laload, 1) := by decide +kernel
theorem dLw_law_777 : decode cLw_law 777 = .ok (.iload 6, 2) := by decide +kernel
theorem dLw_law_779 : decode cLw_law 779 = .ok (.i2l, 1) := by decide +kernel
theorem dLw_law_780 : decode cLw_law 780 = .ok (.lcmp, 1) := by decide +kernel
theorem dLw_law_781 : decode cLw_law 781 = .ok (.ifCond .eq 5, 3) := by decide +kernel
theorem dLw_law_784 : decode cLw_law 784 = .ok (.iconst 0, 1) := by decide +kernel
theorem dLw_law_785 : decode cLw_law 785 = .ok (.ireturn, 1) := by decide +kernel
theorem dLw_law_786 : decode cLw_law 786 = .ok (.goto 359, 3) := by decide +kernel
theorem dLw_law_789 : decode cLw_law 789 = .ok (.aload_n 1, 1) := by decide +kernel
theorem dLw_law_790 : decode cLw_law 790 = .ok (.aload_n 0, 1) := by decide +kernel
theorem dLw_law_791 : decode cLw_law 791 = .ok (.iload 4, 2) := by decide +kernel
theorem dLw_law_793 : decode cLw_law 793 = .ok (.iconst 1, 1) := by decide +kernel
theorem dLw_law_794 : decode cLw_law 794 = .ok (.iadd, 1) := by decide +kernel
theorem dLw_law_795 : decode cLw_law 795 = .ok (.iaload, 1) := by decide +kernel
theorem dLw_law_796 : decode cLw_law 796 = .ok (.aload_n 3, 1) := by decide +kernel
theorem dLw_law_797 : decode cLw_law 797 = .ok (.invokestatic 118, 3) := by decide +kernel
theorem dLw_law_800 : decode cLw_law 800 = .ok (.istore 5, 2) := by decide +kernel
theorem dLw_law_802 : decode cLw_law 802 = .ok (.aload_n 2, 1) := by decide +kernel
theorem dLw_law_803 : decode cLw_law 803 = .ok (.aload_n 0, 1) := by decide +kernel
theorem dLw_law_804 : decode cLw_law 804 = .ok (.iload 4, 2) := by decide +kernel
theorem dLw_law_806 : decode cLw_law 806 = .ok (.iconst 1, 1) := by decide +kernel
theorem dLw_law_807 : decode cLw_law 807 = .ok (.iadd, 1) := by decide +kernel
theorem dLw_law_808 : decode cLw_law 808 = .ok (.iaload, 1) := by decide +kernel
theorem dLw_law_809 : decode cLw_law 809 = .ok (.invokevirtual 120, 3) := by decide +kernel
theorem dLw_law_812 : decode cLw_law 812 = .ok (.istore 6, 2) := by decide +kernel
theorem dLw_law_814 : decode cLw_law 814 = .ok (.aload_n 2, 1) := by decide +kernel
theorem dLw_law_815 : decode cLw_law 815 = .ok (.invokevirtual 86, 3) := by decide +kernel
theorem dLw_law_818 : decode cLw_law 818 = .ok (.iload 5, 2) := by decide +kernel
theorem dLw_law_820 : decode cLw_law 820 = .ok (.if_icmp .eq 5, 3) := by decide +kernel
theorem dLw_law_823 : decode cLw_law 823 = .ok (.iconst 0, 1) := by decide +kernel
theorem dLw_law_824 : decode cLw_law 824 = .ok (.ireturn, 1) := by decide +kernel
theorem dLw_law_825 : decode cLw_law 825 = .ok (.iload 5, 2) := by decide +kernel
theorem dLw_law_827 : decode cLw_law 827 = .ok (.ifCond .ne 22, 3) := by decide +kernel
theorem dLw_law_830 : decode cLw_law 830 = .ok (.aload_n 3, 1) := by decide +kernel
theorem dLw_law_831 : decode cLw_law 831 = .ok (.iconst 0, 1) := by decide +kernel
theorem dLw_law_832 : decode cLw_law 832 = .ok (.laload, 1) := by decide +kernel
theorem dLw_law_833 : decode cLw_law 833 = .ok (.iload 6, 2) := by decide +kernel
theorem dLw_law_835 : decode cLw_law 835 = .ok (.ifCond .eq 7, 3) := by decide +kernel
theorem dLw_law_838 : decode cLw_law 838 = .ok (.lconst 1, 1) := by decide +kernel
theorem dLw_law_839 : decode cLw_law 839 = .ok (.goto 4, 3) := by decide +kernel
theorem dLw_law_842 : decode cLw_law 842 = .ok (.lconst 0, 1) := by decide +kernel
theorem dLw_law_843 : decode cLw_law 843 = .ok (.lcmp, 1) := by decide +kernel
theorem dLw_law_844 : decode cLw_law 844 = .ok (.ifCond .eq 5, 3) := by decide +kernel
theorem dLw_law_847 : decode cLw_law 847 = .ok (.iconst 0, 1) := by decide +kernel
theorem dLw_law_848 : decode cLw_law 848 = .ok (.ireturn, 1) := by decide +kernel
theorem dLw_law_849 : decode cLw_law 849 = .ok (.goto 296, 3) := by decide +kernel
theorem dLw_law_852 : decode cLw_law 852 = .ok (.aload_n 1, 1) := by decide +kernel
theorem dLw_law_853 : decode cLw_law 853 = .ok (.aload_n 0, 1) := by decide +kernel
theorem dLw_law_854 : decode cLw_law 854 = .ok (.iload 4, 2) := by decide +kernel
theorem dLw_law_856 : decode cLw_law 856 = .ok (.iconst 1, 1) := by decide +kernel
theorem dLw_law_857 : decode cLw_law 857 = .ok (.iadd, 1) := by decide +kernel
theorem dLw_law_858 : decode cLw_law 858 = .ok (.iaload, 1) := by decide +kernel
theorem dLw_law_859 : decode cLw_law 859 = .ok (.aload_n 3, 1) := by decide +kernel
theorem dLw_law_860 : decode cLw_law 860 = .ok (.invokestatic 121, 3) := by decide +kernel
theorem dLw_law_863 : decode cLw_law 863 = .ok (.istore 5, 2) := by decide +kernel
theorem dLw_law_865 : decode cLw_law 865 = .ok (.aload_n 2, 1) := by decide +kernel
theorem dLw_law_866 : decode cLw_law 866 = .ok (.aload_n 0, 1) := by decide +kernel
theorem dLw_law_867 : decode cLw_law 867 = .ok (.iload 4, 2) := by decide +kernel
theorem dLw_law_869 : decode cLw_law 869 = .ok (.iconst 1, 1) := by decide +kernel
theorem dLw_law_870 : decode cLw_law 870 = .ok (.iadd, 1) := by decide +kernel
theorem dLw_law_871 : decode cLw_law 871 = .ok (.iaload, 1) := by decide +kernel
theorem dLw_law_872 : decode cLw_law 872 = .ok (.invokevirtual 123, 3) := by decide +kernel
theorem dLw_law_875 : decode cLw_law 875 = .ok (.istore 6, 2) := by decide +kernel
theorem dLw_law_877 : decode cLw_law 877 = .ok (.aload_n 2, 1) := by decide +kernel
theorem dLw_law_878 : decode cLw_law 878 = .ok (.invokevirtual 86, 3) := by decide +kernel
theorem dLw_law_881 : decode cLw_law 881 = .ok (.iload 5, 2) := by decide +kernel
theorem dLw_law_883 : decode cLw_law 883 = .ok (.if_icmp .eq 5, 3) := by decide +kernel
theorem dLw_law_886 : decode cLw_law 886 = .ok (.iconst 0, 1) := by decide +kernel
theorem dLw_law_887 : decode cLw_law 887 = .ok (.ireturn, 1) := by decide +kernel
theorem dLw_law_888 : decode cLw_law 888 = .ok (.iload 5, 2) := by decide +kernel
theorem dLw_law_890 : decode cLw_law 890 = .ok (.ifCond .ne 15, 3) := by decide +kernel
theorem dLw_law_893 : decode cLw_law 893 = .ok (.aload_n 3, 1) := by decide +kernel
theorem dLw_law_894 : decode cLw_law 894 = .ok (.iconst 0, 1) := by decide +kernel
theorem dLw_law_895 : decode cLw_law 895 = .ok (.laload, 1) := by decide +kernel
theorem dLw_law_896 : decode cLw_law 896 = .ok (.iload 6, 2) := by decide +kernel
theorem dLw_law_898 : decode cLw_law 898 = .ok (.i2l, 1) := by decide +kernel
theorem dLw_law_899 : decode cLw_law 899 = .ok (.lcmp, 1) := by decide +kernel
theorem dLw_law_900 : decode cLw_law 900 = .ok (.ifCond .eq 5, 3) := by decide +kernel
theorem dLw_law_903 : decode cLw_law 903 = .ok (.iconst 0, 1) := by decide +kernel
theorem dLw_law_904 : decode cLw_law 904 = .ok (.ireturn, 1) := by decide +kernel
theorem dLw_law_905 : decode cLw_law 905 = .ok (.goto 240, 3) := by decide +kernel
theorem dLw_law_908 : decode cLw_law 908 = .ok (.aload_n 1, 1) := by decide +kernel
theorem dLw_law_909 : decode cLw_law 909 = .ok (.aload_n 3, 1) := by decide +kernel
theorem dLw_law_910 : decode cLw_law 910 = .ok (.invokestatic 124, 3) := by decide +kernel
theorem dLw_law_913 : decode cLw_law 913 = .ok (.istore 5, 2) := by decide +kernel
theorem dLw_law_915 : decode cLw_law 915 = .ok (.aload_n 2, 1) := by decide +kernel
theorem dLw_law_916 : decode cLw_law 916 = .ok (.invokevirtual 127, 3) := by decide +kernel
theorem dLw_law_919 : decode cLw_law 919 = .ok (.lstore 6, 2) := by decide +kernel
theorem dLw_law_921 : decode cLw_law 921 = .ok (.aload_n 2, 1) := by decide +kernel
theorem dLw_law_922 : decode cLw_law 922 = .ok (.invokevirtual 86, 3) := by decide +kernel
theorem dLw_law_925 : decode cLw_law 925 = .ok (.iload 5, 2) := by decide +kernel
theorem dLw_law_927 : decode cLw_law 927 = .ok (.if_icmp .eq 5, 3) := by decide +kernel
theorem dLw_law_930 : decode cLw_law 930 = .ok (.iconst 0, 1) := by decide +kernel
theorem dLw_law_931 : decode cLw_law 931 = .ok (.ireturn, 1) := by decide +kernel
theorem dLw_law_932 : decode cLw_law 932 = .ok (.iload 5, 2) := by decide +kernel
theorem dLw_law_934 : decode cLw_law 934 = .ok (.ifCond .ne 14, 3) := by decide +kernel
theorem dLw_law_937 : decode cLw_law 937 = .ok (.aload_n 3, 1) := by decide +kernel
theorem dLw_law_938 : decode cLw_law 938 = .ok (.iconst 0, 1) := by decide +kernel
theorem dLw_law_939 : decode cLw_law 939 = .ok (.laload, 1) := by decide +kernel
theorem dLw_law_940 : decode cLw_law 940 = .ok (.lload 6, 2) := by decide +kernel
theorem dLw_law_942 : decode cLw_law 942 = .ok (.lcmp, 1) := by decide +kernel
theorem dLw_law_943 : decode cLw_law 943 = .ok (.ifCond .eq 5, 3) := by decide +kernel
theorem dLw_law_946 : decode cLw_law 946 = .ok (.iconst 0, 1) := by decide +kernel
theorem dLw_law_947 : decode cLw_law 947 = .ok (.ireturn, 1) := by decide +kernel
theorem dLw_law_948 : decode cLw_law 948 = .ok (.goto 197, 3) := by decide +kernel
theorem dLw_law_951 : decode cLw_law 951 = .ok (.aload_n 1, 1) := by decide +kernel
theorem dLw_law_952 : decode cLw_law 952 = .ok (.aload_n 3, 1) := by decide +kernel
theorem dLw_law_953 : decode cLw_law 953 = .ok (.invokestatic 128, 3) := by decide +kernel
theorem dLw_law_956 : decode cLw_law 956 = .ok (.istore 5, 2) := by decide +kernel
theorem dLw_law_958 : decode cLw_law 958 = .ok (.aload_n 2, 1) := by decide +kernel
theorem dLw_law_959 : decode cLw_law 959 = .ok (.invokevirtual 130, 3) := by decide +kernel
theorem dLw_law_962 : decode cLw_law 962 = .ok (.istore 6, 2) := by decide +kernel
theorem dLw_law_964 : decode cLw_law 964 = .ok (.aload_n 2, 1) := by decide +kernel
theorem dLw_law_965 : decode cLw_law 965 = .ok (.invokevirtual 86, 3) := by decide +kernel
theorem dLw_law_968 : decode cLw_law 968 = .ok (.iload 5, 2) := by decide +kernel
theorem dLw_law_970 : decode cLw_law 970 = .ok (.if_icmp .eq 5, 3) := by decide +kernel
theorem dLw_law_973 : decode cLw_law 973 = .ok (.iconst 0, 1) := by decide +kernel
theorem dLw_law_974 : decode cLw_law 974 = .ok (.ireturn, 1) := by decide +kernel
theorem dLw_law_975 : decode cLw_law 975 = .ok (.iload 5, 2) := by decide +kernel
theorem dLw_law_977 : decode cLw_law 977 = .ok (.ifCond .ne 22, 3) := by decide +kernel
theorem dLw_law_980 : decode cLw_law 980 = .ok (.aload_n 3, 1) := by decide +kernel
theorem dLw_law_981 : decode cLw_law 981 = .ok (.iconst 0, 1) := by decide +kernel
theorem dLw_law_982 : decode cLw_law 982 = .ok (.laload, 1) := by decide +kernel
theorem dLw_law_983 : decode cLw_law 983 = .ok (.iload 6, 2) := by decide +kernel
theorem dLw_law_985 : decode cLw_law 985 = .ok (.ifCond .eq 7, 3) := by decide +kernel
theorem dLw_law_988 : decode cLw_law 988 = .ok (.lconst 1, 1) := by decide +kernel
theorem dLw_law_989 : decode cLw_law 989 = .ok (.goto 4, 3) := by decide +kernel
theorem dLw_law_992 : decode cLw_law 992 = .ok (.lconst 0, 1) := by decide +kernel
theorem dLw_law_993 : decode cLw_law 993 = .ok (.lcmp, 1) := by decide +kernel
theorem dLw_law_994 : decode cLw_law 994 = .ok (.ifCond .eq 5, 3) := by decide +kernel
theorem dLw_law_997 : decode cLw_law 997 = .ok (.iconst 0, 1) := by decide +kernel
theorem dLw_law_998 : decode cLw_law 998 = .ok (.ireturn, 1) := by decide +kernel
theorem dLw_law_999 : decode cLw_law 999 = .ok (.goto 146, 3) := by decide +kernel
theorem dLw_law_1002 : decode cLw_law 1002 = .ok (.aload_n 1, 1) := by decide +kernel
theorem dLw_law_1003 : decode cLw_law 1003 = .ok (.aload_n 3, 1) := by decide +kernel
theorem dLw_law_1004 : decode cLw_law 1004 = .ok (.invokestatic 131, 3) := by decide +kernel
theorem dLw_law_1007 : decode cLw_law 1007 = .ok (.istore 5, 2) := by decide +kernel
theorem dLw_law_1009 : decode cLw_law 1009 = .ok (.aload_n 2, 1) := by decide +kernel
theorem dLw_law_1010 : decode cLw_law 1010 = .ok (.invokevirtual 133, 3) := by decide +kernel
theorem dLw_law_1013 : decode cLw_law 1013 = .ok (.istore 6, 2) := by decide +kernel
theorem dLw_law_1015 : decode cLw_law 1015 = .ok (.aload_n 2, 1) := by decide +kernel
theorem dLw_law_1016 : decode cLw_law 1016 = .ok (.invokevirtual 86, 3) := by decide +kernel
theorem dLw_law_1019 : decode cLw_law 1019 = .ok (.iload 5, 2) := by decide +kernel
theorem dLw_law_1021 : decode cLw_law 1021 = .ok (.if_icmp .eq 5, 3) := by decide +kernel
theorem dLw_law_1024 : decode cLw_law 1024 = .ok (.iconst 0, 1) := by decide +kernel
theorem dLw_law_1025 : decode cLw_law 1025 = .ok (.ireturn, 1) := by decide +kernel
theorem dLw_law_1026 : decode cLw_law 1026 = .ok (.iload 5, 2) := by decide +kernel
theorem dLw_law_1028 : decode cLw_law 1028 = .ok (.ifCond .ne 15, 3) := by decide +kernel
theorem dLw_law_1031 : decode cLw_law 1031 = .ok (.aload_n 3, 1) := by decide +kernel
theorem dLw_law_1032 : decode cLw_law 1032 = .ok (.iconst 0, 1) := by decide +kernel
theorem dLw_law_1033 : decode cLw_law 1033 = .ok (.laload, 1) := by decide +kernel
theorem dLw_law_1034 : decode cLw_law 1034 = .ok (.iload 6, 2) := by decide +kernel
theorem dLw_law_1036 : decode cLw_law 1036 = .ok (.i2l, 1) := by decide +kernel
theorem dLw_law_1037 : decode cLw_law 1037 = .ok (.lcmp, 1) := by decide +kernel
theorem dLw_law_1038 : decode cLw_law 1038 = .ok (.ifCond .eq 5, 3) := by decide +kernel
theorem dLw_law_1041 : decode cLw_law 1041 = .ok (.iconst 0, 1) := by decide +kernel
theorem dLw_law_1042 : decode cLw_law 1042 = .ok (.ireturn, 1) := by decide +kernel
theorem dLw_law_1043 : decode cLw_law 1043 = .ok (.goto 102, 3) := by decide +kernel
theorem dLw_law_1046 : decode cLw_law 1046 = .ok (.aload_n 1, 1) := by decide +kernel
theorem dLw_law_1047 : decode cLw_law 1047 = .ok (.aload_n 0, 1) := by decide +kernel
theorem dLw_law_1048 : decode cLw_law 1048 = .ok (.iload 4, 2) := by decide +kernel
theorem dLw_law_1050 : decode cLw_law 1050 = .ok (.iconst 1, 1) := by decide +kernel
theorem dLw_law_1051 : decode cLw_law 1051 = .ok (.iadd, 1) := by decide +kernel
theorem dLw_law_1052 : decode cLw_law 1052 = .ok (.iaload, 1) := by decide +kernel
theorem dLw_law_1053 : decode cLw_law 1053 = .ok (.aload_n 3, 1) := by decide +kernel
theorem dLw_law_1054 : decode cLw_law 1054 = .ok (.invokestatic 134, 3) := by decide +kernel
theorem dLw_law_1057 : decode cLw_law 1057 = .ok (.istore 5, 2) := by decide +kernel
theorem dLw_law_1059 : decode cLw_law 1059 = .ok (.aload_n 2, 1) := by decide +kernel
theorem dLw_law_1060 : decode cLw_law 1060 = .ok (.aload_n 0, 1) := by decide +kernel
theorem dLw_law_1061 : decode cLw_law 1061 = .ok (.iload 4, 2) := by decide +kernel
theorem dLw_law_1063 : decode cLw_law 1063 = .ok (.iconst 1, 1) := by decide +kernel
theorem dLw_law_1064 : decode cLw_law 1064 = .ok (.iadd, 1) := by decide +kernel
theorem dLw_law_1065 : decode cLw_law 1065 = .ok (.iaload, 1) := by decide +kernel
theorem dLw_law_1066 : decode cLw_law 1066 = .ok (.invokevirtual 136, 3) := by decide +kernel
theorem dLw_law_1069 : decode cLw_law 1069 = .ok (.istore 6, 2) := by decide +kernel
theorem dLw_law_1071 : decode cLw_law 1071 = .ok (.aload_n 2, 1) := by decide +kernel
theorem dLw_law_1072 : decode cLw_law 1072 = .ok (.invokevirtual 86, 3) := by decide +kernel
theorem dLw_law_1075 : decode cLw_law 1075 = .ok (.iload 5, 2) := by decide +kernel
theorem dLw_law_1077 : decode cLw_law 1077 = .ok (.if_icmp .eq 5, 3) := by decide +kernel
theorem dLw_law_1080 : decode cLw_law 1080 = .ok (.iconst 0, 1) := by decide +kernel
theorem dLw_law_1081 : decode cLw_law 1081 = .ok (.ireturn, 1) := by decide +kernel
theorem dLw_law_1082 : decode cLw_law 1082 = .ok (.iload 5, 2) := by decide +kernel
theorem dLw_law_1084 : decode cLw_law 1084 = .ok (.ifCond .ne 15, 3) := by decide +kernel
theorem dLw_law_1087 : decode cLw_law 1087 = .ok (.aload_n 3, 1) := by decide +kernel
theorem dLw_law_1088 : decode cLw_law 1088 = .ok (.iconst 0, 1) := by decide +kernel
theorem dLw_law_1089 : decode cLw_law 1089 = .ok (.laload, 1) := by decide +kernel
theorem dLw_law_1090 : decode cLw_law 1090 = .ok (.iload 6, 2) := by decide +kernel
theorem dLw_law_1092 : decode cLw_law 1092 = .ok (.i2l, 1) := by decide +kernel
theorem dLw_law_1093 : decode cLw_law 1093 = .ok (.lcmp, 1) := by decide +kernel
theorem dLw_law_1094 : decode cLw_law 1094 = .ok (.ifCond .eq 5, 3) := by decide +kernel
theorem dLw_law_1097 : decode cLw_law 1097 = .ok (.iconst 0, 1) := by decide +kernel
theorem dLw_law_1098 : decode cLw_law 1098 = .ok (.ireturn, 1) := by decide +kernel
theorem dLw_law_1099 : decode cLw_law 1099 = .ok (.goto 46, 3) := by decide +kernel
theorem dLw_law_1102 : decode cLw_law 1102 = .ok (.aload_n 1, 1) := by decide +kernel
theorem dLw_law_1103 : decode cLw_law 1103 = .ok (.aload_n 3, 1) := by decide +kernel
theorem dLw_law_1104 : decode cLw_law 1104 = .ok (.invokestatic 137, 3) := by decide +kernel
theorem dLw_law_1107 : decode cLw_law 1107 = .ok (.istore 5, 2) := by decide +kernel
theorem dLw_law_1109 : decode cLw_law 1109 = .ok (.aload_n 2, 1) := by decide +kernel
theorem dLw_law_1110 : decode cLw_law 1110 = .ok (.invokevirtual 139, 3) := by decide +kernel
theorem dLw_law_1113 : decode cLw_law 1113 = .ok (.lstore 6, 2) := by decide +kernel
theorem dLw_law_1115 : decode cLw_law 1115 = .ok (.aload_n 2, 1) := by decide +kernel
theorem dLw_law_1116 : decode cLw_law 1116 = .ok (.invokevirtual 86, 3) := by decide +kernel
theorem dLw_law_1119 : decode cLw_law 1119 = .ok (.iload 5, 2) := by decide +kernel
theorem dLw_law_1121 : decode cLw_law 1121 = .ok (.if_icmp .eq 5, 3) := by decide +kernel
theorem dLw_law_1124 : decode cLw_law 1124 = .ok (.iconst 0, 1) := by decide +kernel
theorem dLw_law_1125 : decode cLw_law 1125 = .ok (.ireturn, 1) := by decide +kernel
theorem dLw_law_1126 : decode cLw_law 1126 = .ok (.iload 5, 2) := by decide +kernel
theorem dLw_law_1128 : decode cLw_law 1128 = .ok (.ifCond .ne 14, 3) := by decide +kernel
theorem dLw_law_1131 : decode cLw_law 1131 = .ok (.aload_n 3, 1) := by decide +kernel
theorem dLw_law_1132 : decode cLw_law 1132 = .ok (.iconst 0, 1) := by decide +kernel
theorem dLw_law_1133 : decode cLw_law 1133 = .ok (.laload, 1) := by decide +kernel
theorem dLw_law_1134 : decode cLw_law 1134 = .ok (.lload 6, 2) := by decide +kernel
theorem dLw_law_1136 : decode cLw_law 1136 = .ok (.lcmp, 1) := by decide +kernel
theorem dLw_law_1137 : decode cLw_law 1137 = .ok (.ifCond .eq 5, 3) := by decide +kernel
theorem dLw_law_1140 : decode cLw_law 1140 = .ok (.iconst 0, 1) := by decide +kernel
theorem dLw_law_1141 : decode cLw_law 1141 = .ok (.ireturn, 1) := by decide +kernel
theorem dLw_law_1142 : decode cLw_law 1142 = .ok (.goto 3, 3) := by decide +kernel
theorem dLw_law_1145 : decode cLw_law 1145 = .ok (.iinc 4 6, 3) := by decide +kernel
theorem dLw_law_1148 : decode cLw_law 1148 = .ok (.goto (-1115), 3) := by decide +kernel
theorem dLw_law_1151 : decode cLw_law 1151 = .ok (.iconst 1, 1) := by decide +kernel
theorem dLw_law_1152 : decode cLw_law 1152 = .ok (.ireturn, 1) := by decide +kernel
