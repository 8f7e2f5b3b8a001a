abbrev b_Law_law : ByteArray := code
def y_Law_law : MethodName := ⟨R_Law, "law", "([I)Z"⟩
theorem d_Law_law_0 : decode b_Law_law 0 = .ok (.new 8, 3) := by decide +kernel
theorem d_Law_law_3 : decode b_Law_law 3 = .ok (.dup, 1) := by decide +kernel
theorem d_Law_law_4 : decode b_Law_law 4 = .ok (.invokespecial 59, 3) := by decide +kernel
theorem d_Law_law_7 : decode b_Law_law 7 = .ok (.astore_n 1, 1) := by decide +kernel
theorem d_Law_law_8 : decode b_Law_law 8 = .ok (.new 60, 3) := by decide +kernel
theorem d_Law_law_11 : decode b_Law_law 11 = .ok (.dup, 1) := by decide +kernel
theorem d_Law_law_12 : decode b_Law_law 12 = .ok (.invokespecial 62, 3) := by decide +kernel
theorem d_Law_law_15 : decode b_Law_law 15 = .ok (.astore_n 2, 1) := by decide +kernel
theorem d_Law_law_16 : decode b_Law_law 16 = .ok (.iconst 1, 1) := by decide +kernel
theorem d_Law_law_17 : decode b_Law_law 17 = .ok (.newarray .long, 2) := by decide +kernel
theorem d_Law_law_19 : decode b_Law_law 19 = .ok (.astore_n 3, 1) := by decide +kernel
theorem d_Law_law_20 : decode b_Law_law 20 = .ok (.iconst 0, 1) := by decide +kernel
theorem d_Law_law_21 : decode b_Law_law 21 = .ok (.istore 4, 2) := by decide +kernel
theorem d_Law_law_23 : decode b_Law_law 23 = .ok (.iload 4, 2) := by decide +kernel
theorem d_Law_law_25 : decode b_Law_law 25 = .ok (.aload_n 0, 1) := by decide +kernel
theorem d_Law_law_26 : decode b_Law_law 26 = .ok (.arraylength, 1) := by decide +kernel
theorem d_Law_law_27 : decode b_Law_law 27 = .ok (.iconst 5, 1) := by decide +kernel
theorem d_Law_law_28 : decode b_Law_law 28 = .ok (.isub, 1) := by decide +kernel
theorem d_Law_law_29 : decode b_Law_law 29 = .ok (.if_icmp .gt 868, 3) := by decide +kernel
theorem d_Law_law_32 : decode b_Law_law 32 = .ok (.aload_n 0, 1) := by decide +kernel
theorem d_Law_law_33 : decode b_Law_law 33 = .ok (.iload 4, 2) := by decide +kernel
theorem d_Law_law_35 : decode b_Law_law 35 = .ok (.iaload, 1) := by decide +kernel
theorem d_Law_law_36 : decode b_Law_law 36 = .ok (.bipush 15, 2) := by decide +kernel
theorem d_Law_law_38 : decode b_Law_law 38 = .ok (.iand, 1) := by decide +kernel
theorem d_Law_law_39 : decode b_Law_law 39 = .ok (.tableswitch 852 0 12 #[65, 101, 169, 241, 321, 401, 445, 501, 557, 568, 636, 716, 796], 65) := by decide +kernel
theorem d_Law_law_104 : decode b_Law_law 104 = .ok (.aload_n 1, 1) := by decide +kernel
theorem d_Law_law_105 : decode b_Law_law 105 = .ok (.aload_n 0, 1) := by decide +kernel
theorem d_Law_law_106 : decode b_Law_law 106 = .ok (.iload 4, 2) := by decide +kernel
theorem d_Law_law_108 : decode b_Law_law 108 = .ok (.iconst 1, 1) := by decide +kernel
theorem d_Law_law_109 : decode b_Law_law 109 = .ok (.iadd, 1) := by decide +kernel
theorem d_Law_law_110 : decode b_Law_law 110 = .ok (.iaload, 1) := by decide +kernel
theorem d_Law_law_111 : decode b_Law_law 111 = .ok (.invokestatic 63, 3) := by decide +kernel
theorem d_Law_law_114 : decode b_Law_law 114 = .ok (.istore 5, 2) := by decide +kernel
theorem d_Law_law_116 : decode b_Law_law 116 = .ok (.aload_n 2, 1) := by decide +kernel
theorem d_Law_law_117 : decode b_Law_law 117 = .ok (.aload_n 0, 1) := by decide +kernel
theorem d_Law_law_118 : decode b_Law_law 118 = .ok (.iload 4, 2) := by decide +kernel
theorem d_Law_law_120 : decode b_Law_law 120 = .ok (.iconst 1, 1) := by decide +kernel
theorem d_Law_law_121 : decode b_Law_law 121 = .ok (.iadd, 1) := by decide +kernel
theorem d_Law_law_122 : decode b_Law_law 122 = .ok (.iaload, 1) := by decide +kernel
theorem d_Law_law_123 : decode b_Law_law 123 = .ok (.invokevirtual 68, 3) := by decide +kernel
theorem d_Law_law_126 : decode b_Law_law 126 = .ok (.aload_n 2, 1) := by decide +kernel
theorem d_Law_law_127 : decode b_Law_law 127 = .ok (.invokevirtual 69, 3) := by decide +kernel
theorem d_Law_law_130 : decode b_Law_law 130 = .ok (.iload 5, 2) := by decide +kernel
theorem d_Law_law_132 : decode b_Law_law 132 = .ok (.if_icmp .eq 5, 3) := by decide +kernel
theorem d_Law_law_135 : decode b_Law_law 135 = .ok (.iconst 0, 1) := by decide +kernel
theorem d_Law_law_136 : decode b_Law_law 136 = .ok (.ireturn, 1) := by decide +kernel
theorem d_Law_law_137 : decode b_Law_law 137 = .ok (.goto 754, 3) := by decide +kernel
theorem d_Law_law_140 : decode b_Law_law 140 = .ok (.aload_n 1, 1) := by decide +kernel
theorem d_Law_law_141 : decode b_Law_law 141 = .ok (.aload_n 0, 1) := by decide +kernel
theorem d_Law_law_142 : decode b_Law_law 142 = .ok (.iload 4, 2) := by decide +kernel
theorem d_Law_law_144 : decode b_Law_law 144 = .ok (.iconst 1, 1) := by decide +kernel
theorem d_Law_law_145 : decode b_Law_law 145 = .ok (.iadd, 1) := by decide +kernel
theorem d_Law_law_146 : decode b_Law_law 146 = .ok (.iaload, 1) := by decide +kernel
theorem d_Law_law_147 : decode b_Law_law 147 = .ok (.aload_n 0, 1) := by decide +kernel
theorem d_Law_law_148 : decode b_Law_law 148 = .ok (.iload 4, 2) := by decide +kernel
theorem d_Law_law_150 : decode b_Law_law 150 = .ok (.iconst 2, 1) := by decide +kernel
theorem d_Law_law_151 : decode b_Law_law 151 = .ok (.iadd, 1) := by decide +kernel
theorem d_Law_law_152 : decode b_Law_law 152 = .ok (.iaload, 1) := by decide +kernel
theorem d_Law_law_153 : decode b_Law_law 153 = .ok (.aload_n 3, 1) := by decide +kernel
theorem d_Law_law_154 : decode b_Law_law 154 = .ok (.invokestatic 72, 3) := by decide +kernel
theorem d_Law_law_157 : decode b_Law_law 157 = .ok (.istore 5, 2) := by decide +kernel
theorem d_Law_law_159 : decode b_Law_law 159 = .ok (.aload_n 2, 1) := by decide +kernel
theorem d_Law_law_160 : decode b_Law_law 160 = .ok (.aload_n 0, 1) := by decide +kernel
theorem d_Law_law_161 : decode b_Law_law 161 = .ok (.iload 4, 2) := by decide +kernel
theorem d_Law_law_163 : decode b_Law_law 163 = .ok (.iconst 1, 1) := by decide +kernel
theorem d_Law_law_164 : decode b_Law_law 164 = .ok (.iadd, 1) := by decide +kernel
theorem d_Law_law_165 : decode b_Law_law 165 = .ok (.iaload, 1) := by decide +kernel
theorem d_Law_law_166 : decode b_Law_law 166 = .ok (.aload_n 0, 1) := by decide +kernel
theorem d_Law_law_167 : decode b_Law_law 167 = .ok (.iload 4, 2) := by decide +kernel
theorem d_Law_law_169 : decode b_Law_law 169 = .ok (.iconst 2, 1) := by decide +kernel
theorem d_Law_law_170 : decode b_Law_law 170 = .ok (.iadd, 1) := by decide +kernel
theorem d_Law_law_171 : decode b_Law_law 171 = .ok (.iaload, 1) := by decide +kernel
theorem d_Law_law_172 : decode b_Law_law 172 = .ok (.invokevirtual 75, 3) := by decide +kernel
theorem d_Law_law_175 : decode b_Law_law 175 = .ok (.istore 6, 2) := by decide +kernel
theorem d_Law_law_177 : decode b_Law_law 177 = .ok (.aload_n 2, 1) := by decide +kernel
theorem d_Law_law_178 : decode b_Law_law 178 = .ok (.invokevirtual 69, 3) := by decide +kernel
theorem d_Law_law_181 : decode b_Law_law 181 = .ok (.iload 5, 2) := by decide +kernel
theorem d_Law_law_183 : decode b_Law_law 183 = .ok (.if_icmp .eq 5, 3) := by decide +kernel
theorem d_Law_law_186 : decode b_Law_law 186 = .ok (.iconst 0, 1) := by decide +kernel
theorem d_Law_law_187 : decode b_Law_law 187 = .ok (.ireturn, 1) := by decide +kernel
theorem d_Law_law_188 : decode b_Law_law 188 = .ok (.iload 5, 2) := by decide +kernel
theorem d_Law_law_190 : decode b_Law_law 190 = .ok (.ifCond .ne 15, 3) := by decide +kernel
theorem d_Law_law_193 : decode b_Law_law 193 = .ok (.aload_n 3, 1) := by decide +kernel
theorem d_Law_law_194 : decode b_Law_law 194 = .ok (.iconst 0, 1) := by decide +kernel
theorem d_Law_law_195 : decode b_Law_law 195 = .ok (.laload, 1) := by decide +kernel
theorem d_Law_law_196 : decode b_Law_law 196 = .ok (.iload 6, 2) := by decide +kernel
theorem d_Law_law_198 : decode b_Law_law 198 = .ok (.i2l, 1) := by decide +kernel
theorem d_Law_law_199 : decode b_Law_law 199 = .ok (.lcmp, 1) := by decide +kernel
theorem d_Law_law_200 : decode b_Law_law 200 = .ok (.ifCond .eq 5, 3) := by decide +kernel
theorem d_Law_law_203 : decode b_Law_law 203 = .ok (.iconst 0, 1) := by decide +kernel
theorem d_Law_law_204 : decode b_Law_law 204 = .ok (.ireturn, 1) := by decide +kernel
theorem d_Law_law_205 : decode b_Law_law 205 = .ok (.goto 686, 3) := by decide +kernel
theorem d_Law_law_208 : decode b_Law_law 208 = .ok (.aload_n 1, 1) := by decide +kernel
theorem d_Law_law_209 : decode b_Law_law 209 = .ok (.aload_n 0, 1) := by decide +kernel
theorem d_Law_law_210 : decode b_Law_law 210 = .ok (.iload 4, 2) := by decide +kernel
theorem d_Law_law_212 : decode b_Law_law 212 = .ok (.iconst 1, 1) := by decide +kernel
theorem d_Law_law_213 : decode b_Law_law 213 = .ok (.iadd, 1) := by decide +kernel
theorem d_Law_law_214 : decode b_Law_law 214 = .ok (.iaload, 1) := by decide +kernel
theorem d_Law_law_215 : decode b_Law_law 215 = .ok (.aload_n 0, 1) := by decide +kernel
theorem d_Law_law_216 : decode b_Law_law 216 = .ok (.iload 4, 2) := by decide +kernel
theorem d_Law_law_218 : decode b_Law_law 218 = .ok (.iconst 2, 1) := by decide +kernel
theorem d_Law_law_219 : decode b_Law_law 219 = .ok (.iadd, 1) := by decide +kernel
theorem d_Law_law_220 : decode b_Law_law 220 = .ok (.iaload, 1) := by decide +kernel
theorem d_Law_law_221 : decode b_Law_law 221 = .ok (.aload_n 0, 1) := by decide +kernel
theorem d_Law_law_222 : decode b_Law_law 222 = .ok (.iload 4, 2) := by decide +kernel
theorem d_Law_law_224 : decode b_Law_law 224 = .ok (.iconst 3, 1) := by decide +kernel
theorem d_Law_law_225 : decode b_Law_law 225 = .ok (.iadd, 1) := by decide +kernel
theorem d_Law_law_226 : decode b_Law_law 226 = .ok (.iaload, 1) := by decide +kernel
theorem d_Law_law_227 : decode b_Law_law 227 = .ok (.aload_n 0, 1) := by decide +kernel
theorem d_Law_law_228 : decode b_Law_law 228 = .ok (.iload 4, 2) := by decide +kernel
theorem d_Law_law_230 : decode b_Law_law 230 = .ok (.iconst 4, 1) := by decide +kernel
theorem d_Law_law_231 : decode b_Law_law 231 = .ok (.iadd, 1) := by decide +kernel
theorem d_Law_law_232 : decode b_Law_law 232 = .ok (.iaload, 1) := by decide +kernel
theorem d_Law_law_233 : decode b_Law_law 233 = .ok (.invokestatic 76, 3) := by decide +kernel
theorem d_Law_law_236 : decode b_Law_law 236 = .ok (.istore 5, 2) := by decide +kernel
theorem d_Law_law_238 : decode b_Law_law 238 = .ok (.aload_n 2, 1) := by decide +kernel
theorem d_Law_law_239 : decode b_Law_law 239 = .ok (.aload_n 0, 1) := by decide +kernel
theorem d_Law_law_240 : decode b_Law_law 240 = .ok (.iload 4, 2) := by decide +kernel
theorem d_Law_law_242 : decode b_Law_law 242 = .ok (.iconst 1, 1) := by decide +kernel
theorem d_Law_law_243 : decode b_Law_law 243 = .ok (.iadd, 1) := by decide +kernel
theorem d_Law_law_244 : decode b_Law_law 244 = .ok (.iaload, 1) := by decide +kernel
theorem d_Law_law_245 : decode b_Law_law 245 = .ok (.aload_n 0, 1) := by decide +kernel
theorem d_Law_law_246 : decode b_Law_law 246 = .ok (.iload 4, 2) := by decide +kernel
theorem d_Law_law_248 : decode b_Law_law 248 = .ok (.iconst 2, 1) := by decide +kernel
theorem d_Law_law_249 : decode b_Law_law 249 = .ok (.iadd, 1) := by decide +kernel
theorem d_Law_law_250 : decode b_Law_law 250 = .ok (.iaload, 1) := by decide +kernel
theorem d_Law_law_251 : decode b_Law_law 251 = .ok (.aload_n 0, 1) := by decide +kernel
theorem d_Law_law_252 : decode b_Law_law 252 = .ok (.iload 4, 2) := by decide +kernel
theorem d_Law_law_254 : decode b_Law_law 254 = .ok (.iconst 3, 1) := by decide +kernel
theorem d_Law_law_255 : decode b_Law_law 255 = .ok (.iadd, 1) := by decide +kernel
theorem d_Law_law_256 : decode b_Law_law 256 = .ok (.iaload, 1) := by decide +kernel
theorem d_Law_law_257 : decode b_Law_law 257 = .ok (.aload_n 0, 1) := by decide +kernel
theorem d_Law_law_258 : decode b_Law_law 258 = .ok (.iload 4, 2) := by decide +kernel
theorem d_Law_law_260 : decode b_Law_law 260 = .ok (.iconst 4, 1) := by decide +kernel
theorem d_Law_law_261 : decode b_Law_law 261 = .ok (.iadd, 1) := by decide +kernel
theorem d_Law_law_262 : decode b_Law_law 262 = .ok (.iaload, 1) := by decide +kernel
theorem d_Law_law_263 : decode b_Law_law 263 = .ok (.invokevirtual 79, 3) := by decide +kernel
theorem d_Law_law_266 : decode b_Law_law 266 = .ok (.aload_n 2, 1) := by decide +kernel
theorem d_Law_law_267 : decode b_Law_law 267 = .ok (.invokevirtual 69, 3) := by decide +kernel
theorem d_Law_law_270 : decode b_Law_law 270 = .ok (.iload 5, 2) := by decide +kernel
theorem d_Law_law_272 : decode b_Law_law 272 = .ok (.if_icmp .eq 5, 3) := by decide +kernel
theorem d_Law_law_275 : decode b_Law_law 275 = .ok (.iconst 0, 1) := by decide +kernel
theorem d_Law_law_276 : decode b_Law_law 276 = .ok (.ireturn, 1) := by decide +kernel
theorem d_Law_law_277 : decode b_Law_law 277 = .ok (.goto 614, 3) := by decide +kernel
theorem d_Law_law_280 : decode b_Law_law 280 = .ok (.aload_n 1, 1) := by decide +kernel
theorem d_Law_law_281 : decode b_Law_law 281 = .ok (.aload_n 0, 1) := by decide +kernel
theorem d_Law_law_282 : decode b_Law_law 282 = .ok (.iload 4, 2) := by decide +kernel
theorem d_Law_law_284 : decode b_Law_law 284 = .ok (.iconst 1, 1) := by decide +kernel
theorem d_Law_law_285 : decode b_Law_law 285 = .ok (.iadd, 1) := by decide +kernel
theorem d_Law_law_286 : decode b_Law_law 286 = .ok (.iaload, 1) := by decide +kernel
theorem d_Law_law_287 : decode b_Law_law 287 = .ok (.aload_n 0, 1) := by decide +kernel
theorem d_Law_law_288 : decode b_Law_law 288 = .ok (.iload 4, 2) := by decide +kernel
theorem d_Law_law_290 : decode b_Law_law 290 = .ok (.iconst 2, 1) := by decide +kernel
theorem d_Law_law_291 : decode b_Law_law 291 = .ok (.iadd, 1) := by decide +kernel
theorem d_Law_law_292 : decode b_Law_law 292 = .ok (.iaload, 1) := by decide +kernel
theorem d_Law_law_293 : decode b_Law_law 293 = .ok (.aload_n 0, 1) := by decide +kernel
theorem d_Law_law_294 : decode b_Law_law 294 = .ok (.iload 4, 2) := by decide +kernel
theorem d_Law_law_296 : decode b_Law_law 296 = .ok (.iconst 3, 1) := by decide +kernel
theorem d_Law_law_297 : decode b_Law_law 297 = .ok (.iadd, 1) := by decide +kernel
theorem d_Law_law_298 : decode b_Law_law 298 = .ok (.iaload, 1) := by decide +kernel
theorem d_Law_law_299 : decode b_Law_law 299 = .ok (.aload_n 3, 1) := by decide +kernel
theorem d_Law_law_300 : decode b_Law_law 300 = .ok (.invokestatic 80, 3) := by decide +kernel
theorem d_Law_law_303 : decode b_Law_law 303 = .ok (.istore 5, 2) := by decide +kernel
theorem d_Law_law_305 : decode b_Law_law 305 = .ok (.aload_n 2, 1) := by decide +kernel
theorem d_Law_law_306 : decode b_Law_law 306 = .ok (.aload_n 0, 1) := by decide +kernel
theorem d_Law_law_307 : decode b_Law_law 307 = .ok (.iload 4, 2) := by decide +kernel
theorem d_Law_law_309 : decode b_Law_law 309 = .ok (.iconst 1, 1) := by decide +kernel
theorem d_Law_law_310 : decode b_Law_law 310 = .ok (.iadd, 1) := by decide +kernel
theorem d_Law_law_311 : decode b_Law_law 311 = .ok (.iaload, 1) := by decide +kernel
theorem d_Law_law_312 : decode b_Law_law 312 = .ok (.aload_n 0, 1) := by decide +kernel
theorem d_Law_law_313 : decode b_Law_law 313 = .ok (.iload 4, 2) := by decide +kernel
theorem d_Law_law_315 : decode b_Law_law 315 = .ok (.iconst 2, 1) := by decide +kernel
theorem d_Law_law_316 : decode b_Law_law 316 = .ok (.iadd, 1) := by decide +kernel
theorem d_Law_law_317 : decode b_Law_law 317 = .ok (.iaload, 1) := by decide +kernel
theorem d_Law_law_318 : decode b_Law_law 318 = .ok (.aload_n 0, 1) := by decide +kernel
theorem d_Law_law_319 : decode b_Law_law 319 = .ok (.iload 4, 2) := by decide +kernel
theorem d_Law_law_321 : decode b_Law_law 321 = .ok (.iconst 3, 1) := by decide +kernel
theorem d_Law_law_322 : decode b_Law_law 322 = .ok (.iadd, 1) := by decide +kernel
theorem d_Law_law_323 : decode b_Law_law 323 = .ok (.iaload, 1) := by decide +kernel
theorem d_Law_law_324 : decode b_Law_law 324 = .ok (.invokevirtual 83, 3) := by decide +kernel
theorem d_Law_law_327 : decode b_Law_law 327 = .ok (.istore 6, 2) := by decide +kernel
theorem d_Law_law_329 : decode b_Law_law 329 = .ok (.aload_n 2, 1) := by decide +kernel
theorem d_Law_law_330 : decode b_Law_law 330 = .ok (.invokevirtual 69, 3) := by decide +kernel
theorem d_Law_law_333 : decode b_Law_law 333 = .ok (.iload 5, 2) := by decide +kernel
theorem d_Law_law_335 : decode b_Law_law 335 = .ok (.if_icmp .eq 5, 3) := by decide +kernel
theorem d_Law_law_338 : decode b_Law_law 338 = .ok (.iconst 0, 1) := by decide +kernel
theorem d_Law_law_339 : decode b_Law_law 339 = .ok (.ireturn, 1) := by decide +kernel
theorem d_Law_law_340 : decode b_Law_law 340 = .ok (.iload 5, 2) := by decide +kernel
theorem d_Law_law_342 : decode b_Law_law 342 = .ok (.ifCond .ne 15, 3) := by decide +kernel
theorem d_Law_law_345 : decode b_Law_law 345 = .ok (.aload_n 3, 1) := by decide +kernel
theorem d_Law_law_346 : decode b_Law_law 346 = .ok (.iconst 0, 1) := by decide +kernel
theorem d_Law_law_347 : decode b_Law_law 347 = .ok (.laload, 1) := by decide +kernel
theorem d_Law_law_348 : decode b_Law_law 348 = .ok (.iload 6, 2) := by decide +kernel
theorem d_Law_law_350 : decode b_Law_law 350 = .ok (.i2l, 1) := by decide +kernel
theorem d_Law_law_351 : decode b_Law_law 351 = .ok (.lcmp, 1) := by decide +kernel
theorem d_Law_law_352 : decode b_Law_law 352 = .ok (.ifCond .eq 5, 3) := by decide +kernel
theorem d_Law_law_355 : decode b_Law_law 355 = .ok (.iconst 0, 1) := by decide +kernel
theorem d_Law_law_356 : decode b_Law_law 356 = .ok (.ireturn, 1) := by decide +kernel
theorem d_Law_law_357 : decode b_Law_law 357 = .ok (.goto 534, 3) := by decide +kernel
theorem d_Law_law_360 : decode b_Law_law 360 = .ok (.aload_n 1, 1) := by decide +kernel
theorem d_Law_law_361 : decode b_Law_law 361 = .ok (.aload_n 0, 1) := by decide +kernel
theorem d_Law_law_362 : decode b_Law_law 362 = .ok (.iload 4, 2) := by decide +kernel
theorem d_Law_law_364 : decode b_Law_law 364 = .ok (.iconst 1, 1) := by decide +kernel
theorem d_Law_law_365 : decode b_Law_law 365 = .ok (.iadd, 1) := by decide +kernel
theorem d_Law_law_366 : decode b_Law_law 366 = .ok (.iaload, 1) := by decide +kernel
theorem d_Law_law_367 : decode b_Law_law 367 = .ok (.aload_n 0, 1) := by decide +kernel
theorem d_Law_law_368 : decode b_Law_law 368 = .ok (.iload 4, 2) := by decide +kernel
theorem d_Law_law_370 : decode b_Law_law 370 = .ok (.iconst 2, 1) := by decide +kernel
theorem d_Law_law_371 : decode b_Law_law 371 = .ok (.iadd, 1) := by decide +kernel
theorem d_Law_law_372 : decode b_Law_law 372 = .ok (.iaload, 1) := by decide +kernel
theorem d_Law_law_373 : decode b_Law_law 373 = .ok (.aload_n 0, 1) := by decide +kernel
theorem d_Law_law_374 : decode b_Law_law 374 = .ok (.iload 4, 2) := by decide +kernel
theorem d_Law_law_376 : decode b_Law_law 376 = .ok (.iconst 3, 1) := by decide +kernel
theorem d_Law_law_377 : decode b_Law_law 377 = .ok (.iadd, 1) := by decide +kernel
theorem d_Law_law_378 : decode b_Law_law 378 = .ok (.iaload, 1) := by decide +kernel
theorem d_Law_law_379 : decode b_Law_law 379 = .ok (.aload_n 3, 1) := by decide +kernel
theorem d_Law_law_380 : decode b_Law_law 380 = .ok (.invokestatic 84, 3) := by decide +kernel
theorem d_Law_law_383 : decode b_Law_law 383 = .ok (.istore 5, 2) := by decide +kernel
theorem d_Law_law_385 : decode b_Law_law 385 = .ok (.aload_n 2, 1) := by decide +kernel
theorem d_Law_law_386 : decode b_Law_law 386 = .ok (.aload_n 0, 1) := by decide +kernel
theorem d_Law_law_387 : decode b_Law_law 387 = .ok (.iload 4, 2) := by decide +kernel
theorem d_Law_law_389 : decode b_Law_law 389 = .ok (.iconst 1, 1) := by decide +kernel
theorem d_Law_law_390 : decode b_Law_law 390 = .ok (.iadd, 1) := by decide +kernel
theorem d_Law_law_391 : decode b_Law_law 391 = .ok (.iaload, 1) := by decide +kernel
theorem d_Law_law_392 : decode b_Law_law 392 = .ok (.aload_n 0, 1) := by decide +kernel
theorem d_Law_law_393 : decode b_Law_law 393 = .ok (.iload 4, 2) := by decide +kernel
theorem d_Law_law_395 : decode b_Law_law 395 = .ok (.iconst 2, 1) := by decide +kernel
theorem d_Law_law_396 : decode b_Law_law 396 = .ok (.iadd, 1) := by decide +kernel
theorem d_Law_law_397 : decode b_Law_law 397 = .ok (.iaload, 1) := by decide +kernel
theorem d_Law_law_398 : decode b_Law_law 398 = .ok (.aload_n 0, 1) := by decide +kernel
theorem d_Law_law_399 : decode b_Law_law 399 = .ok (.iload 4, 2) := by decide +kernel
theorem d_Law_law_401 : decode b_Law_law 401 = .ok (.iconst 3, 1) := by decide +kernel
theorem d_Law_law_402 : decode b_Law_law 402 = .ok (.iadd, 1) := by decide +kernel
theorem d_Law_law_403 : decode b_Law_law 403 = .ok (.iaload, 1) := by decide +kernel
theorem d_Law_law_404 : decode b_Law_law 404 = .ok (.invokevirtual 86, 3) := by decide +kernel
theorem d_Law_law_407 : decode b_Law_law 407 = .ok (.istore 6, 2) := by decide +kernel
theorem d_Law_law_409 : decode b_Law_law 409 = .ok (.aload_n 2, 1) := by decide +kernel
theorem d_Law_law_410 : decode b_Law_law 410 = .ok (.invokevirtual 69, 3) := by decide +kernel
theorem d_Law_law_413 : decode b_Law_law 413 = .ok (.iload 5, 2) := by decide +kernel
theorem d_Law_law_415 : decode b_Law_law 415 = .ok (.if_icmp .eq 5, 3) := by decide +kernel
theorem d_Law_law_418 : decode b_Law_law 418 = .ok (.iconst 0, 1) := by decide +kernel
theorem d_Law_law_419 : decode b_Law_law 419 = .ok (.ireturn, 1) := by decide +kernel
theorem d_Law_law_420 : decode b_Law_law 420 = .ok (.iload 5, 2) := by decide +kernel
theorem d_Law_law_422 : decode b_Law_law 422 = .ok (.ifCond .ne 15, 3) := by decide +kernel
theorem d_Law_law_425 : decode b_Law_law 425 = .ok (.aload_n 3, 1) := by decide +kernel
theorem d_Law_law_426 : decode b_Law_law 426 = .ok (.iconst 0, 1) := by decide +kernel
theorem d_Law_law_427 : decode b_Law_law 427 = .ok (.laload, 1) := by decide +kernel
theorem d_Law_law_428 : decode b_Law_law 428 = .ok (.iload 6, 2) := by decide +kernel
theorem d_Law_law_430 : decode b_Law_law 430 = .ok (.i2l, 1) := by decide +kernel
theorem d_Law_law_431 : decode b_Law_law 431 = .ok (.lcmp, 1) := by decide +kernel
theorem d_Law_law_432 : decode b_Law_law 432 = .ok (.ifCond .eq 5, 3) := by decide +kernel
theorem d_Law_law_435 : decode b_Law_law 435 = .ok (.iconst 0, 1) := by decide +kernel
theorem d_Law_law_436 : decode b_Law_law 436 = .ok (.ireturn, 1) := by decide +kernel
theorem d_Law_law_437 : decode b_Law_law 437 = .ok (.goto 454, 3) := by decide +kernel
theorem d_Law_law_440 : decode b_Law_law 440 = .ok (.aload_n 1, 1) := by decide +kernel
theorem d_Law_law_441 : decode b_Law_law 441 = .ok (.aload_n 3, 1) := by decide +kernel
theorem d_Law_law_442 : decode b_Law_law 442 = .ok (.invokestatic 87, 3) := by decide +kernel
theorem d_Law_law_445 : decode b_Law_law 445 = .ok (.istore 5, 2) := by decide +kernel
theorem d_Law_law_447 : decode b_Law_law 447 = .ok (.aload_n 2, 1) := by decide +kernel
theorem d_Law_law_448 : decode b_Law_law 448 = .ok (.invokevirtual 90, 3) := by decide +kernel
theorem d_Law_law_451 : decode b_Law_law 451 = .ok (.istore 6, 2) := by decide +kernel
theorem d_Law_law_453 : decode b_Law_law 453 = .ok (.aload_n 2, 1) := by decide +kernel
theorem d_Law_law_454 : decode b_Law_law 454 = .ok (.invokevirtual 69, 3) := by decide +kernel
theorem d_Law_law_457 : decode b_Law_law 457 = .ok (.iload 5, 2) := by decide +kernel
theorem d_Law_law_459 : decode b_Law_law 459 = .ok (.if_icmp .eq 5, 3) := by decide +kernel
theorem d_Law_law_462 : decode b_Law_law 462 = .ok (.iconst 0, 1) := by decide +kernel
theorem d_Law_law_463 : decode b_Law_law 463 = .ok (.ireturn, 1) := by decide +kernel
theorem d_Law_law_464 : decode b_Law_law 464 = .ok (.iload 5, 2) := by decide +kernel
theorem d_Law_law_466 : decode b_Law_law 466 = .ok (.ifCond .ne 15, 3) := by decide +kernel
theorem d_Law_law_469 : decode b_Law_law 469 = .ok (.aload_n 3, 1) := by decide +kernel
theorem d_Law_law_470 : decode b_Law_law 470 = .ok (.iconst 0, 1) := by decide +kernel
theorem d_Law_law_471 : decode b_Law_law 471 = .ok (.laload, 1) := by decide +kernel
theorem d_Law_law_472 : decode b_Law_law 472 = .ok (.iload 6, 2) := by decide +kernel
theorem d_Law_law_474 : decode b_Law_law 474 = .ok (.i2l, 1) := by decide +kernel
theorem d_Law_law_475 : decode b_Law_law 475 = .ok (.lcmp, 1) := by decide +kernel
theorem d_Law_law_476 : decode b_Law_law 476 = .ok (.ifCond .eq 5, 3) := by decide +kernel
theorem d_Law_law_479 : decode b_Law_law 479 = .ok (.iconst 0, 1) := by decide +kernel
theorem d_Law_law_480 : decode b_Law_law 480 = .ok (.ireturn, 1) := by decide +kernel
theorem d_Law_law_481 : decode b_Law_law 481 = .ok (.goto 410, 3) := by decide +kernel
theorem d_Law_law_484 : decode b_Law_law 484 = .ok (.aload_n 1, 1) := by decide +kernel
theorem d_Law_law_485 : decode b_Law_law 485 = .ok (.aload_n 0, 1) := by decide +kernel
theorem d_Law_law_486 : decode b_Law_law 486 = .ok (.iload 4, 2) := by decide +kernel
theorem d_Law_law_488 : decode b_Law_law 488 = .ok (.iconst 1, 1) := by decide +kernel
theorem d_Law_law_489 : decode b_Law_law 489 = .ok (.iadd, 1) := by decide +kernel
theorem d_Law_law_490 : decode b_Law_law 490 = .ok (.iaload, 1) := by decide +kernel
theorem d_Law_law_491 : decode b_Law_law 491 = .ok (.aload_n 3, 1) := by decide +kernel
theorem d_Law_law_492 : decode b_Law_law 492 = .ok (.invokestatic 91, 3) := by decide +kernel
theorem d_Law_law_495 : decode b_Law_law 495 = .ok (.istore 5, 2) := by decide +kernel
theorem d_Law_law_497 : decode b_Law_law 497 = .ok (.aload_n 2, 1) := by decide +kernel
theorem d_Law_law_498 : decode b_Law_law 498 = .ok (.aload_n 0, 1) := by decide +kernel
theorem d_Law_law_499 : decode b_Law_law 499 = .ok (.iload 4, 2) := by decide +kernel
theorem d_Law_law_501 : decode b_Law_law 501 = .ok (.iconst 1, 1) := by decide +kernel
theorem d_Law_law_502 : decode b_Law_law 502 = .ok (.iadd, 1) := by decide +kernel
theorem d_Law_law_503 : decode b_Law_law 503 = .ok (.iaload, 1) := by decide +kernel
theorem d_Law_law_504 : decode b_Law_law 504 = .ok (.invokevirtual 94, 3) := by decide +kernel
theorem d_Law_law_507 : decode b_Law_law 507 = .ok (.istore 6, 2) := by decide +kernel
theorem d_Law_law_509 : decode b_Law_law 509 = .ok (.aload_n 2, 1) := by decide +kernel
theorem d_Law_law_510 : decode b_Law_law 510 = .ok (.invokevirtual 69, 3) := by decide +kernel
theorem d_Law_law_513 : decode b_Law_law 513 = .ok (.iload 5, 2) := by decide +kernel
theorem d_Law_law_515 : decode b_Law_law 515 = .ok (.if_icmp .eq 5, 3) := by decide +kernel
theorem d_Law_law_518 : decode b_Law_law 518 = .ok (.iconst 0, 1) := by decide +kernel
theorem d_Law_law_519 : decode b_Law_law 519 = .ok (.ireturn, 1) := by decide +kernel
theorem d_Law_law_520 : decode b_Law_law 520 = .ok (.iload 5, 2) := by decide +kernel
theorem d_Law_law_522 : decode b_Law_law 522 = .ok (.ifCond .ne 15, 3) := by decide +kernel
theorem d_Law_law_525 : decode b_Law_law 525 = .ok (.aload_n 3, 1) := by decide +kernel
theorem d_Law_law_526 : decode b_Law_law 526 = .ok (.iconst 0, 1) := by decide +kernel
theorem d_Law_law_527 : decode b_Law_law 527 = .ok (.laload, 1) := by decide +kernel
theorem d_Law_law_528 : decode b_Law_law 528 = .ok (.iload 6, 2) := by decide +kernel
theorem d_Law_law_530 : decode b_Law_law 530 = .ok (.i2l, 1) := by decide +kernel
theorem d_Law_law_531 : decode b_Law_law 531 = .ok (.lcmp, 1) := by decide +kernel
theorem d_Law_law_532 : decode b_Law_law 532 = .ok (.ifCond .eq 5, 3) := by decide +kernel
theorem d_Law_law_535 : decode b_Law_law 535 = .ok (.iconst 0, 1) := by decide +kernel
theorem d_Law_law_536 : decode b_Law_law 536 = .ok (.ireturn, 1) := by decide +kernel
theorem d_Law_law_537 : decode b_Law_law 537 = .ok (.goto 354, 3) := by decide +kernel
theorem d_Law_law_540 : decode b_Law_law 540 = .ok (.aload_n 1, 1) := by decide +kernel
theorem d_Law_law_541 : decode b_Law_law 541 = .ok (.aload_n 0, 1) := by decide +kernel
theorem d_Law_law_542 : decode b_Law_law 542 = .ok (.iload 4, 2) := by decide +kernel
theorem d_Law_law_544 : decode b_Law_law 544 = .ok (.iconst 1, 1) := by decide +kernel
theorem d_Law_law_545 : decode b_Law_law 545 = .ok (.iadd, 1) := by decide +kernel
theorem d_Law_law_546 : decode b_Law_law 546 = .ok (.iaload, 1) := by decide +kernel
theorem d_Law_law_547 : decode b_Law_law 547 = .ok (.aload_n 3, 1) := by decide +kernel
theorem d_Law_law_548 : decode b_Law_law 548 = .ok (.invokestatic 95, 3) := by decide +kernel
theorem d_Law_law_551 : decode b_Law_law 551 = .ok (.istore 5, 2) := by decide +kernel
theorem d_Law_law_553 : decode b_Law_law 553 = .ok (.aload_n 2, 1) := by decide +kernel
theorem d_Law_law_554 : decode b_Law_law 554 = .ok (.aload_n 0, 1) := by decide +kernel
theorem d_Law_law_555 : decode b_Law_law 555 = .ok (.iload 4, 2) := by decide +kernel
theorem d_Law_law_557 : decode b_Law_law 557 = .ok (.iconst 1, 1) := by decide +kernel
theorem d_Law_law_558 : decode b_Law_law 558 = .ok (.iadd, 1) := by decide +kernel
theorem d_Law_law_559 : decode b_Law_law 559 = .ok (.iaload, 1) := by decide +kernel
theorem d_Law_law_560 : decode b_Law_law 560 = .ok (.invokevirtual 97, 3) := by decide +kernel
theorem d_Law_law_563 : decode b_Law_law 563 = .ok (.istore 6, 2) := by decide +kernel
theorem d_Law_law_565 : decode b_Law_law 565 = .ok (.aload_n 2, 1) := by decide +kernel
theorem d_Law_law_566 : decode b_Law_law 566 = .ok (.invokevirtual 69, 3) := by decide +kernel
theorem d_Law_law_569 : decode b_Law_law 569 = .ok (.iload 5, 2) := by decide +kernel
theorem d_Law_law_571 : decode b_Law_law 571 = .ok (.if_icmp .eq 5, 3) := by decide +kernel
theorem d_Law_law_574 : decode b_Law_law 574 = .ok (.iconst 0, 1) := by decide +kernel
theorem d_Law_law_575 : decode b_Law_law 575 = .ok (.ireturn, 1) := by decide +kernel
theorem d_Law_law_576 : decode b_Law_law 576 = .ok (.iload 5, 2) := by decide +kernel
theorem d_Law_law_578 : decode b_Law_law 578 = .ok (.ifCond .ne 15, 3) := by decide +kernel
theorem d_Law_law_581 : decode b_Law_law 581 = .ok (.aload_n 3, 1) := by decide +kernel
theorem d_Law_law_582 : decode b_Law_law 582 = .ok (.iconst 0, 1) := by decide +kernel
theorem d_Law_law_583 : decode b_Law_law 583 = .ok (.laload, 1) := by decide +kernel
theorem d_Law_law_584 : decode b_Law_law 584 = .ok (.iload 6, 2) := by decide +kernel
theorem d_Law_law_586 : decode b_Law_law 586 = .ok (.i2l, 1) := by decide +kernel
theorem d_Law_law_587 : decode b_Law_law 587 = .ok (.lcmp, 1) := by decide +kernel
theorem d_Law_law_588 : decode b_Law_law 588 = .ok (.ifCond .eq 5, 3) := by decide +kernel
theorem d_Law_law_591 : decode b_Law_law 591 = .ok (.iconst 0, 1) := by decide +kernel
theorem d_Law_law_592 : decode b_Law_law 592 = .ok (.ireturn, 1) := by decide +kernel
theorem d_Law_law_593 : decode b_Law_law 593 = .ok (.goto 298, 3) := by decide +kernel
theorem d_Law_law_596 : decode b_Law_law 596 = .ok (.aload_n 1, 1) := by decide +kernel
theorem d_Law_law_597 : decode b_Law_law 597 = .ok (.invokevirtual 98, 3) := by decide +kernel
theorem d_Law_law_600 : decode b_Law_law 600 = .ok (.aload_n 2, 1) := by decide +kernel
theorem d_Law_law_601 : decode b_Law_law 601 = .ok (.invokevirtual 101, 3) := by decide +kernel
theorem d_Law_law_604 : decode b_Law_law 604 = .ok (.goto 287, 3) := by decide +kernel
theorem d_Law_law_607 : decode b_Law_law 607 = .ok (.aload_n 1, 1) := by decide +kernel
theorem d_Law_law_608 : decode b_Law_law 608 = .ok (.aload_n 0, 1) := by decide +kernel
theorem d_Law_law_609 : decode b_Law_law 609 = .ok (.iload 4, 2) := by decide +kernel
theorem d_Law_law_611 : decode b_Law_law 611 = .ok (.iconst 1, 1) := by decide +kernel
theorem d_Law_law_612 : decode b_Law_law 612 = .ok (.iadd, 1) := by decide +kernel
theorem d_Law_law_613 : decode b_Law_law 613 = .ok (.iaload, 1) := by decide +kernel
theorem d_Law_law_614 : decode b_Law_law 614 = .ok (.aload_n 0, 1) := by decide +kernel
theorem d_Law_law_615 : decode b_Law_law 615 = .ok (.iload 4, 2) := by decide +kernel
theorem d_Law_law_617 : decode b_Law_law 617 = .ok (.iconst 2, 1) := by decide +kernel
theorem d_Law_law_618 : decode b_Law_law 618 = .ok (.iadd, 1) := by decide +kernel
theorem d_Law_law_619 : decode b_Law_law 619 = .ok (.iaload, 1) := by decide +kernel
theorem d_Law_law_620 : decode b_Law_law 620 = .ok (.aload_n 3, 1) := by decide +kernel
theorem d_Law_law_621 : decode b_Law_law 621 = .ok (.invokestatic 102, 3) := by decide +kernel
theorem d_Law_law_624 : decode b_Law_law 624 = .ok (.istore 5, 2) := by decide +kernel
theorem d_Law_law_626 : decode b_Law_law 626 = .ok (.aload_n 2, 1) := by decide +kernel
theorem d_Law_law_627 : decode b_Law_law 627 = .ok (.aload_n 0, 1) := by decide +kernel
theorem d_Law_law_628 : decode b_Law_law 628 = .ok (.iload 4, 2) := by decide +kernel
theorem d_Law_law_630 : decode b_Law_law 630 = .ok (.iconst 1, 1) := by decide +kernel
theorem d_Law_law_631 : decode b_Law_law 631 = .ok (.iadd, 1) := by decide +kernel
theorem d_Law_law_632 : decode b_Law_law 632 = .ok (.iaload, 1) := by decide +kernel
theorem d_Law_law_633 : decode b_Law_law 633 = .ok (.aload_n 0, 1) := by decide +kernel
theorem d_Law_law_634 : decode b_Law_law 634 = .ok (.iload 4, 2) := by decide +kernel
theorem d_Law_law_636 : decode b_Law_law 636 = .ok (.iconst 2, 1) := by decide +kernel
theorem d_Law_law_637 : decode b_Law_law 637 = .ok (.iadd, 1) := by decide +kernel
theorem d_Law_law_638 : decode b_Law_law 638 = .ok (.iaload, 1) := by decide +kernel
theorem d_Law_law_639 : decode b_Law_law 639 = .ok (.invokevirtual 104, 3) := by decide +kernel
theorem d_Law_law_642 : decode b_Law_law 642 = .ok (.istore 6, 2) := by decide +kernel
theorem d_Law_law_644 : decode b_Law_law 644 = .ok (.aload_n 2, 1) := by decide +kernel
theorem d_Law_law_645 : decode b_Law_law 645 = .ok (.invokevirtual 69, 3) := by decide +kernel
theorem d_Law_law_648 : decode b_Law_law 648 = .ok (.iload 5, 2) := by decide +kernel
theorem d_Law_law_650 : decode b_Law_law 650 = .ok (.if_icmp .eq 5, 3) := by decide +kernel
theorem d_Law_law_653 : decode b_Law_law 653 = .ok (.iconst 0, 1) := by decide +kernel
theorem d_Law_law_654 : decode b_Law_law 654 = .ok (.ireturn, 1) := by decide +kernel
theorem d_Law_law_655 : decode b_Law_law 655 = .ok (.iload 5, 2) := by decide +kernel
theorem d_Law_law_657 : decode b_Law_law 657 = .ok (.ifCond .ne 15, 3) := by decide +kernel
theorem d_Law_law_660 : decode b_Law_law 660 = .ok (.aload_n 3, 1) := by decide +kernel
theorem d_Law_law_661 : decode b_Law_law 661 = .ok (.iconst 0, 1) := by decide +kernel
theorem d_Law_law_662 : decode b_Law_law 662 = .ok (.laload, 1) := by decide +kernel
theorem d_Law_law_663 : decode b_Law_law 663 = .ok (.iload 6, 2) := by decide +kernel
theorem d_Law_law_665 : decode b_Law_law 665 = .ok (.i2l, 1) := by decide +kernel
theorem d_Law_law_666 : decode b_Law_law 666 = .ok (.lcmp, 1) := by decide +kernel
theorem d_Law_law_667 : decode b_Law_law 667 = .ok (.ifCond .eq 5, 3) := by decide +kernel
theorem d_Law_law_670 : decode b_Law_law 670 = .ok (.iconst 0, 1) := by decide +kernel
theorem d_Law_law_671 : decode b_Law_law 671 = .ok (.ireturn, 1) := by decide +kernel
theorem d_Law_law_672 : decode b_Law_law 672 = .ok (.goto 219, 3) := by decide +kernel
theorem d_Law_law_675 : decode b_Law_law 675 = .ok (.aload_n 1, 1) := by decide +kernel
theorem d_Law_law_676 : decode b_Law_law 676 = .ok (.aload_n 0, 1) := by decide +kernel
theorem d_Law_law_677 : decode b_Law_law 677 = .ok (.iload 4, 2) := by decide +kernel
theorem d_Law_law_679 : decode b_Law_law 679 = .ok (.iconst 1, 1) := by decide +kernel
theorem d_Law_law_680 : decode b_Law_law 680 = .ok (.iadd, 1) := by decide +kernel
theorem d_Law_law_681 : decode b_Law_law 681 = .ok (.iaload, 1) := by decide +kernel
theorem d_Law_law_682 : decode b_Law_law 682 = .ok (.aload_n 0, 1) := by decide +kernel
theorem d_Law_law_683 : decode b_Law_law 683 = .ok (.iload 4, 2) := by decide +kernel
theorem d_Law_law_685 : decode b_Law_law 685 = .ok (.iconst 2, 1) := by decide +kernel
theorem d_Law_law_686 : decode b_Law_law 686 = .ok (.iadd, 1) := by decide +kernel
theorem d_Law_law_687 : decode b_Law_law 687 = .ok (.iaload, 1) := by decide +kernel
theorem d_Law_law_688 : decode b_Law_law 688 = .ok (.aload_n 0, 1) := by decide +kernel
theorem d_Law_law_689 : decode b_Law_law 689 = .ok (.iload 4, 2) := by decide +kernel
theorem d_Law_law_691 : decode b_Law_law 691 = .ok (.iconst 3, 1) := by decide +kernel
theorem d_Law_law_692 : decode b_Law_law 692 = .ok (.iadd, 1) := by decide +kernel
theorem d_Law_law_693 : decode b_Law_law 693 = .ok (.iaload, 1) := by decide +kernel
theorem d_Law_law_694 : decode b_Law_law 694 = .ok (.aload_n 3, 1) := by decide +kernel
theorem d_Law_law_695 : decode b_Law_law 695 = .ok (.invokestatic 105, 3) := by decide +kernel
theorem d_Law_law_698 : decode b_Law_law 698 = .ok (.istore 5, 2) := by decide +kernel
theorem d_Law_law_700 : decode b_Law_law 700 = .ok (.aload_n 2, 1) := by decide +kernel
theorem d_Law_law_701 : decode b_Law_law 701 = .ok (.aload_n 0, 1) := by decide +kernel
theorem d_Law_law_702 : decode b_Law_law 702 = .ok (.iload 4, 2) := by decide +kernel
theorem d_Law_law_704 : decode b_Law_law 704 = .ok (.iconst 1, 1) := by decide +kernel
theorem d_Law_law_705 : decode b_Law_law 705 = .ok (.iadd, 1) := by decide +kernel
theorem d_Law_law_706 : decode b_Law_law 706 = .ok (.iaload, 1) := by decide +kernel
theorem d_Law_law_707 : decode b_Law_law 707 = .ok (.aload_n 0, 1) := by decide +kernel
theorem d_Law_law_708 : decode b_Law_law 708 = .ok (.iload 4, 2) := by decide +kernel
theorem d_Law_law_710 : decode b_Law_law 710 = .ok (.iconst 2, 1) := by decide +kernel
theorem d_Law_law_711 : decode b_Law_law 711 = .ok (.iadd, 1) := by decide +kernel
theorem d_Law_law_712 : decode b_Law_law 712 = .ok (.iaload, 1) := by decide +kernel
theorem d_Law_law_713 : decode b_Law_law 713 = .ok (.aload_n 0, 1) := by decide +kernel
theorem d_Law_law_714 : decode b_Law_law 714 = .ok (.iload 4, 2) := by decide +kernel
theorem d_Law_law_716 : decode b_Law_law 716 = .ok (.iconst 3, 1) := by decide +kernel
theorem d_Law_law_717 : decode b_Law_law 717 = .ok (.iadd, 1) := by decide +kernel
theorem d_Law_law_718 : decode b_Law_law 718 = .ok (.iaload, 1) := by decide +kernel
theorem d_Law_law_719 : decode b_Law_law 719 = .ok (.invokevirtual 107, 3) := by decide +kernel
theorem d_Law_law_722 : decode b_Law_law 722 = .ok (.istore 6, 2) := by decide +kernel
theorem d_Law_law_724 : decode b_Law_law 724 = .ok (.aload_n 2, 1) := by decide +kernel
theorem d_Law_law_725 : decode b_Law_law 725 = .ok (.invokevirtual 69, 3) := by decide +kernel
theorem d_Law_law_728 : decode b_Law_law 728 = .ok (.iload 5, 2) := by decide +kernel
theorem d_Law_law_730 : decode b_Law_law 730 = .ok (.if_icmp .eq 5, 3) := by decide +kernel
theorem d_Law_law_733 : decode b_Law_law 733 = .ok (.iconst 0, 1) := by decide +kernel
theorem d_Law_law_734 : decode b_Law_law 734 = .ok (.ireturn, 1) := by decide +kernel
theorem d_Law_law_735 : decode b_Law_law 735 = .ok (.iload 5, 2) := by decide +kernel
theorem d_Law_law_737 : decode b_Law_law 737 = .ok (.ifCond .ne 15, 3) := by decide +kernel
theorem d_Law_law_740 : decode b_Law_law 740 = .ok (.aload_n 3, 1) := by decide +kernel
theorem d_Law_law_741 : decode b_Law_law 741 = .ok (.iconst 0, 1) := by decide +kernel
theorem d_Law_law_742 : decode b_Law_law 742 = .ok (.laload, 1) := by decide +kernel
theorem d_Law_law_743 : decode b_Law_law 743 = .ok (.iload 6, 2) := by decide +kernel
theorem d_Law_law_745 : decode b_Law_law 745 = .ok (.i2l, 1) := by decide +kernel
theorem d_Law_law_746 : decode b_Law_law 746 = .ok (.lcmp, 1) := by decide +kernel
theorem d_Law_law_747 : decode b_Law_law 747 = .ok (.ifCond .eq 5, 3) := by decide +kernel
theorem d_Law_law_750 : decode b_Law_law 750 = .ok (.iconst 0, 1) := by decide +kernel
theorem d_Law_law_751 : decode b_Law_law 751 = .ok (.ireturn, 1) := by decide +kernel
theorem d_Law_law_752 : decode b_Law_law 752 = .ok (.goto 139, 3) := by decide +kernel
theorem d_Law_law_755 : decode b_Law_law 755 = .ok (.aload_n 1, 1) := by decide +kernel
theorem d_Law_law_756 : decode b_Law_law 756 = .ok (.aload_n 0, 1) := by decide +kernel
theorem d_Law_law_757 : decode b_Law_law 757 = .ok (.iload 4, 2) := by decide +kernel
theorem d_Law_law_759 : decode b_Law_law 759 = .ok (.iconst 1, 1) := by decide +kernel
theorem d_Law_law_760 : decode b_Law_law 760 = .ok (.iadd, 1) := by decide +kernel
theorem d_Law_law_761 : decode b_Law_law 761 = .ok (.iaload, 1) := by decide +kernel
theorem d_Law_law_762 : decode b_Law_law 762 = .ok (.aload_n 0, 1) := by decide +kernel
theorem d_Law_law_763 : decode b_Law_law 763 = .ok (.iload 4, 2) := by decide +kernel
theorem d_Law_law_765 : decode b_Law_law 765 = .ok (.iconst 2, 1) := by decide +kernel
theorem d_Law_law_766 : decode b_Law_law 766 = .ok (.iadd, 1) := by decide +kernel
theorem d_Law_law_767 : decode b_Law_law 767 = .ok (.iaload, 1) := by decide +kernel
theorem d_Law_law_768 : decode b_Law_law 768 = .ok (.aload_n 0, 1) := by decide +kernel
theorem d_Law_law_769 : decode b_Law_law 769 = .ok (.iload 4, 2) := by decide +kernel
theorem d_Law_law_771 : decode b_Law_law 771 = .ok (.iconst 3, 1) := by decide +kernel
theorem d_Law_law_772 : decode b_Law_law 772 = .ok (.iadd, 1) := by decide +kernel
theorem d_Law_law_773 : decode b_Law_law 773 = .ok (.iaload, 1) := by decide +kernel
theorem d_Law_law_774 : decode b_Law_law 774 = .ok (.aload_n 3, 1) := by decide +kernel
theorem d_Law_law_775 : decode b_Law_law 775 = .ok (.invokestatic 108, 3) := by decide +kernel
theorem d_Law_law_778 : decode b_Law_law 778 = .ok (.istore 5, 2) := by decide +kernel
theorem d_Law_law_780 : decode b_Law_law 780 = .ok (.aload_n 2, 1) := by decide +kernel
theorem d_Law_law_781 : decode b_Law_law 781 = .ok (.aload_n 0, 1) := by decide +kernel
theorem d_Law_law_782 : decode b_Law_law 782 = .ok (.iload 4, 2) := by decide +kernel
theorem d_Law_law_784 : decode b_Law_law 784 = .ok (.iconst 1, 1) := by decide +kernel
theorem d_Law_law_785 : decode b_Law_law 785 = .ok (.iadd, 1) := by decide +kernel
theorem d_Law_law_786 : decode b_Law_law 786 = .ok (.iaload, 1) := by decide +kernel
theorem d_Law_law_787 : decode b_Law_law 787 = .ok (.aload_n 0, 1) := by decide +kernel
theorem d_Law_law_788 : decode b_Law_law 788 = .ok (.iload 4, 2) := by decide +kernel
theorem d_Law_law_790 : decode b_Law_law 790 = .ok (.iconst 2, 1) := by decide +kernel
theorem d_Law_law_791 : decode b_Law_law 791 = .ok (.iadd, 1) := by decide +kernel
theorem d_Law_law_792 : decode b_Law_law 792 = .ok (.iaload, 1) := by decide +kernel
theorem d_Law_law_793 : decode b_Law_law 793 = .ok (.aload_n 0, 1) := by decide +kernel
theorem d_Law_law_794 : decode b_Law_law 794 = .ok (.iload 4, 2) := by decide +kernel
theorem d_Law_law_796 : decode b_Law_law 796 = .ok (.iconst 3, 1) := by decide +kernel
theorem d_Law_law_797 : decode b_Law_law 797 = .ok (.iadd, 1) := by decide +kernel
theorem d_Law_law_798 : decode b_Law_law 798 = .ok (.iaload, 1) := by decide +kernel
theorem d_Law_law_799 : decode b_Law_law 799 = .ok (.invokevirtual 110, 3) := by decide +kernel
theorem d_Law_law_802 : decode b_Law_law 802 = .ok (.istore 6, 2) := by decide +kernel
theorem d_Law_law_804 : decode b_Law_law 804 = .ok (.aload_n 2, 1) := by decide +kernel
theorem d_Law_law_805 : decode b_Law_law 805 = .ok (.invokevirtual 69, 3) := by decide +kernel
theorem d_Law_law_808 : decode b_Law_law 808 = .ok (.iload 5, 2) := by decide +kernel
theorem d_Law_law_810 : decode b_Law_law 810 = .ok (.if_icmp .eq 5, 3) := by decide +kernel
theorem d_Law_law_813 : decode b_Law_law 813 = .ok (.iconst 0, 1) := by decide +kernel
theorem d_Law_law_814 : decode b_Law_law 814 = .ok (.ireturn, 1) := by decide +kernel
theorem d_Law_law_815 : decode b_Law_law 815 = .ok (.iload 5, 2) := by decide +kernel
theorem d_Law_law_817 : decode b_Law_law 817 = .ok (.ifCond .ne 15, 3) := by decide +kernel
theorem d_Law_law_820 : decode b_Law_law 820 = .ok (.aload_n 3, 1) := by decide +kernel
theorem d_Law_law_821 : decode b_Law_law 821 = .ok (.iconst 0, 1) := by decide +kernel
theorem d_Law_law_822 : decode b_Law_law 822 = .ok (.laload, 1) := by decide +kernel
theorem d_Law_law_823 : decode b_Law_law 823 = .ok (.iload 6, 2) := by decide +kernel
theorem d_Law_law_825 : decode b_Law_law 825 = .ok (.i2l, 1) := by decide +kernel
theorem d_Law_law_826 : decode b_Law_law 826 = .ok (.lcmp, 1) := by decide +kernel
theorem d_Law_law_827 : decode b_Law_law 827 = .ok (.ifCond .eq 5, 3) := by decide +kernel
theorem d_Law_law_830 : decode b_Law_law 830 = .ok (.iconst 0, 1) := by decide +kernel
theorem d_Law_law_831 : decode b_Law_law 831 = .ok (.ireturn, 1) := by decide +kernel
theorem d_Law_law_832 : decode b_Law_law 832 = .ok (.goto 59, 3) := by decide +kernel
theorem d_Law_law_835 : decode b_Law_law 835 = .ok (.aload_n 1, 1) := by decide +kernel
theorem d_Law_law_836 : decode b_Law_law 836 = .ok (.aload_n 0, 1) := by decide +kernel
theorem d_Law_law_837 : decode b_Law_law 837 = .ok (.iload 4, 2) := by decide +kernel
theorem d_Law_law_839 : decode b_Law_law 839 = .ok (.iconst 1, 1) := by decide +kernel
theorem d_Law_law_840 : decode b_Law_law 840 = .ok (.iadd, 1) := by decide +kernel
theorem d_Law_law_841 : decode b_Law_law 841 = .ok (.iaload, 1) := by decide +kernel
theorem d_Law_law_842 : decode b_Law_law 842 = .ok (.aload_n 3, 1) := by decide +kernel
theorem d_Law_law_843 : decode b_Law_law 843 = .ok (.invokestatic 111, 3) := by decide +kernel
theorem d_Law_law_846 : decode b_Law_law 846 = .ok (.istore 5, 2) := by decide +kernel
theorem d_Law_law_848 : decode b_Law_law 848 = .ok (.aload_n 2, 1) := by decide +kernel
theorem d_Law_law_849 : decode b_Law_law 849 = .ok (.aload_n 0, 1) := by decide +kernel
theorem d_Law_law_850 : decode b_Law_law 850 = .ok (.iload 4, 2) := by decide +kernel
theorem d_Law_law_852 : decode b_Law_law 852 = .ok (.iconst 1, 1) := by decide +kernel
theorem d_Law_law_853 : decode b_Law_law 853 = .ok (.iadd, 1) := by decide +kernel
theorem d_Law_law_854 : decode b_Law_law 854 = .ok (.iaload, 1) := by decide +kernel
theorem d_Law_law_855 : decode b_Law_law 855 = .ok (.invokevirtual 113, 3) := by decide +kernel
theorem d_Law_law_858 : decode b_Law_law 858 = .ok (.istore 6, 2) := by decide +kernel
theorem d_Law_law_860 : decode b_Law_law 860 = .ok (.aload_n 2, 1) := by decide +kernel
theorem d_Law_law_861 : decode b_Law_law 861 = .ok (.invokevirtual 69, 3) := by decide +kernel
theorem d_Law_law_864 : decode b_Law_law 864 = .ok (.iload 5, 2) := by decide +kernel
theorem d_Law_law_866 : decode b_Law_law 866 = .ok (.if_icmp .eq 5, 3) := by decide +kernel
theorem d_Law_law_869 : decode b_Law_law 869 = .ok (.iconst 0, 1) := by decide +kernel
theorem d_Law_law_870 : decode b_Law_law 870 = .ok (.ireturn, 1) := by decide +kernel
theorem d_Law_law_871 : decode b_Law_law 871 = .ok (.iload 5, 2) := by decide +kernel
theorem d_Law_law_873 : decode b_Law_law 873 = .ok (.ifCond .ne 15, 3) := by decide +kernel
theorem d_Law_law_876 : decode b_Law_law 876 = .ok (.aload_n 3, 1) := by decide +kernel
theorem d_Law_law_877 : decode b_Law_law 877 = .ok (.iconst 0, 1) := by decide +kernel
theorem d_Law_law_878 : decode b_Law_law 878 = .ok (.laload, 1) := by decide +kernel
theorem d_Law_law_879 : decode b_Law_law 879 = .ok (.iload 6, 2) := by decide +kernel
theorem d_Law_law_881 : decode b_Law_law 881 = .ok (.i2l, 1) := by decide +kernel
theorem d_Law_law_882 : decode b_Law_law 882 = .ok (.lcmp, 1) := by decide +kernel
theorem d_Law_law_883 : decode b_Law_law 883 = .ok (.ifCond .eq 5, 3) := by decide +kernel
theorem d_Law_law_886 : decode b_Law_law 886 = .ok (.iconst 0, 1) := by decide +kernel
theorem d_Law_law_887 : decode b_Law_law 887 = .ok (.ireturn, 1) := by decide +kernel
theorem d_Law_law_888 : decode b_Law_law 888 = .ok (.goto 3, 3) := by decide +kernel
theorem d_Law_law_891 : decode b_Law_law 891 = .ok (.iinc 4 5, 3) := by decide +kernel
theorem d_Law_law_894 : decode b_Law_law 894 = .ok (.goto (-871), 3) := by decide +kernel
theorem d_Law_law_897 : decode b_Law_law 897 = .ok (.iconst 1, 1) := by decide +kernel
theorem d_Law_law_898 : decode b_Law_law 898 = .ok (.ireturn, 1) := by decide +kernel
theorem q_519 : (Cond.classLink R_Law 8 R_PH) ∈ TB := in_TB (List.mem_append_right _ (List.mem_of_getElem? (i := 20) (by decide +kernel))) (by decide +kernel)
theorem q_520 : (Cond.instantiable R_PH 7) ∈ TB := in_TB (List.mem_append_right _ (List.mem_of_getElem? (i := 21) (by decide +kernel))) (by decide +kernel)
theorem q_521 : (Cond.code y_PH_init b_PH_init 1 none) ∈ TB := in_TB (List.mem_append_right _ (List.mem_of_getElem? (i := 24) (by decide +kernel))) (by decide +kernel)
theorem q_522 : (Cond.methodLink R_Law 59 y_PH_init) ∈ TB := in_TB (List.mem_append_right _ (List.mem_of_getElem? (i := 22) (by decide +kernel))) (by decide +kernel)
theorem q_523 : (Cond.instanceMethod y_PH_init) ∈ TB := in_TB (List.mem_append_right _ (List.mem_of_getElem? (i := 23) (by decide +kernel))) (by decide +kernel)
theorem q_524 : (Cond.classLink R_Law 60 R_Mo) ∈ TB := in_TB (List.mem_append_right _ (List.mem_of_getElem? (i := 662) (by decide +kernel))) (by decide +kernel)
theorem q_525 : (Cond.instantiable R_Mo 27) ∈ TB := in_TB (List.mem_append_right _ (List.mem_of_getElem? (i := 663) (by decide +kernel))) (by decide +kernel)
theorem q_526 : (Cond.code y_Mo_init b_Mo_init 1 none) ∈ TB := in_TB (List.mem_append_right _ (List.mem_of_getElem? (i := 666) (by decide +kernel))) (by decide +kernel)
theorem q_527 : (Cond.methodLink R_Law 62 y_Mo_init) ∈ TB := in_TB (List.mem_append_right _ (List.mem_of_getElem? (i := 664) (by decide +kernel))) (by decide +kernel)
theorem q_528 : (Cond.instanceMethod y_Mo_init) ∈ TB := in_TB (List.mem_append_right _ (List.mem_of_getElem? (i := 665) (by decide +kernel))) (by decide +kernel)
theorem q_529 : (Cond.arrayClass .long) ∈ TB := in_TB (List.mem_append_right _ (List.mem_of_getElem? (i := 911) (by decide +kernel))) (by decide +kernel)
theorem q_530 : (Cond.initialized R_Law) ∈ TB := in_TB (List.mem_append_right _ (List.mem_of_getElem? (i := 0) (by decide +kernel))) (by decide +kernel)
theorem q_531 : (Cond.methodLink R_Law 111 y_Law_layers) ∈ TB := in_TB (List.mem_append_right _ (List.mem_of_getElem? (i := 655) (by decide +kernel))) (by decide +kernel)
theorem q_532 : (Cond.codeWith y_Law_layers b_Law_layers 4 (some .int) [(0, 9, 12, 13)]) ∈ TB := in_TB (List.mem_append_right _ (List.mem_of_getElem? (i := 657) (by decide +kernel))) (by decide +kernel)
theorem q_533 : (Cond.static y_Law_layers) ∈ TB := in_TB (List.mem_append_right _ (List.mem_of_getElem? (i := 656) (by decide +kernel))) (by decide +kernel)
theorem q_534 : (Cond.code y_Mo_layers b_Mo_layers 2 (some .int)) ∈ TB := in_TB (List.mem_append_right _ (List.mem_of_getElem? (i := 910) (by decide +kernel))) (by decide +kernel)
theorem q_535 : (Cond.methodLink R_Law 113 y_Mo_layers) ∈ TB := in_TB (List.mem_append_right _ (List.mem_of_getElem? (i := 907) (by decide +kernel))) (by decide +kernel)
theorem q_536 : (Cond.instanceMethod y_Mo_layers) ∈ TB := in_TB (List.mem_append_right _ (List.mem_of_getElem? (i := 908) (by decide +kernel))) (by decide +kernel)
theorem q_537 : (Cond.selects R_Mo y_Mo_layers y_Mo_layers) ∈ TB := in_TB (List.mem_append_right _ (List.mem_of_getElem? (i := 909) (by decide +kernel))) (by decide +kernel)
theorem q_538 : (Cond.code y_Mo_thrown b_Mo_thrown 1 (some .int)) ∈ TB := in_TB (List.mem_append_right _ (List.mem_of_getElem? (i := 763) (by decide +kernel))) (by decide +kernel)
theorem q_539 : (Cond.methodLink R_Law 69 y_Mo_thrown) ∈ TB := in_TB (List.mem_append_right _ (List.mem_of_getElem? (i := 760) (by decide +kernel))) (by decide +kernel)
theorem q_540 : (Cond.instanceMethod y_Mo_thrown) ∈ TB := in_TB (List.mem_append_right _ (List.mem_of_getElem? (i := 761) (by decide +kernel))) (by decide +kernel)
theorem q_541 : (Cond.selects R_Mo y_Mo_thrown y_Mo_thrown) ∈ TB := in_TB (List.mem_append_right _ (List.mem_of_getElem? (i := 762) (by decide +kernel))) (by decide +kernel)
theorem q_542 : (Cond.methodLink R_Law 108 y_Law_bytes) ∈ TB := in_TB (List.mem_append_right _ (List.mem_of_getElem? (i := 647) (by decide +kernel))) (by decide +kernel)
theorem q_543 : (Cond.codeWith y_Law_bytes b_Law_bytes 6 (some .int) [(0, 12, 15, 13), (0, 12, 19, 45)]) ∈ TB := in_TB (List.mem_append_right _ (List.mem_of_getElem? (i := 649) (by decide +kernel))) (by decide +kernel)
theorem q_544 : (Cond.static y_Law_bytes) ∈ TB := in_TB (List.mem_append_right _ (List.mem_of_getElem? (i := 648) (by decide +kernel))) (by decide +kernel)
theorem q_545 : (Cond.code y_Mo_bytes b_Mo_bytes 6 (some .int)) ∈ TB := in_TB (List.mem_append_right _ (List.mem_of_getElem? (i := 906) (by decide +kernel))) (by decide +kernel)
theorem q_546 : (Cond.methodLink R_Law 110 y_Mo_bytes) ∈ TB := in_TB (List.mem_append_right _ (List.mem_of_getElem? (i := 903) (by decide +kernel))) (by decide +kernel)
theorem q_547 : (Cond.instanceMethod y_Mo_bytes) ∈ TB := in_TB (List.mem_append_right _ (List.mem_of_getElem? (i := 904) (by decide +kernel))) (by decide +kernel)
theorem q_548 : (Cond.selects R_Mo y_Mo_bytes y_Mo_bytes) ∈ TB := in_TB (List.mem_append_right _ (List.mem_of_getElem? (i := 905) (by decide +kernel))) (by decide +kernel)
theorem q_549 : (Cond.methodLink R_Law 105 y_Law_got) ∈ TB := in_TB (List.mem_append_right _ (List.mem_of_getElem? (i := 639) (by decide +kernel))) (by decide +kernel)
theorem q_550 : (Cond.codeWith y_Law_got b_Law_got 6 (some .int) [(0, 12, 15, 13)]) ∈ TB := in_TB (List.mem_append_right _ (List.mem_of_getElem? (i := 641) (by decide +kernel))) (by decide +kernel)
theorem q_551 : (Cond.static y_Law_got) ∈ TB := in_TB (List.mem_append_right _ (List.mem_of_getElem? (i := 640) (by decide +kernel))) (by decide +kernel)
theorem q_552 : (Cond.code y_Mo_got b_Mo_got 5 (some .int)) ∈ TB := in_TB (List.mem_append_right _ (List.mem_of_getElem? (i := 902) (by decide +kernel))) (by decide +kernel)
theorem q_553 : (Cond.methodLink R_Law 107 y_Mo_got) ∈ TB := in_TB (List.mem_append_right _ (List.mem_of_getElem? (i := 899) (by decide +kernel))) (by decide +kernel)
theorem q_554 : (Cond.instanceMethod y_Mo_got) ∈ TB := in_TB (List.mem_append_right _ (List.mem_of_getElem? (i := 900) (by decide +kernel))) (by decide +kernel)
theorem q_555 : (Cond.selects R_Mo y_Mo_got y_Mo_got) ∈ TB := in_TB (List.mem_append_right _ (List.mem_of_getElem? (i := 901) (by decide +kernel))) (by decide +kernel)
theorem q_556 : (Cond.methodLink R_Law 102 y_Law_read) ∈ TB := in_TB (List.mem_append_right _ (List.mem_of_getElem? (i := 620) (by decide +kernel))) (by decide +kernel)
theorem q_557 : (Cond.codeWith y_Law_read b_Law_read 5 (some .int) [(0, 10, 13, 13), (0, 10, 17, 19), (0, 10, 21, 36)]) ∈ TB := in_TB (List.mem_append_right _ (List.mem_of_getElem? (i := 622) (by decide +kernel))) (by decide +kernel)
theorem q_558 : (Cond.static y_Law_read) ∈ TB := in_TB (List.mem_append_right _ (List.mem_of_getElem? (i := 621) (by decide +kernel))) (by decide +kernel)
theorem q_559 : (Cond.code y_Mo_read b_Mo_read 5 (some .int)) ∈ TB := in_TB (List.mem_append_right _ (List.mem_of_getElem? (i := 886) (by decide +kernel))) (by decide +kernel)
theorem q_560 : (Cond.methodLink R_Law 104 y_Mo_read) ∈ TB := in_TB (List.mem_append_right _ (List.mem_of_getElem? (i := 883) (by decide +kernel))) (by decide +kernel)
theorem q_561 : (Cond.instanceMethod y_Mo_read) ∈ TB := in_TB (List.mem_append_right _ (List.mem_of_getElem? (i := 884) (by decide +kernel))) (by decide +kernel)
theorem q_562 : (Cond.selects R_Mo y_Mo_read y_Mo_read) ∈ TB := in_TB (List.mem_append_right _ (List.mem_of_getElem? (i := 885) (by decide +kernel))) (by decide +kernel)
theorem q_563 : (Cond.code y_PH_clear b_PH_clear 1 none) ∈ TB := in_TB (List.mem_append_right _ (List.mem_of_getElem? (i := 225) (by decide +kernel))) (by decide +kernel)
theorem q_564 : (Cond.methodLink R_Law 98 y_PH_clear) ∈ TB := in_TB (List.mem_append_right _ (List.mem_of_getElem? (i := 222) (by decide +kernel))) (by decide +kernel)
theorem q_565 : (Cond.instanceMethod y_PH_clear) ∈ TB := in_TB (List.mem_append_right _ (List.mem_of_getElem? (i := 223) (by decide +kernel))) (by decide +kernel)
theorem q_566 : (Cond.selects R_PH y_PH_clear y_PH_clear) ∈ TB := in_TB (List.mem_append_right _ (List.mem_of_getElem? (i := 224) (by decide +kernel))) (by decide +kernel)
theorem q_567 : (Cond.code y_Mo_clear b_Mo_clear 1 none) ∈ TB := in_TB (List.mem_append_right _ (List.mem_of_getElem? (i := 898) (by decide +kernel))) (by decide +kernel)
theorem q_568 : (Cond.methodLink R_Law 101 y_Mo_clear) ∈ TB := in_TB (List.mem_append_right _ (List.mem_of_getElem? (i := 895) (by decide +kernel))) (by decide +kernel)
theorem q_569 : (Cond.instanceMethod y_Mo_clear) ∈ TB := in_TB (List.mem_append_right _ (List.mem_of_getElem? (i := 896) (by decide +kernel))) (by decide +kernel)
theorem q_570 : (Cond.selects R_Mo y_Mo_clear y_Mo_clear) ∈ TB := in_TB (List.mem_append_right _ (List.mem_of_getElem? (i := 897) (by decide +kernel))) (by decide +kernel)
theorem q_571 : (Cond.methodLink R_Law 95 y_Law_at) ∈ TB := in_TB (List.mem_append_right _ (List.mem_of_getElem? (i := 596) (by decide +kernel))) (by decide +kernel)
theorem q_572 : (Cond.codeWith y_Law_at b_Law_at 4 (some .int) [(0, 9, 12, 45)]) ∈ TB := in_TB (List.mem_append_right _ (List.mem_of_getElem? (i := 598) (by decide +kernel))) (by decide +kernel)
theorem q_573 : (Cond.static y_Law_at) ∈ TB := in_TB (List.mem_append_right _ (List.mem_of_getElem? (i := 597) (by decide +kernel))) (by decide +kernel)
theorem q_574 : (Cond.code y_Mo_at b_Mo_at 2 (some .int)) ∈ TB := in_TB (List.mem_append_right _ (List.mem_of_getElem? (i := 894) (by decide +kernel))) (by decide +kernel)
theorem q_575 : (Cond.methodLink R_Law 97 y_Mo_at) ∈ TB := in_TB (List.mem_append_right _ (List.mem_of_getElem? (i := 891) (by decide +kernel))) (by decide +kernel)
theorem q_576 : (Cond.instanceMethod y_Mo_at) ∈ TB := in_TB (List.mem_append_right _ (List.mem_of_getElem? (i := 892) (by decide +kernel))) (by decide +kernel)
theorem q_577 : (Cond.selects R_Mo y_Mo_at y_Mo_at) ∈ TB := in_TB (List.mem_append_right _ (List.mem_of_getElem? (i := 893) (by decide +kernel))) (by decide +kernel)
theorem q_578 : (Cond.methodLink R_Law 91 y_Law_put) ∈ TB := in_TB (List.mem_append_right _ (List.mem_of_getElem? (i := 586) (by decide +kernel))) (by decide +kernel)
theorem q_579 : (Cond.codeWith y_Law_put b_Law_put 4 (some .int) [(0, 9, 12, 13), (0, 9, 15, 36)]) ∈ TB := in_TB (List.mem_append_right _ (List.mem_of_getElem? (i := 588) (by decide +kernel))) (by decide +kernel)
theorem q_580 : (Cond.static y_Law_put) ∈ TB := in_TB (List.mem_append_right _ (List.mem_of_getElem? (i := 587) (by decide +kernel))) (by decide +kernel)
theorem q_581 : (Cond.code y_Mo_put b_Mo_put 2 (some .int)) ∈ TB := in_TB (List.mem_append_right _ (List.mem_of_getElem? (i := 890) (by decide +kernel))) (by decide +kernel)
theorem q_582 : (Cond.methodLink R_Law 94 y_Mo_put) ∈ TB := in_TB (List.mem_append_right _ (List.mem_of_getElem? (i := 887) (by decide +kernel))) (by decide +kernel)
theorem q_583 : (Cond.instanceMethod y_Mo_put) ∈ TB := in_TB (List.mem_append_right _ (List.mem_of_getElem? (i := 888) (by decide +kernel))) (by decide +kernel)
theorem q_584 : (Cond.selects R_Mo y_Mo_put y_Mo_put) ∈ TB := in_TB (List.mem_append_right _ (List.mem_of_getElem? (i := 889) (by decide +kernel))) (by decide +kernel)
theorem q_585 : (Cond.methodLink R_Law 87 y_Law_write) ∈ TB := in_TB (List.mem_append_right _ (List.mem_of_getElem? (i := 445) (by decide +kernel))) (by decide +kernel)
theorem q_586 : (Cond.codeWith y_Law_write b_Law_write 3 (some .int) [(0, 8, 11, 19), (0, 8, 14, 36)]) ∈ TB := in_TB (List.mem_append_right _ (List.mem_of_getElem? (i := 447) (by decide +kernel))) (by decide +kernel)
theorem q_587 : (Cond.static y_Law_write) ∈ TB := in_TB (List.mem_append_right _ (List.mem_of_getElem? (i := 446) (by decide +kernel))) (by decide +kernel)
theorem q_588 : (Cond.code y_Mo_write b_Mo_write 3 (some .int)) ∈ TB := in_TB (List.mem_append_right _ (List.mem_of_getElem? (i := 815) (by decide +kernel))) (by decide +kernel)
theorem q_589 : (Cond.methodLink R_Law 90 y_Mo_write) ∈ TB := in_TB (List.mem_append_right _ (List.mem_of_getElem? (i := 812) (by decide +kernel))) (by decide +kernel)
theorem q_590 : (Cond.instanceMethod y_Mo_write) ∈ TB := in_TB (List.mem_append_right _ (List.mem_of_getElem? (i := 813) (by decide +kernel))) (by decide +kernel)
theorem q_591 : (Cond.selects R_Mo y_Mo_write y_Mo_write) ∈ TB := in_TB (List.mem_append_right _ (List.mem_of_getElem? (i := 814) (by decide +kernel))) (by decide +kernel)
theorem q_592 : (Cond.methodLink R_Law 84 y_Law_piece) ∈ TB := in_TB (List.mem_append_right _ (List.mem_of_getElem? (i := 435) (by decide +kernel))) (by decide +kernel)
theorem q_593 : (Cond.codeWith y_Law_piece b_Law_piece 6 (some .int) [(0, 12, 15, 13), (0, 12, 19, 19)]) ∈ TB := in_TB (List.mem_append_right _ (List.mem_of_getElem? (i := 437) (by decide +kernel))) (by decide +kernel)
theorem q_594 : (Cond.static y_Law_piece) ∈ TB := in_TB (List.mem_append_right _ (List.mem_of_getElem? (i := 436) (by decide +kernel))) (by decide +kernel)
theorem q_595 : (Cond.code y_Mo_piece b_Mo_piece 6 (some .int)) ∈ TB := in_TB (List.mem_append_right _ (List.mem_of_getElem? (i := 806) (by decide +kernel))) (by decide +kernel)
theorem q_596 : (Cond.methodLink R_Law 86 y_Mo_piece) ∈ TB := in_TB (List.mem_append_right _ (List.mem_of_getElem? (i := 803) (by decide +kernel))) (by decide +kernel)
theorem q_597 : (Cond.instanceMethod y_Mo_piece) ∈ TB := in_TB (List.mem_append_right _ (List.mem_of_getElem? (i := 804) (by decide +kernel))) (by decide +kernel)
theorem q_598 : (Cond.selects R_Mo y_Mo_piece y_Mo_piece) ∈ TB := in_TB (List.mem_append_right _ (List.mem_of_getElem? (i := 805) (by decide +kernel))) (by decide +kernel)
theorem q_599 : (Cond.methodLink R_Law 80 y_Law_bring) ∈ TB := in_TB (List.mem_append_right _ (List.mem_of_getElem? (i := 409) (by decide +kernel))) (by decide +kernel)
theorem q_600 : (Cond.codeWith y_Law_bring b_Law_bring 6 (some .int) [(0, 12, 15, 13)]) ∈ TB := in_TB (List.mem_append_right _ (List.mem_of_getElem? (i := 411) (by decide +kernel))) (by decide +kernel)
theorem q_601 : (Cond.static y_Law_bring) ∈ TB := in_TB (List.mem_append_right _ (List.mem_of_getElem? (i := 410) (by decide +kernel))) (by decide +kernel)
theorem q_602 : (Cond.code y_Mo_bring b_Mo_bring 8 (some .int)) ∈ TB := in_TB (List.mem_append_right _ (List.mem_of_getElem? (i := 790) (by decide +kernel))) (by decide +kernel)
theorem q_603 : (Cond.methodLink R_Law 83 y_Mo_bring) ∈ TB := in_TB (List.mem_append_right _ (List.mem_of_getElem? (i := 787) (by decide +kernel))) (by decide +kernel)
theorem q_604 : (Cond.instanceMethod y_Mo_bring) ∈ TB := in_TB (List.mem_append_right _ (List.mem_of_getElem? (i := 788) (by decide +kernel))) (by decide +kernel)
theorem q_605 : (Cond.selects R_Mo y_Mo_bring y_Mo_bring) ∈ TB := in_TB (List.mem_append_right _ (List.mem_of_getElem? (i := 789) (by decide +kernel))) (by decide +kernel)
theorem q_606 : (Cond.methodLink R_Law 76 y_Law_first) ∈ TB := in_TB (List.mem_append_right _ (List.mem_of_getElem? (i := 390) (by decide +kernel))) (by decide +kernel)
theorem q_607 : (Cond.codeWith y_Law_first b_Law_first 6 (some .int) [(0, 9, 12, 13), (0, 9, 16, 19)]) ∈ TB := in_TB (List.mem_append_right _ (List.mem_of_getElem? (i := 392) (by decide +kernel))) (by decide +kernel)
theorem q_608 : (Cond.static y_Law_first) ∈ TB := in_TB (List.mem_append_right _ (List.mem_of_getElem? (i := 391) (by decide +kernel))) (by decide +kernel)
theorem q_609 : (Cond.code y_Mo_first b_Mo_first 6 none) ∈ TB := in_TB (List.mem_append_right _ (List.mem_of_getElem? (i := 782) (by decide +kernel))) (by decide +kernel)
theorem q_610 : (Cond.methodLink R_Law 79 y_Mo_first) ∈ TB := in_TB (List.mem_append_right _ (List.mem_of_getElem? (i := 779) (by decide +kernel))) (by decide +kernel)
theorem q_611 : (Cond.instanceMethod y_Mo_first) ∈ TB := in_TB (List.mem_append_right _ (List.mem_of_getElem? (i := 780) (by decide +kernel))) (by decide +kernel)
theorem q_612 : (Cond.selects R_Mo y_Mo_first y_Mo_first) ∈ TB := in_TB (List.mem_append_right _ (List.mem_of_getElem? (i := 781) (by decide +kernel))) (by decide +kernel)
theorem q_613 : (Cond.methodLink R_Law 72 y_Law_band) ∈ TB := in_TB (List.mem_append_right _ (List.mem_of_getElem? (i := 310) (by decide +kernel))) (by decide +kernel)
theorem q_614 : (Cond.codeWith y_Law_band b_Law_band 5 (some .int) [(0, 10, 13, 13), (0, 10, 17, 19)]) ∈ TB := in_TB (List.mem_append_right _ (List.mem_of_getElem? (i := 312) (by decide +kernel))) (by decide +kernel)
theorem q_615 : (Cond.static y_Law_band) ∈ TB := in_TB (List.mem_append_right _ (List.mem_of_getElem? (i := 311) (by decide +kernel))) (by decide +kernel)
theorem q_616 : (Cond.code y_Mo_band b_Mo_band 4 (some .int)) ∈ TB := in_TB (List.mem_append_right _ (List.mem_of_getElem? (i := 775) (by decide +kernel))) (by decide +kernel)
theorem q_617 : (Cond.methodLink R_Law 75 y_Mo_band) ∈ TB := in_TB (List.mem_append_right _ (List.mem_of_getElem? (i := 772) (by decide +kernel))) (by decide +kernel)
theorem q_618 : (Cond.instanceMethod y_Mo_band) ∈ TB := in_TB (List.mem_append_right _ (List.mem_of_getElem? (i := 773) (by decide +kernel))) (by decide +kernel)
theorem q_619 : (Cond.selects R_Mo y_Mo_band y_Mo_band) ∈ TB := in_TB (List.mem_append_right _ (List.mem_of_getElem? (i := 774) (by decide +kernel))) (by decide +kernel)
theorem q_620 : (Cond.methodLink R_Law 63 y_Law_begin) ∈ TB := in_TB (List.mem_append_right _ (List.mem_of_getElem? (i := 226) (by decide +kernel))) (by decide +kernel)
theorem q_621 : (Cond.codeWith y_Law_begin b_Law_begin 3 (some .int) [(0, 5, 8, 13)]) ∈ TB := in_TB (List.mem_append_right _ (List.mem_of_getElem? (i := 228) (by decide +kernel))) (by decide +kernel)
theorem q_622 : (Cond.static y_Law_begin) ∈ TB := in_TB (List.mem_append_right _ (List.mem_of_getElem? (i := 227) (by decide +kernel))) (by decide +kernel)
theorem q_623 : (Cond.code y_Mo_begin b_Mo_begin 3 none) ∈ TB := in_TB (List.mem_append_right _ (List.mem_of_getElem? (i := 767) (by decide +kernel))) (by decide +kernel)
theorem q_624 : (Cond.methodLink R_Law 68 y_Mo_begin) ∈ TB := in_TB (List.mem_append_right _ (List.mem_of_getElem? (i := 764) (by decide +kernel))) (by decide +kernel)
theorem q_625 : (Cond.instanceMethod y_Mo_begin) ∈ TB := in_TB (List.mem_append_right _ (List.mem_of_getElem? (i := 765) (by decide +kernel))) (by decide +kernel)
theorem q_626 : (Cond.selects R_Mo y_Mo_begin y_Mo_begin) ∈ TB := in_TB (List.mem_append_right _ (List.mem_of_getElem? (i := 766) (by decide +kernel))) (by decide +kernel)
theorem hd_PH_init : y_PH_init.cls ≠ "java/lang/invoke/MethodHandle" ∧ y_PH_init.cls ≠ "java/lang/invoke/VarHandle" ∧ (parseMethodDescriptor y_PH_init.desc).map (fun d => d.parameters.length) = some 0 := by decide +kernel
theorem hd_Mo_init : y_Mo_init.cls ≠ "java/lang/invoke/MethodHandle" ∧ y_Mo_init.cls ≠ "java/lang/invoke/VarHandle" ∧ (parseMethodDescriptor y_Mo_init.desc).map (fun d => d.parameters.length) = some 0 := by decide +kernel
theorem hd_Law_layers : y_Law_layers.cls ≠ "java/lang/invoke/MethodHandle" ∧ y_Law_layers.cls ≠ "java/lang/invoke/VarHandle" ∧ (parseMethodDescriptor y_Law_layers.desc).map (fun d => d.parameters.length) = some 3 := by decide +kernel
theorem hd_Mo_layers : y_Mo_layers.cls ≠ "java/lang/invoke/MethodHandle" ∧ y_Mo_layers.cls ≠ "java/lang/invoke/VarHandle" ∧ (parseMethodDescriptor y_Mo_layers.desc).map (fun d => d.parameters.length) = some 1 := by decide +kernel
theorem hd_Mo_thrown : y_Mo_thrown.cls ≠ "java/lang/invoke/MethodHandle" ∧ y_Mo_thrown.cls ≠ "java/lang/invoke/VarHandle" ∧ (parseMethodDescriptor y_Mo_thrown.desc).map (fun d => d.parameters.length) = some 0 := by decide +kernel
theorem hd_Law_bytes : y_Law_bytes.cls ≠ "java/lang/invoke/MethodHandle" ∧ y_Law_bytes.cls ≠ "java/lang/invoke/VarHandle" ∧ (parseMethodDescriptor y_Law_bytes.desc).map (fun d => d.parameters.length) = some 5 := by decide +kernel
theorem hd_Mo_bytes : y_Mo_bytes.cls ≠ "java/lang/invoke/MethodHandle" ∧ y_Mo_bytes.cls ≠ "java/lang/invoke/VarHandle" ∧ (parseMethodDescriptor y_Mo_bytes.desc).map (fun d => d.parameters.length) = some 3 := by decide +kernel
theorem hd_Law_got : y_Law_got.cls ≠ "java/lang/invoke/MethodHandle" ∧ y_Law_got.cls ≠ "java/lang/invoke/VarHandle" ∧ (parseMethodDescriptor y_Law_got.desc).map (fun d => d.parameters.length) = some 5 := by decide +kernel
theorem hd_Mo_got : y_Mo_got.cls ≠ "java/lang/invoke/MethodHandle" ∧ y_Mo_got.cls ≠ "java/lang/invoke/VarHandle" ∧ (parseMethodDescriptor y_Mo_got.desc).map (fun d => d.parameters.length) = some 3 := by decide +kernel
theorem hd_Law_read : y_Law_read.cls ≠ "java/lang/invoke/MethodHandle" ∧ y_Law_read.cls ≠ "java/lang/invoke/VarHandle" ∧ (parseMethodDescriptor y_Law_read.desc).map (fun d => d.parameters.length) = some 4 := by decide +kernel
theorem hd_Mo_read : y_Mo_read.cls ≠ "java/lang/invoke/MethodHandle" ∧ y_Mo_read.cls ≠ "java/lang/invoke/VarHandle" ∧ (parseMethodDescriptor y_Mo_read.desc).map (fun d => d.parameters.length) = some 2 := by decide +kernel
theorem hd_PH_clear : y_PH_clear.cls ≠ "java/lang/invoke/MethodHandle" ∧ y_PH_clear.cls ≠ "java/lang/invoke/VarHandle" ∧ (parseMethodDescriptor y_PH_clear.desc).map (fun d => d.parameters.length) = some 0 := by decide +kernel
theorem hd_Mo_clear : y_Mo_clear.cls ≠ "java/lang/invoke/MethodHandle" ∧ y_Mo_clear.cls ≠ "java/lang/invoke/VarHandle" ∧ (parseMethodDescriptor y_Mo_clear.desc).map (fun d => d.parameters.length) = some 0 := by decide +kernel
theorem hd_Law_at : y_Law_at.cls ≠ "java/lang/invoke/MethodHandle" ∧ y_Law_at.cls ≠ "java/lang/invoke/VarHandle" ∧ (parseMethodDescriptor y_Law_at.desc).map (fun d => d.parameters.length) = some 3 := by decide +kernel
theorem hd_Mo_at : y_Mo_at.cls ≠ "java/lang/invoke/MethodHandle" ∧ y_Mo_at.cls ≠ "java/lang/invoke/VarHandle" ∧ (parseMethodDescriptor y_Mo_at.desc).map (fun d => d.parameters.length) = some 1 := by decide +kernel
theorem hd_Law_put : y_Law_put.cls ≠ "java/lang/invoke/MethodHandle" ∧ y_Law_put.cls ≠ "java/lang/invoke/VarHandle" ∧ (parseMethodDescriptor y_Law_put.desc).map (fun d => d.parameters.length) = some 3 := by decide +kernel
theorem hd_Mo_put : y_Mo_put.cls ≠ "java/lang/invoke/MethodHandle" ∧ y_Mo_put.cls ≠ "java/lang/invoke/VarHandle" ∧ (parseMethodDescriptor y_Mo_put.desc).map (fun d => d.parameters.length) = some 1 := by decide +kernel
theorem hd_Law_write : y_Law_write.cls ≠ "java/lang/invoke/MethodHandle" ∧ y_Law_write.cls ≠ "java/lang/invoke/VarHandle" ∧ (parseMethodDescriptor y_Law_write.desc).map (fun d => d.parameters.length) = some 2 := by decide +kernel
theorem hd_Mo_write : y_Mo_write.cls ≠ "java/lang/invoke/MethodHandle" ∧ y_Mo_write.cls ≠ "java/lang/invoke/VarHandle" ∧ (parseMethodDescriptor y_Mo_write.desc).map (fun d => d.parameters.length) = some 0 := by decide +kernel
theorem hd_Law_piece : y_Law_piece.cls ≠ "java/lang/invoke/MethodHandle" ∧ y_Law_piece.cls ≠ "java/lang/invoke/VarHandle" ∧ (parseMethodDescriptor y_Law_piece.desc).map (fun d => d.parameters.length) = some 5 := by decide +kernel
theorem hd_Mo_piece : y_Mo_piece.cls ≠ "java/lang/invoke/MethodHandle" ∧ y_Mo_piece.cls ≠ "java/lang/invoke/VarHandle" ∧ (parseMethodDescriptor y_Mo_piece.desc).map (fun d => d.parameters.length) = some 3 := by decide +kernel
theorem hd_Law_bring : y_Law_bring.cls ≠ "java/lang/invoke/MethodHandle" ∧ y_Law_bring.cls ≠ "java/lang/invoke/VarHandle" ∧ (parseMethodDescriptor y_Law_bring.desc).map (fun d => d.parameters.length) = some 5 := by decide +kernel
theorem hd_Mo_bring : y_Mo_bring.cls ≠ "java/lang/invoke/MethodHandle" ∧ y_Mo_bring.cls ≠ "java/lang/invoke/VarHandle" ∧ (parseMethodDescriptor y_Mo_bring.desc).map (fun d => d.parameters.length) = some 3 := by decide +kernel
theorem hd_Law_first : y_Law_first.cls ≠ "java/lang/invoke/MethodHandle" ∧ y_Law_first.cls ≠ "java/lang/invoke/VarHandle" ∧ (parseMethodDescriptor y_Law_first.desc).map (fun d => d.parameters.length) = some 5 := by decide +kernel
theorem hd_Mo_first : y_Mo_first.cls ≠ "java/lang/invoke/MethodHandle" ∧ y_Mo_first.cls ≠ "java/lang/invoke/VarHandle" ∧ (parseMethodDescriptor y_Mo_first.desc).map (fun d => d.parameters.length) = some 4 := by decide +kernel
theorem hd_Law_band : y_Law_band.cls ≠ "java/lang/invoke/MethodHandle" ∧ y_Law_band.cls ≠ "java/lang/invoke/VarHandle" ∧ (parseMethodDescriptor y_Law_band.desc).map (fun d => d.parameters.length) = some 4 := by decide +kernel
theorem hd_Mo_band : y_Mo_band.cls ≠ "java/lang/invoke/MethodHandle" ∧ y_Mo_band.cls ≠ "java/lang/invoke/VarHandle" ∧ (parseMethodDescriptor y_Mo_band.desc).map (fun d => d.parameters.length) = some 2 := by decide +kernel
theorem hd_Law_begin : y_Law_begin.cls ≠ "java/lang/invoke/MethodHandle" ∧ y_Law_begin.cls ≠ "java/lang/invoke/VarHandle" ∧ (parseMethodDescriptor y_Law_begin.desc).map (fun d => d.parameters.length) = some 2 := by decide +kernel
theorem hd_Mo_begin : y_Mo_begin.cls ≠ "java/lang/invoke/MethodHandle" ∧ y_Mo_begin.cls ≠ "java/lang/invoke/VarHandle" ∧ (parseMethodDescriptor y_Mo_begin.desc).map (fun d => d.parameters.length) = some 1 := by decide +kernel
