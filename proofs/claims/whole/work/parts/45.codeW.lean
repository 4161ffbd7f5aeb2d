abbrev m_W_law : MT := (x, code, 4, ret, room_1)
theorem d_W_law_0 : decode code 0 = .ok (.new 7, 3) := by decide +kernel
theorem d_W_law_3 : decode code 3 = .ok (.dup, 1) := by decide +kernel
theorem d_W_law_4 : decode code 4 = .ok (.aload_n 0, 1) := by decide +kernel
theorem d_W_law_5 : decode code 5 = .ok (.iconst 0, 1) := by decide +kernel
theorem d_W_law_6 : decode code 6 = .ok (.invokestatic 9, 3) := by decide +kernel
theorem d_W_law_9 : decode code 9 = .ok (.invokespecial 15, 3) := by decide +kernel
theorem d_W_law_12 : decode code 12 = .ok (.astore_n 1, 1) := by decide +kernel
theorem d_W_law_13 : decode code 13 = .ok (.new 18, 3) := by decide +kernel
theorem d_W_law_16 : decode code 16 = .ok (.dup, 1) := by decide +kernel
theorem d_W_law_17 : decode code 17 = .ok (.aload_n 0, 1) := by decide +kernel
theorem d_W_law_18 : decode code 18 = .ok (.iconst 0, 1) := by decide +kernel
theorem d_W_law_19 : decode code 19 = .ok (.invokestatic 9, 3) := by decide +kernel
theorem d_W_law_22 : decode code 22 = .ok (.invokespecial 20, 3) := by decide +kernel
theorem d_W_law_25 : decode code 25 = .ok (.astore_n 2, 1) := by decide +kernel
theorem d_W_law_26 : decode code 26 = .ok (.iconst 1, 1) := by decide +kernel
theorem d_W_law_27 : decode code 27 = .ok (.istore_n 3, 1) := by decide +kernel
theorem d_W_law_28 : decode code 28 = .ok (.iload_n 3, 1) := by decide +kernel
theorem d_W_law_29 : decode code 29 = .ok (.aload_n 0, 1) := by decide +kernel
theorem d_W_law_30 : decode code 30 = .ok (.arraylength, 1) := by decide +kernel
theorem d_W_law_31 : decode code 31 = .ok (.iconst 5, 1) := by decide +kernel
theorem d_W_law_32 : decode code 32 = .ok (.isub, 1) := by decide +kernel
theorem d_W_law_33 : decode code 33 = .ok (.if_icmp .gt 592, 3) := by decide +kernel
theorem d_W_law_36 : decode code 36 = .ok (.aload_n 0, 1) := by decide +kernel
theorem d_W_law_37 : decode code 37 = .ok (.iload_n 3, 1) := by decide +kernel
theorem d_W_law_38 : decode code 38 = .ok (.iaload, 1) := by decide +kernel
theorem d_W_law_39 : decode code 39 = .ok (.bipush 31, 2) := by decide +kernel
theorem d_W_law_41 : decode code 41 = .ok (.iand, 1) := by decide +kernel
theorem d_W_law_42 : decode code 42 = .ok (.tableswitch 577 0 18 #[90, 143, 166, 179, 202, 225, 248, 281, 304, 327, 350, 373, 406, 439, 462, 495, 508, 531, 554], 90) := by decide +kernel
theorem d_W_law_132 : decode code 132 = .ok (.aload_n 1, 1) := by decide +kernel
theorem d_W_law_133 : decode code 133 = .ok (.aload_n 0, 1) := by decide +kernel
theorem d_W_law_134 : decode code 134 = .ok (.iload_n 3, 1) := by decide +kernel
theorem d_W_law_135 : decode code 135 = .ok (.iconst 1, 1) := by decide +kernel
theorem d_W_law_136 : decode code 136 = .ok (.iadd, 1) := by decide +kernel
theorem d_W_law_137 : decode code 137 = .ok (.iaload, 1) := by decide +kernel
theorem d_W_law_138 : decode code 138 = .ok (.aload_n 0, 1) := by decide +kernel
theorem d_W_law_139 : decode code 139 = .ok (.iload_n 3, 1) := by decide +kernel
theorem d_W_law_140 : decode code 140 = .ok (.iconst 2, 1) := by decide +kernel
theorem d_W_law_141 : decode code 141 = .ok (.iadd, 1) := by decide +kernel
theorem d_W_law_142 : decode code 142 = .ok (.iaload, 1) := by decide +kernel
theorem d_W_law_143 : decode code 143 = .ok (.aload_n 0, 1) := by decide +kernel
theorem d_W_law_144 : decode code 144 = .ok (.iload_n 3, 1) := by decide +kernel
theorem d_W_law_145 : decode code 145 = .ok (.iconst 3, 1) := by decide +kernel
theorem d_W_law_146 : decode code 146 = .ok (.iadd, 1) := by decide +kernel
theorem d_W_law_147 : decode code 147 = .ok (.iaload, 1) := by decide +kernel
theorem d_W_law_148 : decode code 148 = .ok (.aload_n 0, 1) := by decide +kernel
theorem d_W_law_149 : decode code 149 = .ok (.iload_n 3, 1) := by decide +kernel
theorem d_W_law_150 : decode code 150 = .ok (.iconst 4, 1) := by decide +kernel
theorem d_W_law_151 : decode code 151 = .ok (.iadd, 1) := by decide +kernel
theorem d_W_law_152 : decode code 152 = .ok (.iaload, 1) := by decide +kernel
theorem d_W_law_153 : decode code 153 = .ok (.invokevirtual 21, 3) := by decide +kernel
theorem d_W_law_156 : decode code 156 = .ok (.aload_n 2, 1) := by decide +kernel
theorem d_W_law_157 : decode code 157 = .ok (.aload_n 0, 1) := by decide +kernel
theorem d_W_law_158 : decode code 158 = .ok (.iload_n 3, 1) := by decide +kernel
theorem d_W_law_159 : decode code 159 = .ok (.iconst 1, 1) := by decide +kernel
theorem d_W_law_160 : decode code 160 = .ok (.iadd, 1) := by decide +kernel
theorem d_W_law_161 : decode code 161 = .ok (.iaload, 1) := by decide +kernel
theorem d_W_law_162 : decode code 162 = .ok (.aload_n 0, 1) := by decide +kernel
theorem d_W_law_163 : decode code 163 = .ok (.iload_n 3, 1) := by decide +kernel
theorem d_W_law_164 : decode code 164 = .ok (.iconst 2, 1) := by decide +kernel
theorem d_W_law_165 : decode code 165 = .ok (.iadd, 1) := by decide +kernel
theorem d_W_law_166 : decode code 166 = .ok (.iaload, 1) := by decide +kernel
theorem d_W_law_167 : decode code 167 = .ok (.aload_n 0, 1) := by decide +kernel
theorem d_W_law_168 : decode code 168 = .ok (.iload_n 3, 1) := by decide +kernel
theorem d_W_law_169 : decode code 169 = .ok (.iconst 3, 1) := by decide +kernel
theorem d_W_law_170 : decode code 170 = .ok (.iadd, 1) := by decide +kernel
theorem d_W_law_171 : decode code 171 = .ok (.iaload, 1) := by decide +kernel
theorem d_W_law_172 : decode code 172 = .ok (.aload_n 0, 1) := by decide +kernel
theorem d_W_law_173 : decode code 173 = .ok (.iload_n 3, 1) := by decide +kernel
theorem d_W_law_174 : decode code 174 = .ok (.iconst 4, 1) := by decide +kernel
theorem d_W_law_175 : decode code 175 = .ok (.iadd, 1) := by decide +kernel
theorem d_W_law_176 : decode code 176 = .ok (.iaload, 1) := by decide +kernel
theorem d_W_law_177 : decode code 177 = .ok (.invokevirtual 25, 3) := by decide +kernel
theorem d_W_law_180 : decode code 180 = .ok (.if_icmp .eq 439, 3) := by decide +kernel
theorem d_W_law_183 : decode code 183 = .ok (.iconst 0, 1) := by decide +kernel
theorem d_W_law_184 : decode code 184 = .ok (.ireturn, 1) := by decide +kernel
theorem d_W_law_185 : decode code 185 = .ok (.aload_n 1, 1) := by decide +kernel
theorem d_W_law_186 : decode code 186 = .ok (.aload_n 0, 1) := by decide +kernel
theorem d_W_law_187 : decode code 187 = .ok (.iload_n 3, 1) := by decide +kernel
theorem d_W_law_188 : decode code 188 = .ok (.iconst 1, 1) := by decide +kernel
theorem d_W_law_189 : decode code 189 = .ok (.iadd, 1) := by decide +kernel
theorem d_W_law_190 : decode code 190 = .ok (.iaload, 1) := by decide +kernel
theorem d_W_law_191 : decode code 191 = .ok (.invokevirtual 26, 3) := by decide +kernel
theorem d_W_law_194 : decode code 194 = .ok (.aload_n 2, 1) := by decide +kernel
theorem d_W_law_195 : decode code 195 = .ok (.aload_n 0, 1) := by decide +kernel
theorem d_W_law_196 : decode code 196 = .ok (.iload_n 3, 1) := by decide +kernel
theorem d_W_law_197 : decode code 197 = .ok (.iconst 1, 1) := by decide +kernel
theorem d_W_law_198 : decode code 198 = .ok (.iadd, 1) := by decide +kernel
theorem d_W_law_199 : decode code 199 = .ok (.iaload, 1) := by decide +kernel
theorem d_W_law_200 : decode code 200 = .ok (.invokevirtual 30, 3) := by decide +kernel
theorem d_W_law_203 : decode code 203 = .ok (.if_icmp .eq 416, 3) := by decide +kernel
theorem d_W_law_206 : decode code 206 = .ok (.iconst 0, 1) := by decide +kernel
theorem d_W_law_207 : decode code 207 = .ok (.ireturn, 1) := by decide +kernel
theorem d_W_law_208 : decode code 208 = .ok (.aload_n 1, 1) := by decide +kernel
theorem d_W_law_209 : decode code 209 = .ok (.invokevirtual 31, 3) := by decide +kernel
theorem d_W_law_212 : decode code 212 = .ok (.aload_n 2, 1) := by decide +kernel
theorem d_W_law_213 : decode code 213 = .ok (.invokevirtual 35, 3) := by decide +kernel
theorem d_W_law_216 : decode code 216 = .ok (.if_icmp .eq 403, 3) := by decide +kernel
theorem d_W_law_219 : decode code 219 = .ok (.iconst 0, 1) := by decide +kernel
theorem d_W_law_220 : decode code 220 = .ok (.ireturn, 1) := by decide +kernel
theorem d_W_law_221 : decode code 221 = .ok (.aload_n 1, 1) := by decide +kernel
theorem d_W_law_222 : decode code 222 = .ok (.aload_n 0, 1) := by decide +kernel
theorem d_W_law_223 : decode code 223 = .ok (.iload_n 3, 1) := by decide +kernel
theorem d_W_law_224 : decode code 224 = .ok (.iconst 1, 1) := by decide +kernel
theorem d_W_law_225 : decode code 225 = .ok (.iadd, 1) := by decide +kernel
theorem d_W_law_226 : decode code 226 = .ok (.iaload, 1) := by decide +kernel
theorem d_W_law_227 : decode code 227 = .ok (.invokevirtual 36, 3) := by decide +kernel
theorem d_W_law_230 : decode code 230 = .ok (.aload_n 2, 1) := by decide +kernel
theorem d_W_law_231 : decode code 231 = .ok (.aload_n 0, 1) := by decide +kernel
theorem d_W_law_232 : decode code 232 = .ok (.iload_n 3, 1) := by decide +kernel
theorem d_W_law_233 : decode code 233 = .ok (.iconst 1, 1) := by decide +kernel
theorem d_W_law_234 : decode code 234 = .ok (.iadd, 1) := by decide +kernel
theorem d_W_law_235 : decode code 235 = .ok (.iaload, 1) := by decide +kernel
theorem d_W_law_236 : decode code 236 = .ok (.invokevirtual 40, 3) := by decide +kernel
theorem d_W_law_239 : decode code 239 = .ok (.if_icmp .eq 380, 3) := by decide +kernel
theorem d_W_law_242 : decode code 242 = .ok (.iconst 0, 1) := by decide +kernel
theorem d_W_law_243 : decode code 243 = .ok (.ireturn, 1) := by decide +kernel
theorem d_W_law_244 : decode code 244 = .ok (.aload_n 1, 1) := by decide +kernel
theorem d_W_law_245 : decode code 245 = .ok (.aload_n 0, 1) := by decide +kernel
theorem d_W_law_246 : decode code 246 = .ok (.iload_n 3, 1) := by decide +kernel
theorem d_W_law_247 : decode code 247 = .ok (.iconst 1, 1) := by decide +kernel
theorem d_W_law_248 : decode code 248 = .ok (.iadd, 1) := by decide +kernel
theorem d_W_law_249 : decode code 249 = .ok (.iaload, 1) := by decide +kernel
theorem d_W_law_250 : decode code 250 = .ok (.invokevirtual 41, 3) := by decide +kernel
theorem d_W_law_253 : decode code 253 = .ok (.aload_n 2, 1) := by decide +kernel
theorem d_W_law_254 : decode code 254 = .ok (.aload_n 0, 1) := by decide +kernel
theorem d_W_law_255 : decode code 255 = .ok (.iload_n 3, 1) := by decide +kernel
theorem d_W_law_256 : decode code 256 = .ok (.iconst 1, 1) := by decide +kernel
theorem d_W_law_257 : decode code 257 = .ok (.iadd, 1) := by decide +kernel
theorem d_W_law_258 : decode code 258 = .ok (.iaload, 1) := by decide +kernel
theorem d_W_law_259 : decode code 259 = .ok (.invokevirtual 44, 3) := by decide +kernel
theorem d_W_law_262 : decode code 262 = .ok (.if_icmp .eq 357, 3) := by decide +kernel
theorem d_W_law_265 : decode code 265 = .ok (.iconst 0, 1) := by decide +kernel
theorem d_W_law_266 : decode code 266 = .ok (.ireturn, 1) := by decide +kernel
theorem d_W_law_267 : decode code 267 = .ok (.aload_n 1, 1) := by decide +kernel
theorem d_W_law_268 : decode code 268 = .ok (.aload_n 0, 1) := by decide +kernel
theorem d_W_law_269 : decode code 269 = .ok (.iload_n 3, 1) := by decide +kernel
theorem d_W_law_270 : decode code 270 = .ok (.iconst 1, 1) := by decide +kernel
theorem d_W_law_271 : decode code 271 = .ok (.iadd, 1) := by decide +kernel
theorem d_W_law_272 : decode code 272 = .ok (.iaload, 1) := by decide +kernel
theorem d_W_law_273 : decode code 273 = .ok (.invokevirtual 45, 3) := by decide +kernel
theorem d_W_law_276 : decode code 276 = .ok (.aload_n 2, 1) := by decide +kernel
theorem d_W_law_277 : decode code 277 = .ok (.aload_n 0, 1) := by decide +kernel
theorem d_W_law_278 : decode code 278 = .ok (.iload_n 3, 1) := by decide +kernel
theorem d_W_law_279 : decode code 279 = .ok (.iconst 1, 1) := by decide +kernel
theorem d_W_law_280 : decode code 280 = .ok (.iadd, 1) := by decide +kernel
theorem d_W_law_281 : decode code 281 = .ok (.iaload, 1) := by decide +kernel
theorem d_W_law_282 : decode code 282 = .ok (.invokevirtual 48, 3) := by decide +kernel
theorem d_W_law_285 : decode code 285 = .ok (.if_icmp .eq 334, 3) := by decide +kernel
theorem d_W_law_288 : decode code 288 = .ok (.iconst 0, 1) := by decide +kernel
theorem d_W_law_289 : decode code 289 = .ok (.ireturn, 1) := by decide +kernel
theorem d_W_law_290 : decode code 290 = .ok (.aload_n 1, 1) := by decide +kernel
theorem d_W_law_291 : decode code 291 = .ok (.aload_n 0, 1) := by decide +kernel
theorem d_W_law_292 : decode code 292 = .ok (.iload_n 3, 1) := by decide +kernel
theorem d_W_law_293 : decode code 293 = .ok (.iconst 1, 1) := by decide +kernel
theorem d_W_law_294 : decode code 294 = .ok (.iadd, 1) := by decide +kernel
theorem d_W_law_295 : decode code 295 = .ok (.iaload, 1) := by decide +kernel
theorem d_W_law_296 : decode code 296 = .ok (.aload_n 0, 1) := by decide +kernel
theorem d_W_law_297 : decode code 297 = .ok (.iload_n 3, 1) := by decide +kernel
theorem d_W_law_298 : decode code 298 = .ok (.iconst 2, 1) := by decide +kernel
theorem d_W_law_299 : decode code 299 = .ok (.iadd, 1) := by decide +kernel
theorem d_W_law_300 : decode code 300 = .ok (.iaload, 1) := by decide +kernel
theorem d_W_law_301 : decode code 301 = .ok (.invokevirtual 49, 3) := by decide +kernel
theorem d_W_law_304 : decode code 304 = .ok (.aload_n 2, 1) := by decide +kernel
theorem d_W_law_305 : decode code 305 = .ok (.aload_n 0, 1) := by decide +kernel
theorem d_W_law_306 : decode code 306 = .ok (.iload_n 3, 1) := by decide +kernel
theorem d_W_law_307 : decode code 307 = .ok (.iconst 1, 1) := by decide +kernel
theorem d_W_law_308 : decode code 308 = .ok (.iadd, 1) := by decide +kernel
theorem d_W_law_309 : decode code 309 = .ok (.iaload, 1) := by decide +kernel
theorem d_W_law_310 : decode code 310 = .ok (.aload_n 0, 1) := by decide +kernel
theorem d_W_law_311 : decode code 311 = .ok (.iload_n 3, 1) := by decide +kernel
theorem d_W_law_312 : decode code 312 = .ok (.iconst 2, 1) := by decide +kernel
theorem d_W_law_313 : decode code 313 = .ok (.iadd, 1) := by decide +kernel
theorem d_W_law_314 : decode code 314 = .ok (.iaload, 1) := by decide +kernel
theorem d_W_law_315 : decode code 315 = .ok (.invokevirtual 53, 3) := by decide +kernel
theorem d_W_law_318 : decode code 318 = .ok (.if_icmp .eq 301, 3) := by decide +kernel
theorem d_W_law_321 : decode code 321 = .ok (.iconst 0, 1) := by decide +kernel
theorem d_W_law_322 : decode code 322 = .ok (.ireturn, 1) := by decide +kernel
theorem d_W_law_323 : decode code 323 = .ok (.aload_n 1, 1) := by decide +kernel
theorem d_W_law_324 : decode code 324 = .ok (.aload_n 0, 1) := by decide +kernel
theorem d_W_law_325 : decode code 325 = .ok (.iload_n 3, 1) := by decide +kernel
theorem d_W_law_326 : decode code 326 = .ok (.iconst 1, 1) := by decide +kernel
theorem d_W_law_327 : decode code 327 = .ok (.iadd, 1) := by decide +kernel
theorem d_W_law_328 : decode code 328 = .ok (.iaload, 1) := by decide +kernel
theorem d_W_law_329 : decode code 329 = .ok (.invokevirtual 54, 3) := by decide +kernel
theorem d_W_law_332 : decode code 332 = .ok (.aload_n 2, 1) := by decide +kernel
theorem d_W_law_333 : decode code 333 = .ok (.aload_n 0, 1) := by decide +kernel
theorem d_W_law_334 : decode code 334 = .ok (.iload_n 3, 1) := by decide +kernel
theorem d_W_law_335 : decode code 335 = .ok (.iconst 1, 1) := by decide +kernel
theorem d_W_law_336 : decode code 336 = .ok (.iadd, 1) := by decide +kernel
theorem d_W_law_337 : decode code 337 = .ok (.iaload, 1) := by decide +kernel
theorem d_W_law_338 : decode code 338 = .ok (.invokevirtual 57, 3) := by decide +kernel
theorem d_W_law_341 : decode code 341 = .ok (.if_icmp .eq 278, 3) := by decide +kernel
theorem d_W_law_344 : decode code 344 = .ok (.iconst 0, 1) := by decide +kernel
theorem d_W_law_345 : decode code 345 = .ok (.ireturn, 1) := by decide +kernel
theorem d_W_law_346 : decode code 346 = .ok (.aload_n 1, 1) := by decide +kernel
theorem d_W_law_347 : decode code 347 = .ok (.aload_n 0, 1) := by decide +kernel
theorem d_W_law_348 : decode code 348 = .ok (.iload_n 3, 1) := by decide +kernel
theorem d_W_law_349 : decode code 349 = .ok (.iconst 1, 1) := by decide +kernel
theorem d_W_law_350 : decode code 350 = .ok (.iadd, 1) := by decide +kernel
theorem d_W_law_351 : decode code 351 = .ok (.iaload, 1) := by decide +kernel
theorem d_W_law_352 : decode code 352 = .ok (.invokevirtual 58, 3) := by decide +kernel
theorem d_W_law_355 : decode code 355 = .ok (.aload_n 2, 1) := by decide +kernel
theorem d_W_law_356 : decode code 356 = .ok (.aload_n 0, 1) := by decide +kernel
theorem d_W_law_357 : decode code 357 = .ok (.iload_n 3, 1) := by decide +kernel
theorem d_W_law_358 : decode code 358 = .ok (.iconst 1, 1) := by decide +kernel
theorem d_W_law_359 : decode code 359 = .ok (.iadd, 1) := by decide +kernel
theorem d_W_law_360 : decode code 360 = .ok (.iaload, 1) := by decide +kernel
theorem d_W_law_361 : decode code 361 = .ok (.invokevirtual 61, 3) := by decide +kernel
theorem d_W_law_364 : decode code 364 = .ok (.if_icmp .eq 255, 3) := by decide +kernel
theorem d_W_law_367 : decode code 367 = .ok (.iconst 0, 1) := by decide +kernel
theorem d_W_law_368 : decode code 368 = .ok (.ireturn, 1) := by decide +kernel
theorem d_W_law_369 : decode code 369 = .ok (.aload_n 1, 1) := by decide +kernel
theorem d_W_law_370 : decode code 370 = .ok (.aload_n 0, 1) := by decide +kernel
theorem d_W_law_371 : decode code 371 = .ok (.iload_n 3, 1) := by decide +kernel
theorem d_W_law_372 : decode code 372 = .ok (.iconst 1, 1) := by decide +kernel
theorem d_W_law_373 : decode code 373 = .ok (.iadd, 1) := by decide +kernel
theorem d_W_law_374 : decode code 374 = .ok (.iaload, 1) := by decide +kernel
theorem d_W_law_375 : decode code 375 = .ok (.invokevirtual 62, 3) := by decide +kernel
theorem d_W_law_378 : decode code 378 = .ok (.aload_n 2, 1) := by decide +kernel
theorem d_W_law_379 : decode code 379 = .ok (.aload_n 0, 1) := by decide +kernel
theorem d_W_law_380 : decode code 380 = .ok (.iload_n 3, 1) := by decide +kernel
theorem d_W_law_381 : decode code 381 = .ok (.iconst 1, 1) := by decide +kernel
theorem d_W_law_382 : decode code 382 = .ok (.iadd, 1) := by decide +kernel
theorem d_W_law_383 : decode code 383 = .ok (.iaload, 1) := by decide +kernel
theorem d_W_law_384 : decode code 384 = .ok (.invokevirtual 65, 3) := by decide +kernel
theorem d_W_law_387 : decode code 387 = .ok (.if_icmp .eq 232, 3) := by decide +kernel
theorem d_W_law_390 : decode code 390 = .ok (.iconst 0, 1) := by decide +kernel
theorem d_W_law_391 : decode code 391 = .ok (.ireturn, 1) := by decide +kernel
theorem d_W_law_392 : decode code 392 = .ok (.aload_n 1, 1) := by decide +kernel
theorem d_W_law_393 : decode code 393 = .ok (.aload_n 0, 1) := by decide +kernel
theorem d_W_law_394 : decode code 394 = .ok (.iload_n 3, 1) := by decide +kernel
theorem d_W_law_395 : decode code 395 = .ok (.iconst 1, 1) := by decide +kernel
theorem d_W_law_396 : decode code 396 = .ok (.iadd, 1) := by decide +kernel
theorem d_W_law_397 : decode code 397 = .ok (.iaload, 1) := by decide +kernel
theorem d_W_law_398 : decode code 398 = .ok (.invokevirtual 66, 3) := by decide +kernel
theorem d_W_law_401 : decode code 401 = .ok (.aload_n 2, 1) := by decide +kernel
theorem d_W_law_402 : decode code 402 = .ok (.aload_n 0, 1) := by decide +kernel
theorem d_W_law_403 : decode code 403 = .ok (.iload_n 3, 1) := by decide +kernel
theorem d_W_law_404 : decode code 404 = .ok (.iconst 1, 1) := by decide +kernel
theorem d_W_law_405 : decode code 405 = .ok (.iadd, 1) := by decide +kernel
theorem d_W_law_406 : decode code 406 = .ok (.iaload, 1) := by decide +kernel
theorem d_W_law_407 : decode code 407 = .ok (.invokevirtual 69, 3) := by decide +kernel
theorem d_W_law_410 : decode code 410 = .ok (.if_icmp .eq 209, 3) := by decide +kernel
theorem d_W_law_413 : decode code 413 = .ok (.iconst 0, 1) := by decide +kernel
theorem d_W_law_414 : decode code 414 = .ok (.ireturn, 1) := by decide +kernel
theorem d_W_law_415 : decode code 415 = .ok (.aload_n 1, 1) := by decide +kernel
theorem d_W_law_416 : decode code 416 = .ok (.aload_n 0, 1) := by decide +kernel
theorem d_W_law_417 : decode code 417 = .ok (.iload_n 3, 1) := by decide +kernel
theorem d_W_law_418 : decode code 418 = .ok (.iconst 1, 1) := by decide +kernel
theorem d_W_law_419 : decode code 419 = .ok (.iadd, 1) := by decide +kernel
theorem d_W_law_420 : decode code 420 = .ok (.iaload, 1) := by decide +kernel
theorem d_W_law_421 : decode code 421 = .ok (.aload_n 0, 1) := by decide +kernel
theorem d_W_law_422 : decode code 422 = .ok (.iload_n 3, 1) := by decide +kernel
theorem d_W_law_423 : decode code 423 = .ok (.iconst 2, 1) := by decide +kernel
theorem d_W_law_424 : decode code 424 = .ok (.iadd, 1) := by decide +kernel
theorem d_W_law_425 : decode code 425 = .ok (.iaload, 1) := by decide +kernel
theorem d_W_law_426 : decode code 426 = .ok (.invokevirtual 70, 3) := by decide +kernel
theorem d_W_law_429 : decode code 429 = .ok (.aload_n 2, 1) := by decide +kernel
theorem d_W_law_430 : decode code 430 = .ok (.aload_n 0, 1) := by decide +kernel
theorem d_W_law_431 : decode code 431 = .ok (.iload_n 3, 1) := by decide +kernel
theorem d_W_law_432 : decode code 432 = .ok (.iconst 1, 1) := by decide +kernel
theorem d_W_law_433 : decode code 433 = .ok (.iadd, 1) := by decide +kernel
theorem d_W_law_434 : decode code 434 = .ok (.iaload, 1) := by decide +kernel
theorem d_W_law_435 : decode code 435 = .ok (.aload_n 0, 1) := by decide +kernel
theorem d_W_law_436 : decode code 436 = .ok (.iload_n 3, 1) := by decide +kernel
theorem d_W_law_437 : decode code 437 = .ok (.iconst 2, 1) := by decide +kernel
theorem d_W_law_438 : decode code 438 = .ok (.iadd, 1) := by decide +kernel
theorem d_W_law_439 : decode code 439 = .ok (.iaload, 1) := by decide +kernel
theorem d_W_law_440 : decode code 440 = .ok (.invokevirtual 74, 3) := by decide +kernel
theorem d_W_law_443 : decode code 443 = .ok (.if_icmp .eq 176, 3) := by decide +kernel
theorem d_W_law_446 : decode code 446 = .ok (.iconst 0, 1) := by decide +kernel
theorem d_W_law_447 : decode code 447 = .ok (.ireturn, 1) := by decide +kernel
theorem d_W_law_448 : decode code 448 = .ok (.aload_n 1, 1) := by decide +kernel
theorem d_W_law_449 : decode code 449 = .ok (.aload_n 0, 1) := by decide +kernel
theorem d_W_law_450 : decode code 450 = .ok (.iload_n 3, 1) := by decide +kernel
theorem d_W_law_451 : decode code 451 = .ok (.iconst 1, 1) := by decide +kernel
theorem d_W_law_452 : decode code 452 = .ok (.iadd, 1) := by decide +kernel
theorem d_W_law_453 : decode code 453 = .ok (.iaload, 1) := by decide +kernel
theorem d_W_law_454 : decode code 454 = .ok (.aload_n 0, 1) := by decide +kernel
theorem d_W_law_455 : decode code 455 = .ok (.iload_n 3, 1) := by decide +kernel
theorem d_W_law_456 : decode code 456 = .ok (.iconst 2, 1) := by decide +kernel
theorem d_W_law_457 : decode code 457 = .ok (.iadd, 1) := by decide +kernel
theorem d_W_law_458 : decode code 458 = .ok (.iaload, 1) := by decide +kernel
theorem d_W_law_459 : decode code 459 = .ok (.invokevirtual 75, 3) := by decide +kernel
theorem d_W_law_462 : decode code 462 = .ok (.aload_n 2, 1) := by decide +kernel
theorem d_W_law_463 : decode code 463 = .ok (.aload_n 0, 1) := by decide +kernel
theorem d_W_law_464 : decode code 464 = .ok (.iload_n 3, 1) := by decide +kernel
theorem d_W_law_465 : decode code 465 = .ok (.iconst 1, 1) := by decide +kernel
theorem d_W_law_466 : decode code 466 = .ok (.iadd, 1) := by decide +kernel
theorem d_W_law_467 : decode code 467 = .ok (.iaload, 1) := by decide +kernel
theorem d_W_law_468 : decode code 468 = .ok (.aload_n 0, 1) := by decide +kernel
theorem d_W_law_469 : decode code 469 = .ok (.iload_n 3, 1) := by decide +kernel
theorem d_W_law_470 : decode code 470 = .ok (.iconst 2, 1) := by decide +kernel
theorem d_W_law_471 : decode code 471 = .ok (.iadd, 1) := by decide +kernel
theorem d_W_law_472 : decode code 472 = .ok (.iaload, 1) := by decide +kernel
theorem d_W_law_473 : decode code 473 = .ok (.invokevirtual 78, 3) := by decide +kernel
theorem d_W_law_476 : decode code 476 = .ok (.if_icmp .eq 143, 3) := by decide +kernel
theorem d_W_law_479 : decode code 479 = .ok (.iconst 0, 1) := by decide +kernel
theorem d_W_law_480 : decode code 480 = .ok (.ireturn, 1) := by decide +kernel
theorem d_W_law_481 : decode code 481 = .ok (.aload_n 1, 1) := by decide +kernel
theorem d_W_law_482 : decode code 482 = .ok (.aload_n 0, 1) := by decide +kernel
theorem d_W_law_483 : decode code 483 = .ok (.iload_n 3, 1) := by decide +kernel
theorem d_W_law_484 : decode code 484 = .ok (.iconst 1, 1) := by decide +kernel
theorem d_W_law_485 : decode code 485 = .ok (.iadd, 1) := by decide +kernel
theorem d_W_law_486 : decode code 486 = .ok (.iaload, 1) := by decide +kernel
theorem d_W_law_487 : decode code 487 = .ok (.invokevirtual 79, 3) := by decide +kernel
theorem d_W_law_490 : decode code 490 = .ok (.aload_n 2, 1) := by decide +kernel
theorem d_W_law_491 : decode code 491 = .ok (.aload_n 0, 1) := by decide +kernel
theorem d_W_law_492 : decode code 492 = .ok (.iload_n 3, 1) := by decide +kernel
theorem d_W_law_493 : decode code 493 = .ok (.iconst 1, 1) := by decide +kernel
theorem d_W_law_494 : decode code 494 = .ok (.iadd, 1) := by decide +kernel
theorem d_W_law_495 : decode code 495 = .ok (.iaload, 1) := by decide +kernel
theorem d_W_law_496 : decode code 496 = .ok (.invokevirtual 82, 3) := by decide +kernel
theorem d_W_law_499 : decode code 499 = .ok (.if_icmp .eq 120, 3) := by decide +kernel
theorem d_W_law_502 : decode code 502 = .ok (.iconst 0, 1) := by decide +kernel
theorem d_W_law_503 : decode code 503 = .ok (.ireturn, 1) := by decide +kernel
theorem d_W_law_504 : decode code 504 = .ok (.aload_n 1, 1) := by decide +kernel
theorem d_W_law_505 : decode code 505 = .ok (.aload_n 0, 1) := by decide +kernel
theorem d_W_law_506 : decode code 506 = .ok (.iload_n 3, 1) := by decide +kernel
theorem d_W_law_507 : decode code 507 = .ok (.iconst 1, 1) := by decide +kernel
theorem d_W_law_508 : decode code 508 = .ok (.iadd, 1) := by decide +kernel
theorem d_W_law_509 : decode code 509 = .ok (.iaload, 1) := by decide +kernel
theorem d_W_law_510 : decode code 510 = .ok (.aload_n 0, 1) := by decide +kernel
theorem d_W_law_511 : decode code 511 = .ok (.iload_n 3, 1) := by decide +kernel
theorem d_W_law_512 : decode code 512 = .ok (.iconst 2, 1) := by decide +kernel
theorem d_W_law_513 : decode code 513 = .ok (.iadd, 1) := by decide +kernel
theorem d_W_law_514 : decode code 514 = .ok (.iaload, 1) := by decide +kernel
theorem d_W_law_515 : decode code 515 = .ok (.invokevirtual 83, 3) := by decide +kernel
theorem d_W_law_518 : decode code 518 = .ok (.aload_n 2, 1) := by decide +kernel
theorem d_W_law_519 : decode code 519 = .ok (.aload_n 0, 1) := by decide +kernel
theorem d_W_law_520 : decode code 520 = .ok (.iload_n 3, 1) := by decide +kernel
theorem d_W_law_521 : decode code 521 = .ok (.iconst 1, 1) := by decide +kernel
theorem d_W_law_522 : decode code 522 = .ok (.iadd, 1) := by decide +kernel
theorem d_W_law_523 : decode code 523 = .ok (.iaload, 1) := by decide +kernel
theorem d_W_law_524 : decode code 524 = .ok (.aload_n 0, 1) := by decide +kernel
theorem d_W_law_525 : decode code 525 = .ok (.iload_n 3, 1) := by decide +kernel
theorem d_W_law_526 : decode code 526 = .ok (.iconst 2, 1) := by decide +kernel
theorem d_W_law_527 : decode code 527 = .ok (.iadd, 1) := by decide +kernel
theorem d_W_law_528 : decode code 528 = .ok (.iaload, 1) := by decide +kernel
theorem d_W_law_529 : decode code 529 = .ok (.invokevirtual 86, 3) := by decide +kernel
theorem d_W_law_532 : decode code 532 = .ok (.if_icmp .eq 87, 3) := by decide +kernel
theorem d_W_law_535 : decode code 535 = .ok (.iconst 0, 1) := by decide +kernel
theorem d_W_law_536 : decode code 536 = .ok (.ireturn, 1) := by decide +kernel
theorem d_W_law_537 : decode code 537 = .ok (.aload_n 1, 1) := by decide +kernel
theorem d_W_law_538 : decode code 538 = .ok (.invokevirtual 87, 3) := by decide +kernel
theorem d_W_law_541 : decode code 541 = .ok (.aload_n 2, 1) := by decide +kernel
theorem d_W_law_542 : decode code 542 = .ok (.invokevirtual 90, 3) := by decide +kernel
theorem d_W_law_545 : decode code 545 = .ok (.if_icmp .eq 74, 3) := by decide +kernel
theorem d_W_law_548 : decode code 548 = .ok (.iconst 0, 1) := by decide +kernel
theorem d_W_law_549 : decode code 549 = .ok (.ireturn, 1) := by decide +kernel
theorem d_W_law_550 : decode code 550 = .ok (.aload_n 1, 1) := by decide +kernel
theorem d_W_law_551 : decode code 551 = .ok (.aload_n 0, 1) := by decide +kernel
theorem d_W_law_552 : decode code 552 = .ok (.iload_n 3, 1) := by decide +kernel
theorem d_W_law_553 : decode code 553 = .ok (.iconst 1, 1) := by decide +kernel
theorem d_W_law_554 : decode code 554 = .ok (.iadd, 1) := by decide +kernel
theorem d_W_law_555 : decode code 555 = .ok (.iaload, 1) := by decide +kernel
theorem d_W_law_556 : decode code 556 = .ok (.invokevirtual 91, 3) := by decide +kernel
theorem d_W_law_559 : decode code 559 = .ok (.aload_n 2, 1) := by decide +kernel
theorem d_W_law_560 : decode code 560 = .ok (.aload_n 0, 1) := by decide +kernel
theorem d_W_law_561 : decode code 561 = .ok (.iload_n 3, 1) := by decide +kernel
theorem d_W_law_562 : decode code 562 = .ok (.iconst 1, 1) := by decide +kernel
theorem d_W_law_563 : decode code 563 = .ok (.iadd, 1) := by decide +kernel
theorem d_W_law_564 : decode code 564 = .ok (.iaload, 1) := by decide +kernel
theorem d_W_law_565 : decode code 565 = .ok (.invokevirtual 94, 3) := by decide +kernel
theorem d_W_law_568 : decode code 568 = .ok (.if_icmp .eq 51, 3) := by decide +kernel
theorem d_W_law_571 : decode code 571 = .ok (.iconst 0, 1) := by decide +kernel
theorem d_W_law_572 : decode code 572 = .ok (.ireturn, 1) := by decide +kernel
theorem d_W_law_573 : decode code 573 = .ok (.aload_n 1, 1) := by decide +kernel
theorem d_W_law_574 : decode code 574 = .ok (.aload_n 0, 1) := by decide +kernel
theorem d_W_law_575 : decode code 575 = .ok (.iload_n 3, 1) := by decide +kernel
theorem d_W_law_576 : decode code 576 = .ok (.iconst 1, 1) := by decide +kernel
theorem d_W_law_577 : decode code 577 = .ok (.iadd, 1) := by decide +kernel
theorem d_W_law_578 : decode code 578 = .ok (.iaload, 1) := by decide +kernel
theorem d_W_law_579 : decode code 579 = .ok (.invokevirtual 95, 3) := by decide +kernel
theorem d_W_law_582 : decode code 582 = .ok (.aload_n 2, 1) := by decide +kernel
theorem d_W_law_583 : decode code 583 = .ok (.aload_n 0, 1) := by decide +kernel
theorem d_W_law_584 : decode code 584 = .ok (.iload_n 3, 1) := by decide +kernel
theorem d_W_law_585 : decode code 585 = .ok (.iconst 1, 1) := by decide +kernel
theorem d_W_law_586 : decode code 586 = .ok (.iadd, 1) := by decide +kernel
theorem d_W_law_587 : decode code 587 = .ok (.iaload, 1) := by decide +kernel
theorem d_W_law_588 : decode code 588 = .ok (.invokevirtual 98, 3) := by decide +kernel
theorem d_W_law_591 : decode code 591 = .ok (.if_icmp .eq 28, 3) := by decide +kernel
theorem d_W_law_594 : decode code 594 = .ok (.iconst 0, 1) := by decide +kernel
theorem d_W_law_595 : decode code 595 = .ok (.ireturn, 1) := by decide +kernel
theorem d_W_law_596 : decode code 596 = .ok (.aload_n 1, 1) := by decide +kernel
theorem d_W_law_597 : decode code 597 = .ok (.aload_n 0, 1) := by decide +kernel
theorem d_W_law_598 : decode code 598 = .ok (.iload_n 3, 1) := by decide +kernel
theorem d_W_law_599 : decode code 599 = .ok (.iconst 1, 1) := by decide +kernel
theorem d_W_law_600 : decode code 600 = .ok (.iadd, 1) := by decide +kernel
theorem d_W_law_601 : decode code 601 = .ok (.iaload, 1) := by decide +kernel
theorem d_W_law_602 : decode code 602 = .ok (.invokevirtual 99, 3) := by decide +kernel
theorem d_W_law_605 : decode code 605 = .ok (.aload_n 2, 1) := by decide +kernel
theorem d_W_law_606 : decode code 606 = .ok (.aload_n 0, 1) := by decide +kernel
theorem d_W_law_607 : decode code 607 = .ok (.iload_n 3, 1) := by decide +kernel
theorem d_W_law_608 : decode code 608 = .ok (.iconst 1, 1) := by decide +kernel
theorem d_W_law_609 : decode code 609 = .ok (.iadd, 1) := by decide +kernel
theorem d_W_law_610 : decode code 610 = .ok (.iaload, 1) := by decide +kernel
theorem d_W_law_611 : decode code 611 = .ok (.invokevirtual 102, 3) := by decide +kernel
theorem d_W_law_614 : decode code 614 = .ok (.if_icmp .eq 5, 3) := by decide +kernel
theorem d_W_law_617 : decode code 617 = .ok (.iconst 0, 1) := by decide +kernel
theorem d_W_law_618 : decode code 618 = .ok (.ireturn, 1) := by decide +kernel
theorem d_W_law_619 : decode code 619 = .ok (.iinc 3 5, 3) := by decide +kernel
theorem d_W_law_622 : decode code 622 = .ok (.goto (-594), 3) := by decide +kernel
theorem d_W_law_625 : decode code 625 = .ok (.iconst 1, 1) := by decide +kernel
theorem d_W_law_626 : decode code 626 = .ok (.ireturn, 1) := by decide +kernel
theorem b_W_law_0 {l : Launch} {D : va_G} {cid : Nat → ClassId} {X : CT} {Post : PT} {b L : Nat} {xs : Nat → Int32} (hX : OK l D cid m_W_law X Post) (hsc : Scr X b L xs) : SS l D cid m_W_law X 0 [o_new 3 8 df_G, o_dup, o_aload 0, o_push (.int 0), o_cell b L xs, o_callI l D cid m_G_init 1, o_astore 1, o_new 4 32 df_Q, o_dup, o_aload 0, o_push (.int 0), o_cell b L xs, o_callI l D cid m_Q_init 1, o_astore 2, o_push (.int 1), o_istore 3] (FR l D cid m_W_law X 28) := by
  refine SS.cons (so_new (C := R_G) (T := T_G) hX d_W_law_0 in_G ty_G k_51 k_52 k_45 rfl dv_G) ?_
  refine SS.cons (so_dup hX d_W_law_3) ?_
  refine SS.cons (so_aload_n hX d_W_law_4 rfl) ?_
  refine SS.cons (so_iconst hX d_W_law_5 (by decide)) ?_
  refine SS.cons (so_cell hX d_W_law_6 k_478 k_476 k_477 k_44 ⟨by decide, by decide⟩ hsc) ?_
  refine SS.cons (so_callI (M' := m_G_init) hX d_W_law_9 k_55 rfl k_53 k_54 k_45 rfl pf_G_init (by decide) (by decide +kernel) ⟨by decide, by decide⟩) ?_
  refine SS.cons (so_astore_n hX d_W_law_12 rfl (by decide)) ?_
  refine SS.cons (so_new (C := R_Q) (T := T_Q) hX d_W_law_13 in_Q ty_Q k_479 k_480 k_48 rfl dv_Q) ?_
  refine SS.cons (so_dup hX d_W_law_16) ?_
  refine SS.cons (so_aload_n hX d_W_law_17 rfl) ?_
  refine SS.cons (so_iconst hX d_W_law_18 (by decide)) ?_
  refine SS.cons (so_cell hX d_W_law_19 k_478 k_476 k_477 k_44 ⟨by decide, by decide⟩ hsc) ?_
  refine SS.cons (so_callI (M' := m_Q_init) hX d_W_law_22 k_483 rfl k_481 k_482 k_48 rfl pf_Q_init (by decide) (by decide +kernel) ⟨by decide, by decide⟩) ?_
  refine SS.cons (so_astore_n hX d_W_law_25 rfl (by decide)) ?_
  refine SS.cons (so_iconst hX d_W_law_26 (by decide)) ?_
  refine SS.cons (so_istore_n hX d_W_law_27 rfl (by decide)) ?_
  exact SS.fall
theorem b_W_law_28 {l : Launch} {D : va_G} {cid : Nat → ClassId} {X : CT} {Post : PT} {b L : Nat} {xs : Nat → Int32} (hX : OK l D cid m_W_law X Post) (hsc : Scr X b L xs) : SS l D cid m_W_law X 28 [o_iload 3, o_aload 0, o_slen b L, o_push (.int 5), o_bin (fun x y => x - y)] (t_cmp (fun x y => y < x) (FR l D cid m_W_law X 625) (FR l D cid m_W_law X 36)) := by
  refine SS.cons (so_iload_n hX d_W_law_28 rfl) ?_
  refine SS.cons (so_aload_n hX d_W_law_29 rfl) ?_
  refine SS.cons (so_slen hX d_W_law_30 hsc) ?_
  refine SS.cons (so_iconst hX d_W_law_31 (by decide)) ?_
  refine SS.cons (so_isub hX d_W_law_32) ?_
  exact st_icmp_gt hX d_W_law_33 (by decide)
theorem b_W_law_36 {l : Launch} {D : va_G} {cid : Nat → ClassId} {X : CT} {Post : PT} {b L : Nat} {xs : Nat → Int32} (hX : OK l D cid m_W_law X Post) (hsc : Scr X b L xs) : SS l D cid m_W_law X 36 [o_aload 0, o_iload 3, o_sld b L xs, o_push (.int 31), o_bin (fun x y => x &&& y)] (t_sw 0 18 [FR l D cid m_W_law X 132, FR l D cid m_W_law X 185, FR l D cid m_W_law X 208, FR l D cid m_W_law X 221, FR l D cid m_W_law X 244, FR l D cid m_W_law X 267, FR l D cid m_W_law X 290, FR l D cid m_W_law X 323, FR l D cid m_W_law X 346, FR l D cid m_W_law X 369, FR l D cid m_W_law X 392, FR l D cid m_W_law X 415, FR l D cid m_W_law X 448, FR l D cid m_W_law X 481, FR l D cid m_W_law X 504, FR l D cid m_W_law X 537, FR l D cid m_W_law X 550, FR l D cid m_W_law X 573, FR l D cid m_W_law X 596] (FR l D cid m_W_law X 619)) := by
  refine SS.cons (so_aload_n hX d_W_law_36 rfl) ?_
  refine SS.cons (so_iload_n hX d_W_law_37 rfl) ?_
  refine SS.cons (so_sld hX d_W_law_38 hsc) ?_
  refine SS.cons (so_bipush hX d_W_law_39 (by decide)) ?_
  refine SS.cons (so_iand hX d_W_law_41) ?_
  exact st_sw (tgts := [132, 185, 208, 221, 244, 267, 290, 323, 346, 369, 392, 415, 448, 481, 504, 537, 550, 573, 596]) hX d_W_law_42 (by decide) (by decide) (by decide)
theorem b_W_law_132 {l : Launch} {D : va_G} {cid : Nat → ClassId} {X : CT} {Post : PT} {b L : Nat} {xs : Nat → Int32} (hX : OK l D cid m_W_law X Post) (hsc : Scr X b L xs) : SS l D cid m_W_law X 132 [o_aload 1, o_aload 0, o_iload 3, o_push (.int 1), o_bin (fun x y => x + y), o_sld b L xs, o_aload 0, o_iload 3, o_push (.int 2), o_bin (fun x y => x + y), o_sld b L xs, o_aload 0, o_iload 3, o_push (.int 3), o_bin (fun x y => x + y), o_sld b L xs, o_aload 0, o_iload 3, o_push (.int 4), o_bin (fun x y => x + y), o_sld b L xs, o_callV l D cid m_G_request 3 4, o_aload 2, o_aload 0, o_iload 3, o_push (.int 1), o_bin (fun x y => x + y), o_sld b L xs, o_aload 0, o_iload 3, o_push (.int 2), o_bin (fun x y => x + y), o_sld b L xs, o_aload 0, o_iload 3, o_push (.int 3), o_bin (fun x y => x + y), o_sld b L xs, o_aload 0, o_iload 3, o_push (.int 4), o_bin (fun x y => x + y), o_sld b L xs, o_callV l D cid m_Q_request 4 4] (t_cmp (fun x y => x = y) (FR l D cid m_W_law X 619) (FR l D cid m_W_law X 183)) := by
  refine SS.cons (so_aload_n hX d_W_law_132 rfl) ?_
  refine SS.cons (so_aload_n hX d_W_law_133 rfl) ?_
  refine SS.cons (so_iload_n hX d_W_law_134 rfl) ?_
  refine SS.cons (so_iconst hX d_W_law_135 (by decide)) ?_
  refine SS.cons (so_iadd hX d_W_law_136) ?_
  refine SS.cons (so_sld hX d_W_law_137 hsc) ?_
  refine SS.cons (so_aload_n hX d_W_law_138 rfl) ?_
  refine SS.cons (so_iload_n hX d_W_law_139 rfl) ?_
  refine SS.cons (so_iconst hX d_W_law_140 (by decide)) ?_
  refine SS.cons (so_iadd hX d_W_law_141) ?_
  refine SS.cons (so_sld hX d_W_law_142 hsc) ?_
  refine SS.cons (so_aload_n hX d_W_law_143 rfl) ?_
  refine SS.cons (so_iload_n hX d_W_law_144 rfl) ?_
  refine SS.cons (so_iconst hX d_W_law_145 (by decide)) ?_
  refine SS.cons (so_iadd hX d_W_law_146) ?_
  refine SS.cons (so_sld hX d_W_law_147 hsc) ?_
  refine SS.cons (so_aload_n hX d_W_law_148 rfl) ?_
  refine SS.cons (so_iload_n hX d_W_law_149 rfl) ?_
  refine SS.cons (so_iconst hX d_W_law_150 (by decide)) ?_
  refine SS.cons (so_iadd hX d_W_law_151) ?_
  refine SS.cons (so_sld hX d_W_law_152 hsc) ?_
  refine SS.cons (so_callV (M' := m_G_request) (T := T_G) hX d_W_law_153 rfl k_187 k_184 k_185 k_186 k_45 pf_G_request (by decide) (by decide +kernel) ⟨by decide, by decide⟩) ?_
  refine SS.cons (so_aload_n hX d_W_law_156 rfl) ?_
  refine SS.cons (so_aload_n hX d_W_law_157 rfl) ?_
  refine SS.cons (so_iload_n hX d_W_law_158 rfl) ?_
  refine SS.cons (so_iconst hX d_W_law_159 (by decide)) ?_
  refine SS.cons (so_iadd hX d_W_law_160) ?_
  refine SS.cons (so_sld hX d_W_law_161 hsc) ?_
  refine SS.cons (so_aload_n hX d_W_law_162 rfl) ?_
  refine SS.cons (so_iload_n hX d_W_law_163 rfl) ?_
  refine SS.cons (so_iconst hX d_W_law_164 (by decide)) ?_
  refine SS.cons (so_iadd hX d_W_law_165) ?_
  refine SS.cons (so_sld hX d_W_law_166 hsc) ?_
  refine SS.cons (so_aload_n hX d_W_law_167 rfl) ?_
  refine SS.cons (so_iload_n hX d_W_law_168 rfl) ?_
  refine SS.cons (so_iconst hX d_W_law_169 (by decide)) ?_
  refine SS.cons (so_iadd hX d_W_law_170) ?_
  refine SS.cons (so_sld hX d_W_law_171 hsc) ?_
  refine SS.cons (so_aload_n hX d_W_law_172 rfl) ?_
  refine SS.cons (so_iload_n hX d_W_law_173 rfl) ?_
  refine SS.cons (so_iconst hX d_W_law_174 (by decide)) ?_
  refine SS.cons (so_iadd hX d_W_law_175) ?_
  refine SS.cons (so_sld hX d_W_law_176 hsc) ?_
  refine SS.cons (so_callV (M' := m_Q_request) (T := T_Q) hX d_W_law_177 rfl k_674 k_671 k_672 k_673 k_48 pf_Q_request (by decide) (by decide +kernel) ⟨by decide, by decide⟩) ?_
  exact st_icmp_eq hX d_W_law_180 (by decide)
theorem b_W_law_183 {l : Launch} {D : va_G} {cid : Nat → ClassId} {X : CT} {Post : PT} {b L : Nat} {xs : Nat → Int32} (hX : OK l D cid m_W_law X Post) (hsc : Scr X b L xs) : SS l D cid m_W_law X 183 [o_push (.int 0)] (t_zret Post) := by
  refine SS.cons (so_iconst hX d_W_law_183 (by decide)) ?_
  exact st_zret hX d_W_law_184 rfl
theorem b_W_law_185 {l : Launch} {D : va_G} {cid : Nat → ClassId} {X : CT} {Post : PT} {b L : Nat} {xs : Nat → Int32} (hX : OK l D cid m_W_law X Post) (hsc : Scr X b L xs) : SS l D cid m_W_law X 185 [o_aload 1, o_aload 0, o_iload 3, o_push (.int 1), o_bin (fun x y => x + y), o_sld b L xs, o_callV l D cid m_G_deliver 3 1, o_aload 2, o_aload 0, o_iload 3, o_push (.int 1), o_bin (fun x y => x + y), o_sld b L xs, o_callV l D cid m_Q_deliver 4 1] (t_cmp (fun x y => x = y) (FR l D cid m_W_law X 619) (FR l D cid m_W_law X 206)) := by
  refine SS.cons (so_aload_n hX d_W_law_185 rfl) ?_
  refine SS.cons (so_aload_n hX d_W_law_186 rfl) ?_
  refine SS.cons (so_iload_n hX d_W_law_187 rfl) ?_
  refine SS.cons (so_iconst hX d_W_law_188 (by decide)) ?_
  refine SS.cons (so_iadd hX d_W_law_189) ?_
  refine SS.cons (so_sld hX d_W_law_190 hsc) ?_
  refine SS.cons (so_callV (M' := m_G_deliver) (T := T_G) hX d_W_law_191 rfl k_282 k_279 k_280 k_281 k_45 pf_G_deliver (by decide) (by decide +kernel) ⟨by decide, by decide⟩) ?_
  refine SS.cons (so_aload_n hX d_W_law_194 rfl) ?_
  refine SS.cons (so_aload_n hX d_W_law_195 rfl) ?_
  refine SS.cons (so_iload_n hX d_W_law_196 rfl) ?_
  refine SS.cons (so_iconst hX d_W_law_197 (by decide)) ?_
  refine SS.cons (so_iadd hX d_W_law_198) ?_
  refine SS.cons (so_sld hX d_W_law_199 hsc) ?_
  refine SS.cons (so_callV (M' := m_Q_deliver) (T := T_Q) hX d_W_law_200 rfl k_586 k_583 k_584 k_585 k_48 pf_Q_deliver (by decide) (by decide +kernel) ⟨by decide, by decide⟩) ?_
  exact st_icmp_eq hX d_W_law_203 (by decide)
theorem b_W_law_206 {l : Launch} {D : va_G} {cid : Nat → ClassId} {X : CT} {Post : PT} {b L : Nat} {xs : Nat → Int32} (hX : OK l D cid m_W_law X Post) (hsc : Scr X b L xs) : SS l D cid m_W_law X 206 [o_push (.int 0)] (t_zret Post) := by
  refine SS.cons (so_iconst hX d_W_law_206 (by decide)) ?_
  exact st_zret hX d_W_law_207 rfl
theorem b_W_law_208 {l : Launch} {D : va_G} {cid : Nat → ClassId} {X : CT} {Post : PT} {b L : Nat} {xs : Nat → Int32} (hX : OK l D cid m_W_law X Post) (hsc : Scr X b L xs) : SS l D cid m_W_law X 208 [o_aload 1, o_callV l D cid m_G_next 3 0, o_aload 2, o_callV l D cid m_Q_next 4 0] (t_cmp (fun x y => x = y) (FR l D cid m_W_law X 619) (FR l D cid m_W_law X 219)) := by
  refine SS.cons (so_aload_n hX d_W_law_208 rfl) ?_
  refine SS.cons (so_callV (M' := m_G_next) (T := T_G) hX d_W_law_209 rfl k_396 k_393 k_394 k_395 k_45 pf_G_next (by decide) (by decide +kernel) ⟨by decide, by decide⟩) ?_
  refine SS.cons (so_aload_n hX d_W_law_212 rfl) ?_
  refine SS.cons (so_callV (M' := m_Q_next) (T := T_Q) hX d_W_law_213 rfl k_670 k_667 k_668 k_669 k_48 pf_Q_next (by decide) (by decide +kernel) ⟨by decide, by decide⟩) ?_
  exact st_icmp_eq hX d_W_law_216 (by decide)
theorem b_W_law_219 {l : Launch} {D : va_G} {cid : Nat → ClassId} {X : CT} {Post : PT} {b L : Nat} {xs : Nat → Int32} (hX : OK l D cid m_W_law X Post) (hsc : Scr X b L xs) : SS l D cid m_W_law X 219 [o_push (.int 0)] (t_zret Post) := by
  refine SS.cons (so_iconst hX d_W_law_219 (by decide)) ?_
  exact st_zret hX d_W_law_220 rfl
theorem b_W_law_221 {l : Launch} {D : va_G} {cid : Nat → ClassId} {X : CT} {Post : PT} {b L : Nat} {xs : Nat → Int32} (hX : OK l D cid m_W_law X Post) (hsc : Scr X b L xs) : SS l D cid m_W_law X 221 [o_aload 1, o_aload 0, o_iload 3, o_push (.int 1), o_bin (fun x y => x + y), o_sld b L xs, o_callV l D cid m_G_remind 3 1, o_aload 2, o_aload 0, o_iload 3, o_push (.int 1), o_bin (fun x y => x + y), o_sld b L xs, o_callV l D cid m_Q_remind 4 1] (t_cmp (fun x y => x = y) (FR l D cid m_W_law X 619) (FR l D cid m_W_law X 242)) := by
  refine SS.cons (so_aload_n hX d_W_law_221 rfl) ?_
  refine SS.cons (so_aload_n hX d_W_law_222 rfl) ?_
  refine SS.cons (so_iload_n hX d_W_law_223 rfl) ?_
  refine SS.cons (so_iconst hX d_W_law_224 (by decide)) ?_
  refine SS.cons (so_iadd hX d_W_law_225) ?_
  refine SS.cons (so_sld hX d_W_law_226 hsc) ?_
  refine SS.cons (so_callV (M' := m_G_remind) (T := T_G) hX d_W_law_227 rfl k_400 k_397 k_398 k_399 k_45 pf_G_remind (by decide) (by decide +kernel) ⟨by decide, by decide⟩) ?_
  refine SS.cons (so_aload_n hX d_W_law_230 rfl) ?_
  refine SS.cons (so_aload_n hX d_W_law_231 rfl) ?_
  refine SS.cons (so_iload_n hX d_W_law_232 rfl) ?_
  refine SS.cons (so_iconst hX d_W_law_233 (by decide)) ?_
  refine SS.cons (so_iadd hX d_W_law_234) ?_
  refine SS.cons (so_sld hX d_W_law_235 hsc) ?_
  refine SS.cons (so_callV (M' := m_Q_remind) (T := T_Q) hX d_W_law_236 rfl k_682 k_679 k_680 k_681 k_48 pf_Q_remind (by decide) (by decide +kernel) ⟨by decide, by decide⟩) ?_
  exact st_icmp_eq hX d_W_law_239 (by decide)
theorem b_W_law_242 {l : Launch} {D : va_G} {cid : Nat → ClassId} {X : CT} {Post : PT} {b L : Nat} {xs : Nat → Int32} (hX : OK l D cid m_W_law X Post) (hsc : Scr X b L xs) : SS l D cid m_W_law X 242 [o_push (.int 0)] (t_zret Post) := by
  refine SS.cons (so_iconst hX d_W_law_242 (by decide)) ?_
  exact st_zret hX d_W_law_243 rfl
theorem b_W_law_244 {l : Launch} {D : va_G} {cid : Nat → ClassId} {X : CT} {Post : PT} {b L : Nat} {xs : Nat → Int32} (hX : OK l D cid m_W_law X Post) (hsc : Scr X b L xs) : SS l D cid m_W_law X 244 [o_aload 1, o_aload 0, o_iload 3, o_push (.int 1), o_bin (fun x y => x + y), o_sld b L xs, o_callV l D cid m_G_suspect 3 1, o_aload 2, o_aload 0, o_iload 3, o_push (.int 1), o_bin (fun x y => x + y), o_sld b L xs, o_callV l D cid m_Q_suspect 4 1] (t_cmp (fun x y => x = y) (FR l D cid m_W_law X 619) (FR l D cid m_W_law X 265)) := by
  refine SS.cons (so_aload_n hX d_W_law_244 rfl) ?_
  refine SS.cons (so_aload_n hX d_W_law_245 rfl) ?_
  refine SS.cons (so_iload_n hX d_W_law_246 rfl) ?_
  refine SS.cons (so_iconst hX d_W_law_247 (by decide)) ?_
  refine SS.cons (so_iadd hX d_W_law_248) ?_
  refine SS.cons (so_sld hX d_W_law_249 hsc) ?_
  refine SS.cons (so_callV (M' := m_G_suspect) (T := T_G) hX d_W_law_250 rfl k_404 k_401 k_402 k_403 k_45 pf_G_suspect (by decide) (by decide +kernel) ⟨by decide, by decide⟩) ?_
  refine SS.cons (so_aload_n hX d_W_law_253 rfl) ?_
  refine SS.cons (so_aload_n hX d_W_law_254 rfl) ?_
  refine SS.cons (so_iload_n hX d_W_law_255 rfl) ?_
  refine SS.cons (so_iconst hX d_W_law_256 (by decide)) ?_
  refine SS.cons (so_iadd hX d_W_law_257) ?_
  refine SS.cons (so_sld hX d_W_law_258 hsc) ?_
  refine SS.cons (so_callV (M' := m_Q_suspect) (T := T_Q) hX d_W_law_259 rfl k_686 k_683 k_684 k_685 k_48 pf_Q_suspect (by decide) (by decide +kernel) ⟨by decide, by decide⟩) ?_
  exact st_icmp_eq hX d_W_law_262 (by decide)
theorem b_W_law_265 {l : Launch} {D : va_G} {cid : Nat → ClassId} {X : CT} {Post : PT} {b L : Nat} {xs : Nat → Int32} (hX : OK l D cid m_W_law X Post) (hsc : Scr X b L xs) : SS l D cid m_W_law X 265 [o_push (.int 0)] (t_zret Post) := by
  refine SS.cons (so_iconst hX d_W_law_265 (by decide)) ?_
  exact st_zret hX d_W_law_266 rfl
theorem b_W_law_267 {l : Launch} {D : va_G} {cid : Nat → ClassId} {X : CT} {Post : PT} {b L : Nat} {xs : Nat → Int32} (hX : OK l D cid m_W_law X Post) (hsc : Scr X b L xs) : SS l D cid m_W_law X 267 [o_aload 1, o_aload 0, o_iload 3, o_push (.int 1), o_bin (fun x y => x + y), o_sld b L xs, o_callV l D cid m_G_crash 3 1, o_aload 2, o_aload 0, o_iload 3, o_push (.int 1), o_bin (fun x y => x + y), o_sld b L xs, o_callV l D cid m_Q_crash 4 1] (t_cmp (fun x y => x = y) (FR l D cid m_W_law X 619) (FR l D cid m_W_law X 288)) := by
  refine SS.cons (so_aload_n hX d_W_law_267 rfl) ?_
  refine SS.cons (so_aload_n hX d_W_law_268 rfl) ?_
  refine SS.cons (so_iload_n hX d_W_law_269 rfl) ?_
  refine SS.cons (so_iconst hX d_W_law_270 (by decide)) ?_
  refine SS.cons (so_iadd hX d_W_law_271) ?_
  refine SS.cons (so_sld hX d_W_law_272 hsc) ?_
  refine SS.cons (so_callV (M' := m_G_crash) (T := T_G) hX d_W_law_273 rfl k_408 k_405 k_406 k_407 k_45 pf_G_crash (by decide) (by decide +kernel) ⟨by decide, by decide⟩) ?_
  refine SS.cons (so_aload_n hX d_W_law_276 rfl) ?_
  refine SS.cons (so_aload_n hX d_W_law_277 rfl) ?_
  refine SS.cons (so_iload_n hX d_W_law_278 rfl) ?_
  refine SS.cons (so_iconst hX d_W_law_279 (by decide)) ?_
  refine SS.cons (so_iadd hX d_W_law_280) ?_
  refine SS.cons (so_sld hX d_W_law_281 hsc) ?_
  refine SS.cons (so_callV (M' := m_Q_crash) (T := T_Q) hX d_W_law_282 rfl k_690 k_687 k_688 k_689 k_48 pf_Q_crash (by decide) (by decide +kernel) ⟨by decide, by decide⟩) ?_
  exact st_icmp_eq hX d_W_law_285 (by decide)
theorem b_W_law_288 {l : Launch} {D : va_G} {cid : Nat → ClassId} {X : CT} {Post : PT} {b L : Nat} {xs : Nat → Int32} (hX : OK l D cid m_W_law X Post) (hsc : Scr X b L xs) : SS l D cid m_W_law X 288 [o_push (.int 0)] (t_zret Post) := by
  refine SS.cons (so_iconst hX d_W_law_288 (by decide)) ?_
  exact st_zret hX d_W_law_289 rfl
theorem b_W_law_290 {l : Launch} {D : va_G} {cid : Nat → ClassId} {X : CT} {Post : PT} {b L : Nat} {xs : Nat → Int32} (hX : OK l D cid m_W_law X Post) (hsc : Scr X b L xs) : SS l D cid m_W_law X 290 [o_aload 1, o_aload 0, o_iload 3, o_push (.int 1), o_bin (fun x y => x + y), o_sld b L xs, o_aload 0, o_iload 3, o_push (.int 2), o_bin (fun x y => x + y), o_sld b L xs, o_callV l D cid m_G_recover 3 2, o_aload 2, o_aload 0, o_iload 3, o_push (.int 1), o_bin (fun x y => x + y), o_sld b L xs, o_aload 0, o_iload 3, o_push (.int 2), o_bin (fun x y => x + y), o_sld b L xs, o_callV l D cid m_Q_recover 4 2] (t_cmp (fun x y => x = y) (FR l D cid m_W_law X 619) (FR l D cid m_W_law X 321)) := by
  refine SS.cons (so_aload_n hX d_W_law_290 rfl) ?_
  refine SS.cons (so_aload_n hX d_W_law_291 rfl) ?_
  refine SS.cons (so_iload_n hX d_W_law_292 rfl) ?_
  refine SS.cons (so_iconst hX d_W_law_293 (by decide)) ?_
  refine SS.cons (so_iadd hX d_W_law_294) ?_
  refine SS.cons (so_sld hX d_W_law_295 hsc) ?_
  refine SS.cons (so_aload_n hX d_W_law_296 rfl) ?_
  refine SS.cons (so_iload_n hX d_W_law_297 rfl) ?_
  refine SS.cons (so_iconst hX d_W_law_298 (by decide)) ?_
  refine SS.cons (so_iadd hX d_W_law_299) ?_
  refine SS.cons (so_sld hX d_W_law_300 hsc) ?_
  refine SS.cons (so_callV (M' := m_G_recover) (T := T_G) hX d_W_law_301 rfl k_423 k_420 k_421 k_422 k_45 pf_G_recover (by decide) (by decide +kernel) ⟨by decide, by decide⟩) ?_
  refine SS.cons (so_aload_n hX d_W_law_304 rfl) ?_
  refine SS.cons (so_aload_n hX d_W_law_305 rfl) ?_
  refine SS.cons (so_iload_n hX d_W_law_306 rfl) ?_
  refine SS.cons (so_iconst hX d_W_law_307 (by decide)) ?_
  refine SS.cons (so_iadd hX d_W_law_308) ?_
  refine SS.cons (so_sld hX d_W_law_309 hsc) ?_
  refine SS.cons (so_aload_n hX d_W_law_310 rfl) ?_
  refine SS.cons (so_iload_n hX d_W_law_311 rfl) ?_
  refine SS.cons (so_iconst hX d_W_law_312 (by decide)) ?_
  refine SS.cons (so_iadd hX d_W_law_313) ?_
  refine SS.cons (so_sld hX d_W_law_314 hsc) ?_
  refine SS.cons (so_callV (M' := m_Q_recover) (T := T_Q) hX d_W_law_315 rfl k_698 k_695 k_696 k_697 k_48 pf_Q_recover (by decide) (by decide +kernel) ⟨by decide, by decide⟩) ?_
  exact st_icmp_eq hX d_W_law_318 (by decide)
theorem b_W_law_321 {l : Launch} {D : va_G} {cid : Nat → ClassId} {X : CT} {Post : PT} {b L : Nat} {xs : Nat → Int32} (hX : OK l D cid m_W_law X Post) (hsc : Scr X b L xs) : SS l D cid m_W_law X 321 [o_push (.int 0)] (t_zret Post) := by
  refine SS.cons (so_iconst hX d_W_law_321 (by decide)) ?_
  exact st_zret hX d_W_law_322 rfl
theorem b_W_law_323 {l : Launch} {D : va_G} {cid : Nat → ClassId} {X : CT} {Post : PT} {b L : Nat} {xs : Nat → Int32} (hX : OK l D cid m_W_law X Post) (hsc : Scr X b L xs) : SS l D cid m_W_law X 323 [o_aload 1, o_aload 0, o_iload 3, o_push (.int 1), o_bin (fun x y => x + y), o_sld b L xs, o_callV l D cid m_G_status 3 1, o_aload 2, o_aload 0, o_iload 3, o_push (.int 1), o_bin (fun x y => x + y), o_sld b L xs, o_callV l D cid m_Q_status 4 1] (t_cmp (fun x y => x = y) (FR l D cid m_W_law X 619) (FR l D cid m_W_law X 344)) := by
  refine SS.cons (so_aload_n hX d_W_law_323 rfl) ?_
  refine SS.cons (so_aload_n hX d_W_law_324 rfl) ?_
  refine SS.cons (so_iload_n hX d_W_law_325 rfl) ?_
  refine SS.cons (so_iconst hX d_W_law_326 (by decide)) ?_
  refine SS.cons (so_iadd hX d_W_law_327) ?_
  refine SS.cons (so_sld hX d_W_law_328 hsc) ?_
  refine SS.cons (so_callV (M' := m_G_status) (T := T_G) hX d_W_law_329 rfl k_427 k_424 k_425 k_426 k_45 pf_G_status (by decide) (by decide +kernel) ⟨by decide, by decide⟩) ?_
  refine SS.cons (so_aload_n hX d_W_law_332 rfl) ?_
  refine SS.cons (so_aload_n hX d_W_law_333 rfl) ?_
  refine SS.cons (so_iload_n hX d_W_law_334 rfl) ?_
  refine SS.cons (so_iconst hX d_W_law_335 (by decide)) ?_
  refine SS.cons (so_iadd hX d_W_law_336) ?_
  refine SS.cons (so_sld hX d_W_law_337 hsc) ?_
  refine SS.cons (so_callV (M' := m_Q_status) (T := T_Q) hX d_W_law_338 rfl k_702 k_699 k_700 k_701 k_48 pf_Q_status (by decide) (by decide +kernel) ⟨by decide, by decide⟩) ?_
  exact st_icmp_eq hX d_W_law_341 (by decide)
theorem b_W_law_344 {l : Launch} {D : va_G} {cid : Nat → ClassId} {X : CT} {Post : PT} {b L : Nat} {xs : Nat → Int32} (hX : OK l D cid m_W_law X Post) (hsc : Scr X b L xs) : SS l D cid m_W_law X 344 [o_push (.int 0)] (t_zret Post) := by
  refine SS.cons (so_iconst hX d_W_law_344 (by decide)) ?_
  exact st_zret hX d_W_law_345 rfl
theorem b_W_law_346 {l : Launch} {D : va_G} {cid : Nat → ClassId} {X : CT} {Post : PT} {b L : Nat} {xs : Nat → Int32} (hX : OK l D cid m_W_law X Post) (hsc : Scr X b L xs) : SS l D cid m_W_law X 346 [o_aload 1, o_aload 0, o_iload 3, o_push (.int 1), o_bin (fun x y => x + y), o_sld b L xs, o_callV l D cid m_G_view 3 1, o_aload 2, o_aload 0, o_iload 3, o_push (.int 1), o_bin (fun x y => x + y), o_sld b L xs, o_callV l D cid m_Q_view 4 1] (t_cmp (fun x y => x = y) (FR l D cid m_W_law X 619) (FR l D cid m_W_law X 367)) := by
  refine SS.cons (so_aload_n hX d_W_law_346 rfl) ?_
  refine SS.cons (so_aload_n hX d_W_law_347 rfl) ?_
  refine SS.cons (so_iload_n hX d_W_law_348 rfl) ?_
  refine SS.cons (so_iconst hX d_W_law_349 (by decide)) ?_
  refine SS.cons (so_iadd hX d_W_law_350) ?_
  refine SS.cons (so_sld hX d_W_law_351 hsc) ?_
  refine SS.cons (so_callV (M' := m_G_view) (T := T_G) hX d_W_law_352 rfl k_431 k_428 k_429 k_430 k_45 pf_G_view (by decide) (by decide +kernel) ⟨by decide, by decide⟩) ?_
  refine SS.cons (so_aload_n hX d_W_law_355 rfl) ?_
  refine SS.cons (so_aload_n hX d_W_law_356 rfl) ?_
  refine SS.cons (so_iload_n hX d_W_law_357 rfl) ?_
  refine SS.cons (so_iconst hX d_W_law_358 (by decide)) ?_
  refine SS.cons (so_iadd hX d_W_law_359) ?_
  refine SS.cons (so_sld hX d_W_law_360 hsc) ?_
  refine SS.cons (so_callV (M' := m_Q_view) (T := T_Q) hX d_W_law_361 rfl k_706 k_703 k_704 k_705 k_48 pf_Q_view (by decide) (by decide +kernel) ⟨by decide, by decide⟩) ?_
  exact st_icmp_eq hX d_W_law_364 (by decide)
theorem b_W_law_367 {l : Launch} {D : va_G} {cid : Nat → ClassId} {X : CT} {Post : PT} {b L : Nat} {xs : Nat → Int32} (hX : OK l D cid m_W_law X Post) (hsc : Scr X b L xs) : SS l D cid m_W_law X 367 [o_push (.int 0)] (t_zret Post) := by
  refine SS.cons (so_iconst hX d_W_law_367 (by decide)) ?_
  exact st_zret hX d_W_law_368 rfl
theorem b_W_law_369 {l : Launch} {D : va_G} {cid : Nat → ClassId} {X : CT} {Post : PT} {b L : Nat} {xs : Nat → Int32} (hX : OK l D cid m_W_law X Post) (hsc : Scr X b L xs) : SS l D cid m_W_law X 369 [o_aload 1, o_aload 0, o_iload 3, o_push (.int 1), o_bin (fun x y => x + y), o_sld b L xs, o_callV l D cid m_G_length 3 1, o_aload 2, o_aload 0, o_iload 3, o_push (.int 1), o_bin (fun x y => x + y), o_sld b L xs, o_callV l D cid m_Q_length 4 1] (t_cmp (fun x y => x = y) (FR l D cid m_W_law X 619) (FR l D cid m_W_law X 390)) := by
  refine SS.cons (so_aload_n hX d_W_law_369 rfl) ?_
  refine SS.cons (so_aload_n hX d_W_law_370 rfl) ?_
  refine SS.cons (so_iload_n hX d_W_law_371 rfl) ?_
  refine SS.cons (so_iconst hX d_W_law_372 (by decide)) ?_
  refine SS.cons (so_iadd hX d_W_law_373) ?_
  refine SS.cons (so_sld hX d_W_law_374 hsc) ?_
  refine SS.cons (so_callV (M' := m_G_length) (T := T_G) hX d_W_law_375 rfl k_435 k_432 k_433 k_434 k_45 pf_G_length (by decide) (by decide +kernel) ⟨by decide, by decide⟩) ?_
  refine SS.cons (so_aload_n hX d_W_law_378 rfl) ?_
  refine SS.cons (so_aload_n hX d_W_law_379 rfl) ?_
  refine SS.cons (so_iload_n hX d_W_law_380 rfl) ?_
  refine SS.cons (so_iconst hX d_W_law_381 (by decide)) ?_
  refine SS.cons (so_iadd hX d_W_law_382) ?_
  refine SS.cons (so_sld hX d_W_law_383 hsc) ?_
  refine SS.cons (so_callV (M' := m_Q_length) (T := T_Q) hX d_W_law_384 rfl k_710 k_707 k_708 k_709 k_48 pf_Q_length (by decide) (by decide +kernel) ⟨by decide, by decide⟩) ?_
  exact st_icmp_eq hX d_W_law_387 (by decide)
theorem b_W_law_390 {l : Launch} {D : va_G} {cid : Nat → ClassId} {X : CT} {Post : PT} {b L : Nat} {xs : Nat → Int32} (hX : OK l D cid m_W_law X Post) (hsc : Scr X b L xs) : SS l D cid m_W_law X 390 [o_push (.int 0)] (t_zret Post) := by
  refine SS.cons (so_iconst hX d_W_law_390 (by decide)) ?_
  exact st_zret hX d_W_law_391 rfl
theorem b_W_law_392 {l : Launch} {D : va_G} {cid : Nat → ClassId} {X : CT} {Post : PT} {b L : Nat} {xs : Nat → Int32} (hX : OK l D cid m_W_law X Post) (hsc : Scr X b L xs) : SS l D cid m_W_law X 392 [o_aload 1, o_aload 0, o_iload 3, o_push (.int 1), o_bin (fun x y => x + y), o_sld b L xs, o_callV l D cid m_G_commit 3 1, o_aload 2, o_aload 0, o_iload 3, o_push (.int 1), o_bin (fun x y => x + y), o_sld b L xs, o_callV l D cid m_Q_commit 4 1] (t_cmp (fun x y => x = y) (FR l D cid m_W_law X 619) (FR l D cid m_W_law X 413)) := by
  refine SS.cons (so_aload_n hX d_W_law_392 rfl) ?_
  refine SS.cons (so_aload_n hX d_W_law_393 rfl) ?_
  refine SS.cons (so_iload_n hX d_W_law_394 rfl) ?_
  refine SS.cons (so_iconst hX d_W_law_395 (by decide)) ?_
  refine SS.cons (so_iadd hX d_W_law_396) ?_
  refine SS.cons (so_sld hX d_W_law_397 hsc) ?_
  refine SS.cons (so_callV (M' := m_G_commit) (T := T_G) hX d_W_law_398 rfl k_439 k_436 k_437 k_438 k_45 pf_G_commit (by decide) (by decide +kernel) ⟨by decide, by decide⟩) ?_
  refine SS.cons (so_aload_n hX d_W_law_401 rfl) ?_
  refine SS.cons (so_aload_n hX d_W_law_402 rfl) ?_
  refine SS.cons (so_iload_n hX d_W_law_403 rfl) ?_
  refine SS.cons (so_iconst hX d_W_law_404 (by decide)) ?_
  refine SS.cons (so_iadd hX d_W_law_405) ?_
  refine SS.cons (so_sld hX d_W_law_406 hsc) ?_
  refine SS.cons (so_callV (M' := m_Q_commit) (T := T_Q) hX d_W_law_407 rfl k_714 k_711 k_712 k_713 k_48 pf_Q_commit (by decide) (by decide +kernel) ⟨by decide, by decide⟩) ?_
  exact st_icmp_eq hX d_W_law_410 (by decide)
theorem b_W_law_413 {l : Launch} {D : va_G} {cid : Nat → ClassId} {X : CT} {Post : PT} {b L : Nat} {xs : Nat → Int32} (hX : OK l D cid m_W_law X Post) (hsc : Scr X b L xs) : SS l D cid m_W_law X 413 [o_push (.int 0)] (t_zret Post) := by
  refine SS.cons (so_iconst hX d_W_law_413 (by decide)) ?_
  exact st_zret hX d_W_law_414 rfl
theorem b_W_law_415 {l : Launch} {D : va_G} {cid : Nat → ClassId} {X : CT} {Post : PT} {b L : Nat} {xs : Nat → Int32} (hX : OK l D cid m_W_law X Post) (hsc : Scr X b L xs) : SS l D cid m_W_law X 415 [o_aload 1, o_aload 0, o_iload 3, o_push (.int 1), o_bin (fun x y => x + y), o_sld b L xs, o_aload 0, o_iload 3, o_push (.int 2), o_bin (fun x y => x + y), o_sld b L xs, o_callV l D cid m_G_entry 3 2, o_aload 2, o_aload 0, o_iload 3, o_push (.int 1), o_bin (fun x y => x + y), o_sld b L xs, o_aload 0, o_iload 3, o_push (.int 2), o_bin (fun x y => x + y), o_sld b L xs, o_callV l D cid m_Q_entry 4 2] (t_cmp (fun x y => x = y) (FR l D cid m_W_law X 619) (FR l D cid m_W_law X 446)) := by
  refine SS.cons (so_aload_n hX d_W_law_415 rfl) ?_
  refine SS.cons (so_aload_n hX d_W_law_416 rfl) ?_
  refine SS.cons (so_iload_n hX d_W_law_417 rfl) ?_
  refine SS.cons (so_iconst hX d_W_law_418 (by decide)) ?_
  refine SS.cons (so_iadd hX d_W_law_419) ?_
  refine SS.cons (so_sld hX d_W_law_420 hsc) ?_
  refine SS.cons (so_aload_n hX d_W_law_421 rfl) ?_
  refine SS.cons (so_iload_n hX d_W_law_422 rfl) ?_
  refine SS.cons (so_iconst hX d_W_law_423 (by decide)) ?_
  refine SS.cons (so_iadd hX d_W_law_424) ?_
  refine SS.cons (so_sld hX d_W_law_425 hsc) ?_
  refine SS.cons (so_callV (M' := m_G_entry) (T := T_G) hX d_W_law_426 rfl k_443 k_440 k_441 k_442 k_45 pf_G_entry (by decide) (by decide +kernel) ⟨by decide, by decide⟩) ?_
  refine SS.cons (so_aload_n hX d_W_law_429 rfl) ?_
  refine SS.cons (so_aload_n hX d_W_law_430 rfl) ?_
  refine SS.cons (so_iload_n hX d_W_law_431 rfl) ?_
  refine SS.cons (so_iconst hX d_W_law_432 (by decide)) ?_
  refine SS.cons (so_iadd hX d_W_law_433) ?_
  refine SS.cons (so_sld hX d_W_law_434 hsc) ?_
  refine SS.cons (so_aload_n hX d_W_law_435 rfl) ?_
  refine SS.cons (so_iload_n hX d_W_law_436 rfl) ?_
  refine SS.cons (so_iconst hX d_W_law_437 (by decide)) ?_
  refine SS.cons (so_iadd hX d_W_law_438) ?_
  refine SS.cons (so_sld hX d_W_law_439 hsc) ?_
  refine SS.cons (so_callV (M' := m_Q_entry) (T := T_Q) hX d_W_law_440 rfl k_718 k_715 k_716 k_717 k_48 pf_Q_entry (by decide) (by decide +kernel) ⟨by decide, by decide⟩) ?_
  exact st_icmp_eq hX d_W_law_443 (by decide)
theorem b_W_law_446 {l : Launch} {D : va_G} {cid : Nat → ClassId} {X : CT} {Post : PT} {b L : Nat} {xs : Nat → Int32} (hX : OK l D cid m_W_law X Post) (hsc : Scr X b L xs) : SS l D cid m_W_law X 446 [o_push (.int 0)] (t_zret Post) := by
  refine SS.cons (so_iconst hX d_W_law_446 (by decide)) ?_
  exact st_zret hX d_W_law_447 rfl
theorem b_W_law_448 {l : Launch} {D : va_G} {cid : Nat → ClassId} {X : CT} {Post : PT} {b L : Nat} {xs : Nat → Int32} (hX : OK l D cid m_W_law X Post) (hsc : Scr X b L xs) : SS l D cid m_W_law X 448 [o_aload 1, o_aload 0, o_iload 3, o_push (.int 1), o_bin (fun x y => x + y), o_sld b L xs, o_aload 0, o_iload 3, o_push (.int 2), o_bin (fun x y => x + y), o_sld b L xs, o_callV l D cid m_G_origin 3 2, o_aload 2, o_aload 0, o_iload 3, o_push (.int 1), o_bin (fun x y => x + y), o_sld b L xs, o_aload 0, o_iload 3, o_push (.int 2), o_bin (fun x y => x + y), o_sld b L xs, o_callV l D cid m_Q_origin 4 2] (t_cmp (fun x y => x = y) (FR l D cid m_W_law X 619) (FR l D cid m_W_law X 479)) := by
  refine SS.cons (so_aload_n hX d_W_law_448 rfl) ?_
  refine SS.cons (so_aload_n hX d_W_law_449 rfl) ?_
  refine SS.cons (so_iload_n hX d_W_law_450 rfl) ?_
  refine SS.cons (so_iconst hX d_W_law_451 (by decide)) ?_
  refine SS.cons (so_iadd hX d_W_law_452) ?_
  refine SS.cons (so_sld hX d_W_law_453 hsc) ?_
  refine SS.cons (so_aload_n hX d_W_law_454 rfl) ?_
  refine SS.cons (so_iload_n hX d_W_law_455 rfl) ?_
  refine SS.cons (so_iconst hX d_W_law_456 (by decide)) ?_
  refine SS.cons (so_iadd hX d_W_law_457) ?_
  refine SS.cons (so_sld hX d_W_law_458 hsc) ?_
  refine SS.cons (so_callV (M' := m_G_origin) (T := T_G) hX d_W_law_459 rfl k_451 k_448 k_449 k_450 k_45 pf_G_origin (by decide) (by decide +kernel) ⟨by decide, by decide⟩) ?_
  refine SS.cons (so_aload_n hX d_W_law_462 rfl) ?_
  refine SS.cons (so_aload_n hX d_W_law_463 rfl) ?_
  refine SS.cons (so_iload_n hX d_W_law_464 rfl) ?_
  refine SS.cons (so_iconst hX d_W_law_465 (by decide)) ?_
  refine SS.cons (so_iadd hX d_W_law_466) ?_
  refine SS.cons (so_sld hX d_W_law_467 hsc) ?_
  refine SS.cons (so_aload_n hX d_W_law_468 rfl) ?_
  refine SS.cons (so_iload_n hX d_W_law_469 rfl) ?_
  refine SS.cons (so_iconst hX d_W_law_470 (by decide)) ?_
  refine SS.cons (so_iadd hX d_W_law_471) ?_
  refine SS.cons (so_sld hX d_W_law_472 hsc) ?_
  refine SS.cons (so_callV (M' := m_Q_origin) (T := T_Q) hX d_W_law_473 rfl k_722 k_719 k_720 k_721 k_48 pf_Q_origin (by decide) (by decide +kernel) ⟨by decide, by decide⟩) ?_
  exact st_icmp_eq hX d_W_law_476 (by decide)
theorem b_W_law_479 {l : Launch} {D : va_G} {cid : Nat → ClassId} {X : CT} {Post : PT} {b L : Nat} {xs : Nat → Int32} (hX : OK l D cid m_W_law X Post) (hsc : Scr X b L xs) : SS l D cid m_W_law X 479 [o_push (.int 0)] (t_zret Post) := by
  refine SS.cons (so_iconst hX d_W_law_479 (by decide)) ?_
  exact st_zret hX d_W_law_480 rfl
theorem b_W_law_481 {l : Launch} {D : va_G} {cid : Nat → ClassId} {X : CT} {Post : PT} {b L : Nat} {xs : Nat → Int32} (hX : OK l D cid m_W_law X Post) (hsc : Scr X b L xs) : SS l D cid m_W_law X 481 [o_aload 1, o_aload 0, o_iload 3, o_push (.int 1), o_bin (fun x y => x + y), o_sld b L xs, o_callV l D cid m_G_total 3 1, o_aload 2, o_aload 0, o_iload 3, o_push (.int 1), o_bin (fun x y => x + y), o_sld b L xs, o_callV l D cid m_Q_total 4 1] (t_cmp (fun x y => x = y) (FR l D cid m_W_law X 619) (FR l D cid m_W_law X 502)) := by
  refine SS.cons (so_aload_n hX d_W_law_481 rfl) ?_
  refine SS.cons (so_aload_n hX d_W_law_482 rfl) ?_
  refine SS.cons (so_iload_n hX d_W_law_483 rfl) ?_
  refine SS.cons (so_iconst hX d_W_law_484 (by decide)) ?_
  refine SS.cons (so_iadd hX d_W_law_485) ?_
  refine SS.cons (so_sld hX d_W_law_486 hsc) ?_
  refine SS.cons (so_callV (M' := m_G_total) (T := T_G) hX d_W_law_487 rfl k_455 k_452 k_453 k_454 k_45 pf_G_total (by decide) (by decide +kernel) ⟨by decide, by decide⟩) ?_
  refine SS.cons (so_aload_n hX d_W_law_490 rfl) ?_
  refine SS.cons (so_aload_n hX d_W_law_491 rfl) ?_
  refine SS.cons (so_iload_n hX d_W_law_492 rfl) ?_
  refine SS.cons (so_iconst hX d_W_law_493 (by decide)) ?_
  refine SS.cons (so_iadd hX d_W_law_494) ?_
  refine SS.cons (so_sld hX d_W_law_495 hsc) ?_
  refine SS.cons (so_callV (M' := m_Q_total) (T := T_Q) hX d_W_law_496 rfl k_726 k_723 k_724 k_725 k_48 pf_Q_total (by decide) (by decide +kernel) ⟨by decide, by decide⟩) ?_
  exact st_icmp_eq hX d_W_law_499 (by decide)
theorem b_W_law_502 {l : Launch} {D : va_G} {cid : Nat → ClassId} {X : CT} {Post : PT} {b L : Nat} {xs : Nat → Int32} (hX : OK l D cid m_W_law X Post) (hsc : Scr X b L xs) : SS l D cid m_W_law X 502 [o_push (.int 0)] (t_zret Post) := by
  refine SS.cons (so_iconst hX d_W_law_502 (by decide)) ?_
  exact st_zret hX d_W_law_503 rfl
theorem b_W_law_504 {l : Launch} {D : va_G} {cid : Nat → ClassId} {X : CT} {Post : PT} {b L : Nat} {xs : Nat → Int32} (hX : OK l D cid m_W_law X Post) (hsc : Scr X b L xs) : SS l D cid m_W_law X 504 [o_aload 1, o_aload 0, o_iload 3, o_push (.int 1), o_bin (fun x y => x + y), o_sld b L xs, o_aload 0, o_iload 3, o_push (.int 2), o_bin (fun x y => x + y), o_sld b L xs, o_callV l D cid m_G_vector 3 2, o_aload 2, o_aload 0, o_iload 3, o_push (.int 1), o_bin (fun x y => x + y), o_sld b L xs, o_aload 0, o_iload 3, o_push (.int 2), o_bin (fun x y => x + y), o_sld b L xs, o_callV l D cid m_Q_vector 4 2] (t_cmp (fun x y => x = y) (FR l D cid m_W_law X 619) (FR l D cid m_W_law X 535)) := by
  refine SS.cons (so_aload_n hX d_W_law_504 rfl) ?_
  refine SS.cons (so_aload_n hX d_W_law_505 rfl) ?_
  refine SS.cons (so_iload_n hX d_W_law_506 rfl) ?_
  refine SS.cons (so_iconst hX d_W_law_507 (by decide)) ?_
  refine SS.cons (so_iadd hX d_W_law_508) ?_
  refine SS.cons (so_sld hX d_W_law_509 hsc) ?_
  refine SS.cons (so_aload_n hX d_W_law_510 rfl) ?_
  refine SS.cons (so_iload_n hX d_W_law_511 rfl) ?_
  refine SS.cons (so_iconst hX d_W_law_512 (by decide)) ?_
  refine SS.cons (so_iadd hX d_W_law_513) ?_
  refine SS.cons (so_sld hX d_W_law_514 hsc) ?_
  refine SS.cons (so_callV (M' := m_G_vector) (T := T_G) hX d_W_law_515 rfl k_459 k_456 k_457 k_458 k_45 pf_G_vector (by decide) (by decide +kernel) ⟨by decide, by decide⟩) ?_
  refine SS.cons (so_aload_n hX d_W_law_518 rfl) ?_
  refine SS.cons (so_aload_n hX d_W_law_519 rfl) ?_
  refine SS.cons (so_iload_n hX d_W_law_520 rfl) ?_
  refine SS.cons (so_iconst hX d_W_law_521 (by decide)) ?_
  refine SS.cons (so_iadd hX d_W_law_522) ?_
  refine SS.cons (so_sld hX d_W_law_523 hsc) ?_
  refine SS.cons (so_aload_n hX d_W_law_524 rfl) ?_
  refine SS.cons (so_iload_n hX d_W_law_525 rfl) ?_
  refine SS.cons (so_iconst hX d_W_law_526 (by decide)) ?_
  refine SS.cons (so_iadd hX d_W_law_527) ?_
  refine SS.cons (so_sld hX d_W_law_528 hsc) ?_
  refine SS.cons (so_callV (M' := m_Q_vector) (T := T_Q) hX d_W_law_529 rfl k_730 k_727 k_728 k_729 k_48 pf_Q_vector (by decide) (by decide +kernel) ⟨by decide, by decide⟩) ?_
  exact st_icmp_eq hX d_W_law_532 (by decide)
theorem b_W_law_535 {l : Launch} {D : va_G} {cid : Nat → ClassId} {X : CT} {Post : PT} {b L : Nat} {xs : Nat → Int32} (hX : OK l D cid m_W_law X Post) (hsc : Scr X b L xs) : SS l D cid m_W_law X 535 [o_push (.int 0)] (t_zret Post) := by
  refine SS.cons (so_iconst hX d_W_law_535 (by decide)) ?_
  exact st_zret hX d_W_law_536 rfl
theorem b_W_law_537 {l : Launch} {D : va_G} {cid : Nat → ClassId} {X : CT} {Post : PT} {b L : Nat} {xs : Nat → Int32} (hX : OK l D cid m_W_law X Post) (hsc : Scr X b L xs) : SS l D cid m_W_law X 537 [o_aload 1, o_callV l D cid m_G_sent 3 0, o_aload 2, o_callV l D cid m_Q_sent 4 0] (t_cmp (fun x y => x = y) (FR l D cid m_W_law X 619) (FR l D cid m_W_law X 548)) := by
  refine SS.cons (so_aload_n hX d_W_law_537 rfl) ?_
  refine SS.cons (so_callV (M' := m_G_sent) (T := T_G) hX d_W_law_538 rfl k_463 k_460 k_461 k_462 k_45 pf_G_sent (by decide) (by decide +kernel) ⟨by decide, by decide⟩) ?_
  refine SS.cons (so_aload_n hX d_W_law_541 rfl) ?_
  refine SS.cons (so_callV (M' := m_Q_sent) (T := T_Q) hX d_W_law_542 rfl k_734 k_731 k_732 k_733 k_48 pf_Q_sent (by decide) (by decide +kernel) ⟨by decide, by decide⟩) ?_
  exact st_icmp_eq hX d_W_law_545 (by decide)
theorem b_W_law_548 {l : Launch} {D : va_G} {cid : Nat → ClassId} {X : CT} {Post : PT} {b L : Nat} {xs : Nat → Int32} (hX : OK l D cid m_W_law X Post) (hsc : Scr X b L xs) : SS l D cid m_W_law X 548 [o_push (.int 0)] (t_zret Post) := by
  refine SS.cons (so_iconst hX d_W_law_548 (by decide)) ?_
  exact st_zret hX d_W_law_549 rfl
theorem b_W_law_550 {l : Launch} {D : va_G} {cid : Nat → ClassId} {X : CT} {Post : PT} {b L : Nat} {xs : Nat → Int32} (hX : OK l D cid m_W_law X Post) (hsc : Scr X b L xs) : SS l D cid m_W_law X 550 [o_aload 1, o_aload 0, o_iload 3, o_push (.int 1), o_bin (fun x y => x + y), o_sld b L xs, o_callV l D cid m_G_message 3 1, o_aload 2, o_aload 0, o_iload 3, o_push (.int 1), o_bin (fun x y => x + y), o_sld b L xs, o_callV l D cid m_Q_message 4 1] (t_cmp (fun x y => x = y) (FR l D cid m_W_law X 619) (FR l D cid m_W_law X 571)) := by
  refine SS.cons (so_aload_n hX d_W_law_550 rfl) ?_
  refine SS.cons (so_aload_n hX d_W_law_551 rfl) ?_
  refine SS.cons (so_iload_n hX d_W_law_552 rfl) ?_
  refine SS.cons (so_iconst hX d_W_law_553 (by decide)) ?_
  refine SS.cons (so_iadd hX d_W_law_554) ?_
  refine SS.cons (so_sld hX d_W_law_555 hsc) ?_
  refine SS.cons (so_callV (M' := m_G_message) (T := T_G) hX d_W_law_556 rfl k_467 k_464 k_465 k_466 k_45 pf_G_message (by decide) (by decide +kernel) ⟨by decide, by decide⟩) ?_
  refine SS.cons (so_aload_n hX d_W_law_559 rfl) ?_
  refine SS.cons (so_aload_n hX d_W_law_560 rfl) ?_
  refine SS.cons (so_iload_n hX d_W_law_561 rfl) ?_
  refine SS.cons (so_iconst hX d_W_law_562 (by decide)) ?_
  refine SS.cons (so_iadd hX d_W_law_563) ?_
  refine SS.cons (so_sld hX d_W_law_564 hsc) ?_
  refine SS.cons (so_callV (M' := m_Q_message) (T := T_Q) hX d_W_law_565 rfl k_738 k_735 k_736 k_737 k_48 pf_Q_message (by decide) (by decide +kernel) ⟨by decide, by decide⟩) ?_
  exact st_icmp_eq hX d_W_law_568 (by decide)
theorem b_W_law_571 {l : Launch} {D : va_G} {cid : Nat → ClassId} {X : CT} {Post : PT} {b L : Nat} {xs : Nat → Int32} (hX : OK l D cid m_W_law X Post) (hsc : Scr X b L xs) : SS l D cid m_W_law X 571 [o_push (.int 0)] (t_zret Post) := by
  refine SS.cons (so_iconst hX d_W_law_571 (by decide)) ?_
  exact st_zret hX d_W_law_572 rfl
theorem b_W_law_573 {l : Launch} {D : va_G} {cid : Nat → ClassId} {X : CT} {Post : PT} {b L : Nat} {xs : Nat → Int32} (hX : OK l D cid m_W_law X Post) (hsc : Scr X b L xs) : SS l D cid m_W_law X 573 [o_aload 1, o_aload 0, o_iload 3, o_push (.int 1), o_bin (fun x y => x + y), o_sld b L xs, o_callV l D cid m_G_answered 3 1, o_aload 2, o_aload 0, o_iload 3, o_push (.int 1), o_bin (fun x y => x + y), o_sld b L xs, o_callV l D cid m_Q_answered 4 1] (t_cmp (fun x y => x = y) (FR l D cid m_W_law X 619) (FR l D cid m_W_law X 594)) := by
  refine SS.cons (so_aload_n hX d_W_law_573 rfl) ?_
  refine SS.cons (so_aload_n hX d_W_law_574 rfl) ?_
  refine SS.cons (so_iload_n hX d_W_law_575 rfl) ?_
  refine SS.cons (so_iconst hX d_W_law_576 (by decide)) ?_
  refine SS.cons (so_iadd hX d_W_law_577) ?_
  refine SS.cons (so_sld hX d_W_law_578 hsc) ?_
  refine SS.cons (so_callV (M' := m_G_answered) (T := T_G) hX d_W_law_579 rfl k_471 k_468 k_469 k_470 k_45 pf_G_answered (by decide) (by decide +kernel) ⟨by decide, by decide⟩) ?_
  refine SS.cons (so_aload_n hX d_W_law_582 rfl) ?_
  refine SS.cons (so_aload_n hX d_W_law_583 rfl) ?_
  refine SS.cons (so_iload_n hX d_W_law_584 rfl) ?_
  refine SS.cons (so_iconst hX d_W_law_585 (by decide)) ?_
  refine SS.cons (so_iadd hX d_W_law_586) ?_
  refine SS.cons (so_sld hX d_W_law_587 hsc) ?_
  refine SS.cons (so_callV (M' := m_Q_answered) (T := T_Q) hX d_W_law_588 rfl k_742 k_739 k_740 k_741 k_48 pf_Q_answered (by decide) (by decide +kernel) ⟨by decide, by decide⟩) ?_
  exact st_icmp_eq hX d_W_law_591 (by decide)
theorem b_W_law_594 {l : Launch} {D : va_G} {cid : Nat → ClassId} {X : CT} {Post : PT} {b L : Nat} {xs : Nat → Int32} (hX : OK l D cid m_W_law X Post) (hsc : Scr X b L xs) : SS l D cid m_W_law X 594 [o_push (.int 0)] (t_zret Post) := by
  refine SS.cons (so_iconst hX d_W_law_594 (by decide)) ?_
  exact st_zret hX d_W_law_595 rfl
theorem b_W_law_596 {l : Launch} {D : va_G} {cid : Nat → ClassId} {X : CT} {Post : PT} {b L : Nat} {xs : Nat → Int32} (hX : OK l D cid m_W_law X Post) (hsc : Scr X b L xs) : SS l D cid m_W_law X 596 [o_aload 1, o_aload 0, o_iload 3, o_push (.int 1), o_bin (fun x y => x + y), o_sld b L xs, o_callV l D cid m_G_answer 3 1, o_aload 2, o_aload 0, o_iload 3, o_push (.int 1), o_bin (fun x y => x + y), o_sld b L xs, o_callV l D cid m_Q_answer 4 1] (t_cmp (fun x y => x = y) (FR l D cid m_W_law X 619) (FR l D cid m_W_law X 617)) := by
  refine SS.cons (so_aload_n hX d_W_law_596 rfl) ?_
  refine SS.cons (so_aload_n hX d_W_law_597 rfl) ?_
  refine SS.cons (so_iload_n hX d_W_law_598 rfl) ?_
  refine SS.cons (so_iconst hX d_W_law_599 (by decide)) ?_
  refine SS.cons (so_iadd hX d_W_law_600) ?_
  refine SS.cons (so_sld hX d_W_law_601 hsc) ?_
  refine SS.cons (so_callV (M' := m_G_answer) (T := T_G) hX d_W_law_602 rfl k_475 k_472 k_473 k_474 k_45 pf_G_answer (by decide) (by decide +kernel) ⟨by decide, by decide⟩) ?_
  refine SS.cons (so_aload_n hX d_W_law_605 rfl) ?_
  refine SS.cons (so_aload_n hX d_W_law_606 rfl) ?_
  refine SS.cons (so_iload_n hX d_W_law_607 rfl) ?_
  refine SS.cons (so_iconst hX d_W_law_608 (by decide)) ?_
  refine SS.cons (so_iadd hX d_W_law_609) ?_
  refine SS.cons (so_sld hX d_W_law_610 hsc) ?_
  refine SS.cons (so_callV (M' := m_Q_answer) (T := T_Q) hX d_W_law_611 rfl k_746 k_743 k_744 k_745 k_48 pf_Q_answer (by decide) (by decide +kernel) ⟨by decide, by decide⟩) ?_
  exact st_icmp_eq hX d_W_law_614 (by decide)
theorem b_W_law_617 {l : Launch} {D : va_G} {cid : Nat → ClassId} {X : CT} {Post : PT} {b L : Nat} {xs : Nat → Int32} (hX : OK l D cid m_W_law X Post) (hsc : Scr X b L xs) : SS l D cid m_W_law X 617 [o_push (.int 0)] (t_zret Post) := by
  refine SS.cons (so_iconst hX d_W_law_617 (by decide)) ?_
  exact st_zret hX d_W_law_618 rfl
theorem b_W_law_619 {l : Launch} {D : va_G} {cid : Nat → ClassId} {X : CT} {Post : PT} {b L : Nat} {xs : Nat → Int32} (hX : OK l D cid m_W_law X Post) (hsc : Scr X b L xs) : SS l D cid m_W_law X 619 [o_iinc 3 5] (FR l D cid m_W_law X 28) := by
  refine SS.cons (so_iinc hX d_W_law_619 (by decide) (by decide)) ?_
  exact so_goto hX d_W_law_622 (by decide)
theorem b_W_law_625 {l : Launch} {D : va_G} {cid : Nat → ClassId} {X : CT} {Post : PT} {b L : Nat} {xs : Nat → Int32} (hX : OK l D cid m_W_law X Post) (hsc : Scr X b L xs) : SS l D cid m_W_law X 625 [o_push (.int 1)] (t_zret Post) := by
  refine SS.cons (so_iconst hX d_W_law_625 (by decide)) ?_
  exact st_zret hX d_W_law_626 rfl
