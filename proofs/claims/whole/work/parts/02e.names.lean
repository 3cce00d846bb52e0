theorem dX3_does_121 : decode cX3_does 121 = .ok (.iload_n 2, 1) := by decide +kernel
theorem dX3_does_122 : decode cX3_does 122 = .ok (.iconst 0, 1) := by decide +kernel
theorem dX3_does_123 : decode cX3_does 123 = .ok (.iadd, 1) := by decide +kernel
theorem dX3_does_124 : decode cX3_does 124 = .ok (.iload_n 1, 1) := by decide +kernel
theorem dX3_does_125 : decode cX3_does 125 = .ok (.lload 4, 2) := by decide +kernel
theorem dX3_does_127 : decode cX3_does 127 = .ok (.invokestatic 95, 3) := by decide +kernel
theorem dX3_does_130 : decode cX3_does 130 = .ok (.lastore, 1) := by decide +kernel
theorem dX3_does_131 : decode cX3_does 131 = .ok (.goto 274, 3) := by decide +kernel
theorem dX3_does_134 : decode cX3_does 134 = .ok (.aload_n 0, 1) := by decide +kernel
theorem dX3_does_135 : decode cX3_does 135 = .ok (.getfield 13, 3) := by decide +kernel
theorem dX3_does_138 : decode cX3_does 138 = .ok (.iload_n 2, 1) := by decide +kernel
theorem dX3_does_139 : decode cX3_does 139 = .ok (.iconst 0, 1) := by decide +kernel
theorem dX3_does_140 : decode cX3_does 140 = .ok (.iadd, 1) := by decide +kernel
theorem dX3_does_141 : decode cX3_does 141 = .ok (.iload_n 1, 1) := by decide +kernel
theorem dX3_does_142 : decode cX3_does 142 = .ok (.lload 4, 2) := by decide +kernel
theorem dX3_does_144 : decode cX3_does 144 = .ok (.iconst 0, 1) := by decide +kernel
theorem dX3_does_145 : decode cX3_does 145 = .ok (.invokestatic 98, 3) := by decide +kernel
theorem dX3_does_148 : decode cX3_does 148 = .ok (.lastore, 1) := by decide +kernel
theorem dX3_does_149 : decode cX3_does 149 = .ok (.goto 256, 3) := by decide +kernel
theorem dX3_does_152 : decode cX3_does 152 = .ok (.aload_n 0, 1) := by decide +kernel
theorem dX3_does_153 : decode cX3_does 153 = .ok (.getfield 13, 3) := by decide +kernel
theorem dX3_does_156 : decode cX3_does 156 = .ok (.iload_n 2, 1) := by decide +kernel
theorem dX3_does_157 : decode cX3_does 157 = .ok (.iconst 0, 1) := by decide +kernel
theorem dX3_does_158 : decode cX3_does 158 = .ok (.iadd, 1) := by decide +kernel
theorem dX3_does_159 : decode cX3_does 159 = .ok (.iload_n 1, 1) := by decide +kernel
theorem dX3_does_160 : decode cX3_does 160 = .ok (.lload 4, 2) := by decide +kernel
theorem dX3_does_162 : decode cX3_does 162 = .ok (.iconst 1, 1) := by decide +kernel
theorem dX3_does_163 : decode cX3_does 163 = .ok (.invokestatic 98, 3) := by decide +kernel
theorem dX3_does_166 : decode cX3_does 166 = .ok (.lastore, 1) := by decide +kernel
theorem dX3_does_167 : decode cX3_does 167 = .ok (.goto 238, 3) := by decide +kernel
theorem dX3_does_170 : decode cX3_does 170 = .ok (.aload_n 0, 1) := by decide +kernel
theorem dX3_does_171 : decode cX3_does 171 = .ok (.getfield 13, 3) := by decide +kernel
theorem dX3_does_174 : decode cX3_does 174 = .ok (.iload_n 2, 1) := by decide +kernel
theorem dX3_does_175 : decode cX3_does 175 = .ok (.iconst 0, 1) := by decide +kernel
theorem dX3_does_176 : decode cX3_does 176 = .ok (.iadd, 1) := by decide +kernel
theorem dX3_does_177 : decode cX3_does 177 = .ok (.iload_n 1, 1) := by decide +kernel
theorem dX3_does_178 : decode cX3_does 178 = .ok (.lload 4, 2) := by decide +kernel
theorem dX3_does_180 : decode cX3_does 180 = .ok (.iconst 2, 1) := by decide +kernel
theorem dX3_does_181 : decode cX3_does 181 = .ok (.invokestatic 98, 3) := by decide +kernel
theorem dX3_does_184 : decode cX3_does 184 = .ok (.lastore, 1) := by decide +kernel
theorem dX3_does_185 : decode cX3_does 185 = .ok (.goto 220, 3) := by decide +kernel
theorem dX3_does_188 : decode cX3_does 188 = .ok (.aload_n 0, 1) := by decide +kernel
theorem dX3_does_189 : decode cX3_does 189 = .ok (.getfield 13, 3) := by decide +kernel
theorem dX3_does_192 : decode cX3_does 192 = .ok (.iload_n 2, 1) := by decide +kernel
theorem dX3_does_193 : decode cX3_does 193 = .ok (.iconst 4, 1) := by decide +kernel
theorem dX3_does_194 : decode cX3_does 194 = .ok (.iadd, 1) := by decide +kernel
theorem dX3_does_195 : decode cX3_does 195 = .ok (.iload_n 1, 1) := by decide +kernel
theorem dX3_does_196 : decode cX3_does 196 = .ok (.lload 4, 2) := by decide +kernel
theorem dX3_does_198 : decode cX3_does 198 = .ok (.invokestatic 102, 3) := by decide +kernel
theorem dX3_does_201 : decode cX3_does 201 = .ok (.lastore, 1) := by decide +kernel
theorem dX3_does_202 : decode cX3_does 202 = .ok (.goto 203, 3) := by decide +kernel
theorem dX3_does_205 : decode cX3_does 205 = .ok (.aload_n 0, 1) := by decide +kernel
theorem dX3_does_206 : decode cX3_does 206 = .ok (.getfield 13, 3) := by decide +kernel
theorem dX3_does_209 : decode cX3_does 209 = .ok (.iload_n 2, 1) := by decide +kernel
theorem dX3_does_210 : decode cX3_does 210 = .ok (.iconst 0, 1) := by decide +kernel
theorem dX3_does_211 : decode cX3_does 211 = .ok (.iadd, 1) := by decide +kernel
theorem dX3_does_212 : decode cX3_does 212 = .ok (.iload_n 1, 1) := by decide +kernel
theorem dX3_does_213 : decode cX3_does 213 = .ok (.lload 4, 2) := by decide +kernel
theorem dX3_does_215 : decode cX3_does 215 = .ok (.aload_n 0, 1) := by decide +kernel
theorem dX3_does_216 : decode cX3_does 216 = .ok (.getfield 13, 3) := by decide +kernel
theorem dX3_does_219 : decode cX3_does 219 = .ok (.iload_n 2, 1) := by decide +kernel
theorem dX3_does_220 : decode cX3_does 220 = .ok (.iconst 4, 1) := by decide +kernel
theorem dX3_does_221 : decode cX3_does 221 = .ok (.iadd, 1) := by decide +kernel
theorem dX3_does_222 : decode cX3_does 222 = .ok (.laload, 1) := by decide +kernel
theorem dX3_does_223 : decode cX3_does 223 = .ok (.invokestatic 105, 3) := by decide +kernel
theorem dX3_does_226 : decode cX3_does 226 = .ok (.lastore, 1) := by decide +kernel
theorem dX3_does_227 : decode cX3_does 227 = .ok (.goto 178, 3) := by decide +kernel
theorem dX3_does_230 : decode cX3_does 230 = .ok (.aload_n 0, 1) := by decide +kernel
theorem dX3_does_231 : decode cX3_does 231 = .ok (.getfield 13, 3) := by decide +kernel
theorem dX3_does_234 : decode cX3_does 234 = .ok (.iload_n 2, 1) := by decide +kernel
theorem dX3_does_235 : decode cX3_does 235 = .ok (.iconst 2, 1) := by decide +kernel
theorem dX3_does_236 : decode cX3_does 236 = .ok (.iadd, 1) := by decide +kernel
theorem dX3_does_237 : decode cX3_does 237 = .ok (.iload_n 1, 1) := by decide +kernel
theorem dX3_does_238 : decode cX3_does 238 = .ok (.lload 8, 2) := by decide +kernel
theorem dX3_does_240 : decode cX3_does 240 = .ok (.lload 4, 2) := by decide +kernel
theorem dX3_does_242 : decode cX3_does 242 = .ok (.invokestatic 92, 3) := by decide +kernel
theorem dX3_does_245 : decode cX3_does 245 = .ok (.lastore, 1) := by decide +kernel
theorem dX3_does_246 : decode cX3_does 246 = .ok (.aload_n 0, 1) := by decide +kernel
theorem dX3_does_247 : decode cX3_does 247 = .ok (.getfield 13, 3) := by decide +kernel
theorem dX3_does_250 : decode cX3_does 250 = .ok (.iload_n 2, 1) := by decide +kernel
theorem dX3_does_251 : decode cX3_does 251 = .ok (.iconst 1, 1) := by decide +kernel
theorem dX3_does_252 : decode cX3_does 252 = .ok (.iadd, 1) := by decide +kernel
theorem dX3_does_253 : decode cX3_does 253 = .ok (.iload_n 1, 1) := by decide +kernel
theorem dX3_does_254 : decode cX3_does 254 = .ok (.lload 6, 2) := by decide +kernel
theorem dX3_does_256 : decode cX3_does 256 = .ok (.lload 4, 2) := by decide +kernel
theorem dX3_does_258 : decode cX3_does 258 = .ok (.invokestatic 88, 3) := by decide +kernel
theorem dX3_does_261 : decode cX3_does 261 = .ok (.lastore, 1) := by decide +kernel
theorem dX3_does_262 : decode cX3_does 262 = .ok (.goto 143, 3) := by decide +kernel
theorem dX3_does_265 : decode cX3_does 265 = .ok (.iload_n 1, 1) := by decide +kernel
theorem dX3_does_266 : decode cX3_does 266 = .ok (.lload 4, 2) := by decide +kernel
theorem dX3_does_268 : decode cX3_does 268 = .ok (.invokestatic 95, 3) := by decide +kernel
theorem dX3_does_271 : decode cX3_does 271 = .ok (.iload_n 1, 1) := by decide +kernel
theorem dX3_does_272 : decode cX3_does 272 = .ok (.aload_n 0, 1) := by decide +kernel
theorem dX3_does_273 : decode cX3_does 273 = .ok (.getfield 13, 3) := by decide +kernel
theorem dX3_does_276 : decode cX3_does 276 = .ok (.iload_n 2, 1) := by decide +kernel
theorem dX3_does_277 : decode cX3_does 277 = .ok (.iconst 3, 1) := by decide +kernel
theorem dX3_does_278 : decode cX3_does 278 = .ok (.iadd, 1) := by decide +kernel
theorem dX3_does_279 : decode cX3_does 279 = .ok (.laload, 1) := by decide +kernel
theorem dX3_does_280 : decode cX3_does 280 = .ok (.invokestatic 95, 3) := by decide +kernel
theorem dX3_does_283 : decode cX3_does 283 = .ok (.lcmp, 1) := by decide +kernel
theorem dX3_does_284 : decode cX3_does 284 = .ok (.ifCond .gt 121, 3) := by decide +kernel
theorem dX3_does_287 : decode cX3_does 287 = .ok (.aload_n 0, 1) := by decide +kernel
theorem dX3_does_288 : decode cX3_does 288 = .ok (.getfield 13, 3) := by decide +kernel
theorem dX3_does_291 : decode cX3_does 291 = .ok (.iload_n 2, 1) := by decide +kernel
theorem dX3_does_292 : decode cX3_does 292 = .ok (.iconst 0, 1) := by decide +kernel
theorem dX3_does_293 : decode cX3_does 293 = .ok (.iadd, 1) := by decide +kernel
theorem dX3_does_294 : decode cX3_does 294 = .ok (.iload_n 1, 1) := by decide +kernel
theorem dX3_does_295 : decode cX3_does 295 = .ok (.invokestatic 37, 3) := by decide +kernel
theorem dX3_does_298 : decode cX3_does 298 = .ok (.ifCond .eq 23, 3) := by decide +kernel
theorem dX3_does_301 : decode cX3_does 301 = .ok (.iload_n 1, 1) := by decide +kernel
theorem dX3_does_302 : decode cX3_does 302 = .ok (.lconst 0, 1) := by decide +kernel
theorem dX3_does_303 : decode cX3_does 303 = .ok (.lload 4, 2) := by decide +kernel
theorem dX3_does_305 : decode cX3_does 305 = .ok (.lconst 0, 1) := by decide +kernel
theorem dX3_does_306 : decode cX3_does 306 = .ok (.lcmp, 1) := by decide +kernel
theorem dX3_does_307 : decode cX3_does 307 = .ok (.ifCond .ge 7, 3) := by decide +kernel
theorem dX3_does_310 : decode cX3_does 310 = .ok (.iconst 1, 1) := by decide +kernel
theorem dX3_does_311 : decode cX3_does 311 = .ok (.goto 4, 3) := by decide +kernel
theorem dX3_does_314 : decode cX3_does 314 = .ok (.iconst 0, 1) := by decide +kernel
theorem dX3_does_315 : decode cX3_does 315 = .ok (.invokestatic 62, 3) := by decide +kernel
theorem dX3_does_318 : decode cX3_does 318 = .ok (.goto 4, 3) := by decide +kernel
theorem dX3_does_321 : decode cX3_does 321 = .ok (.lconst 0, 1) := by decide +kernel
theorem dX3_does_322 : decode cX3_does 322 = .ok (.lastore, 1) := by decide +kernel
theorem dX3_does_323 : decode cX3_does 323 = .ok (.goto 82, 3) := by decide +kernel
theorem dX3_does_326 : decode cX3_does 326 = .ok (.aload_n 0, 1) := by decide +kernel
theorem dX3_does_327 : decode cX3_does 327 = .ok (.getfield 13, 3) := by decide +kernel
theorem dX3_does_330 : decode cX3_does 330 = .ok (.iload_n 2, 1) := by decide +kernel
theorem dX3_does_331 : decode cX3_does 331 = .ok (.iconst 1, 1) := by decide +kernel
theorem dX3_does_332 : decode cX3_does 332 = .ok (.iadd, 1) := by decide +kernel
theorem dX3_does_333 : decode cX3_does 333 = .ok (.iload_n 1, 1) := by decide +kernel
theorem dX3_does_334 : decode cX3_does 334 = .ok (.lload 4, 2) := by decide +kernel
theorem dX3_does_336 : decode cX3_does 336 = .ok (.iconst 0, 1) := by decide +kernel
theorem dX3_does_337 : decode cX3_does 337 = .ok (.invokestatic 98, 3) := by decide +kernel
theorem dX3_does_340 : decode cX3_does 340 = .ok (.lastore, 1) := by decide +kernel
theorem dX3_does_341 : decode cX3_does 341 = .ok (.aload_n 0, 1) := by decide +kernel
theorem dX3_does_342 : decode cX3_does 342 = .ok (.getfield 13, 3) := by decide +kernel
theorem dX3_does_345 : decode cX3_does 345 = .ok (.iload_n 2, 1) := by decide +kernel
theorem dX3_does_346 : decode cX3_does 346 = .ok (.iconst 2, 1) := by decide +kernel
theorem dX3_does_347 : decode cX3_does 347 = .ok (.iadd, 1) := by decide +kernel
theorem dX3_does_348 : decode cX3_does 348 = .ok (.iload_n 1, 1) := by decide +kernel
theorem dX3_does_349 : decode cX3_does 349 = .ok (.lload 4, 2) := by decide +kernel
theorem dX3_does_351 : decode cX3_does 351 = .ok (.iconst 1, 1) := by decide +kernel
theorem dX3_does_352 : decode cX3_does 352 = .ok (.invokestatic 98, 3) := by decide +kernel
theorem dX3_does_355 : decode cX3_does 355 = .ok (.lastore, 1) := by decide +kernel
theorem dX3_does_356 : decode cX3_does 356 = .ok (.goto 49, 3) := by decide +kernel
theorem dX3_does_359 : decode cX3_does 359 = .ok (.aload_n 0, 1) := by decide +kernel
theorem dX3_does_360 : decode cX3_does 360 = .ok (.getfield 13, 3) := by decide +kernel
theorem dX3_does_363 : decode cX3_does 363 = .ok (.iload_n 2, 1) := by decide +kernel
theorem dX3_does_364 : decode cX3_does 364 = .ok (.iconst 1, 1) := by decide +kernel
theorem dX3_does_365 : decode cX3_does 365 = .ok (.iadd, 1) := by decide +kernel
theorem dX3_does_366 : decode cX3_does 366 = .ok (.lload 8, 2) := by decide +kernel
theorem dX3_does_368 : decode cX3_does 368 = .ok (.lastore, 1) := by decide +kernel
theorem dX3_does_369 : decode cX3_does 369 = .ok (.aload_n 0, 1) := by decide +kernel
theorem dX3_does_370 : decode cX3_does 370 = .ok (.getfield 13, 3) := by decide +kernel
theorem dX3_does_373 : decode cX3_does 373 = .ok (.iload_n 2, 1) := by decide +kernel
theorem dX3_does_374 : decode cX3_does 374 = .ok (.iconst 2, 1) := by decide +kernel
theorem dX3_does_375 : decode cX3_does 375 = .ok (.iadd, 1) := by decide +kernel
theorem dX3_does_376 : decode cX3_does 376 = .ok (.lload 6, 2) := by decide +kernel
theorem dX3_does_378 : decode cX3_does 378 = .ok (.lastore, 1) := by decide +kernel
theorem dX3_does_379 : decode cX3_does 379 = .ok (.goto 26, 3) := by decide +kernel
theorem dX3_does_382 : decode cX3_does 382 = .ok (.aload_n 0, 1) := by decide +kernel
theorem dX3_does_383 : decode cX3_does 383 = .ok (.getfield 13, 3) := by decide +kernel
theorem dX3_does_386 : decode cX3_does 386 = .ok (.iload_n 2, 1) := by decide +kernel
theorem dX3_does_387 : decode cX3_does 387 = .ok (.iconst 0, 1) := by decide +kernel
theorem dX3_does_388 : decode cX3_does 388 = .ok (.iadd, 1) := by decide +kernel
theorem dX3_does_389 : decode cX3_does 389 = .ok (.lload 6, 2) := by decide +kernel
theorem dX3_does_391 : decode cX3_does 391 = .ok (.lastore, 1) := by decide +kernel
theorem dX3_does_392 : decode cX3_does 392 = .ok (.goto 13, 3) := by decide +kernel
theorem dX3_does_395 : decode cX3_does 395 = .ok (.aload_n 0, 1) := by decide +kernel
theorem dX3_does_396 : decode cX3_does 396 = .ok (.getfield 13, 3) := by decide +kernel
theorem dX3_does_399 : decode cX3_does 399 = .ok (.iload_n 2, 1) := by decide +kernel
theorem dX3_does_400 : decode cX3_does 400 = .ok (.iconst 0, 1) := by decide +kernel
theorem dX3_does_401 : decode cX3_does 401 = .ok (.iadd, 1) := by decide +kernel
theorem dX3_does_402 : decode cX3_does 402 = .ok (.lload 8, 2) := by decide +kernel
theorem dX3_does_404 : decode cX3_does 404 = .ok (.lastore, 1) := by decide +kernel
theorem dX3_does_405 : decode cX3_does 405 = .ok (.return_, 1) := by decide +kernel
set_option maxRecDepth 20000 in
theorem ggX3_wayOf_X3_isFloating : GoodIn wsX3_wayOf wsX3_isFloating := goodIn_r _ [5] (by decide +kernel) (by decide +kernel)
set_option maxRecDepth 20000 in
theorem gX3_wayOf_X3_isFloating : GoodIn wsX3_wayOf (va_wsS RX3 37 yX3_isFloating wsX3_isFloating) := goodIn_app (goodIn_of _ (by decide +kernel)) ggX3_wayOf_X3_isFloating
set_option maxRecDepth 20000 in
theorem ggX3_wayOf_X3_size : GoodIn wsX3_wayOf wsX3_size := goodIn_r _ [8, 9, 10] (by decide +kernel) (by decide +kernel)
set_option maxRecDepth 20000 in
theorem gX3_wayOf_X3_size : GoodIn wsX3_wayOf (va_wsS RX3 43 yX3_size wsX3_size) := goodIn_app (goodIn_of _ (by decide +kernel)) ggX3_wayOf_X3_size
set_option maxRecDepth 20000 in
theorem ggX3_wayOf_X3_one : GoodIn wsX3_wayOf wsX3_one := goodIn_r _ [13, 14, 15] (by decide +kernel) (by decide +kernel)
set_option maxRecDepth 20000 in
theorem gX3_wayOf_X3_one : GoodIn wsX3_wayOf (va_wsS RX3 58 yX3_one wsX3_one) := goodIn_app (goodIn_of _ (by decide +kernel)) ggX3_wayOf_X3_one
set_option maxRecDepth 20000 in
theorem ggX3_wayOf_X3_signed : GoodIn wsX3_wayOf wsX3_signed := goodIn_r _ [18, 19, 20] (by decide +kernel) (by decide +kernel)
set_option maxRecDepth 20000 in
theorem gX3_wayOf_X3_signed : GoodIn wsX3_wayOf (va_wsS RX3 62 yX3_signed wsX3_signed) := goodIn_app (goodIn_of _ (by decide +kernel)) ggX3_wayOf_X3_signed
theorem dX3_wayOf_0 : decode cX3_wayOf 0 = .ok (.iload_n 0, 1) := by decide +kernel
theorem dX3_wayOf_1 : decode cX3_wayOf 1 = .ok (.invokestatic 37, 3) := by decide +kernel
theorem dX3_wayOf_4 : decode cX3_wayOf 4 = .ok (.ifCond .ne 27, 3) := by decide +kernel
theorem dX3_wayOf_7 : decode cX3_wayOf 7 = .ok (.lload_n 1, 1) := by decide +kernel
theorem dX3_wayOf_8 : decode cX3_wayOf 8 = .ok (.lconst 0, 1) := by decide +kernel
theorem dX3_wayOf_9 : decode cX3_wayOf 9 = .ok (.lcmp, 1) := by decide +kernel
theorem dX3_wayOf_10 : decode cX3_wayOf 10 = .ok (.ifCond .le 7, 3) := by decide +kernel
theorem dX3_wayOf_13 : decode cX3_wayOf 13 = .ok (.lconst 1, 1) := by decide +kernel
theorem dX3_wayOf_14 : decode cX3_wayOf 14 = .ok (.goto 16, 3) := by decide +kernel
theorem dX3_wayOf_17 : decode cX3_wayOf 17 = .ok (.lload_n 1, 1) := by decide +kernel
theorem dX3_wayOf_18 : decode cX3_wayOf 18 = .ok (.lconst 0, 1) := by decide +kernel
theorem dX3_wayOf_19 : decode cX3_wayOf 19 = .ok (.lcmp, 1) := by decide +kernel
theorem dX3_wayOf_20 : decode cX3_wayOf 20 = .ok (.ifCond .ge 9, 3) := by decide +kernel
theorem dX3_wayOf_23 : decode cX3_wayOf 23 = .ok (.ldc2_w 41, 3) := by decide +kernel
theorem dX3_wayOf_26 : decode cX3_wayOf 26 = .ok (.goto 4, 3) := by decide +kernel
theorem dX3_wayOf_29 : decode cX3_wayOf 29 = .ok (.lconst 0, 1) := by decide +kernel
theorem dX3_wayOf_30 : decode cX3_wayOf 30 = .ok (.lreturn, 1) := by decide +kernel
theorem dX3_wayOf_31 : decode cX3_wayOf 31 = .ok (.iload_n 0, 1) := by decide +kernel
theorem dX3_wayOf_32 : decode cX3_wayOf 32 = .ok (.lload_n 1, 1) := by decide +kernel
theorem dX3_wayOf_33 : decode cX3_wayOf 33 = .ok (.invokestatic 43, 3) := by decide +kernel
theorem dX3_wayOf_36 : decode cX3_wayOf 36 = .ok (.lconst 0, 1) := by decide +kernel
theorem dX3_wayOf_37 : decode cX3_wayOf 37 = .ok (.lcmp, 1) := by decide +kernel
theorem dX3_wayOf_38 : decode cX3_wayOf 38 = .ok (.ifCond .ne 7, 3) := by decide +kernel
theorem dX3_wayOf_41 : decode cX3_wayOf 41 = .ok (.lload_n 1, 1) := by decide +kernel
theorem dX3_wayOf_42 : decode cX3_wayOf 42 = .ok (.goto 22, 3) := by decide +kernel
theorem dX3_wayOf_45 : decode cX3_wayOf 45 = .ok (.iload_n 0, 1) := by decide +kernel
theorem dX3_wayOf_46 : decode cX3_wayOf 46 = .ok (.iload_n 0, 1) := by decide +kernel
theorem dX3_wayOf_47 : decode cX3_wayOf 47 = .ok (.invokestatic 58, 3) := by decide +kernel
theorem dX3_wayOf_50 : decode cX3_wayOf 50 = .ok (.lload_n 1, 1) := by decide +kernel
theorem dX3_wayOf_51 : decode cX3_wayOf 51 = .ok (.lconst 0, 1) := by decide +kernel
theorem dX3_wayOf_52 : decode cX3_wayOf 52 = .ok (.lcmp, 1) := by decide +kernel
theorem dX3_wayOf_53 : decode cX3_wayOf 53 = .ok (.ifCond .ge 7, 3) := by decide +kernel
theorem dX3_wayOf_56 : decode cX3_wayOf 56 = .ok (.iconst 1, 1) := by decide +kernel
theorem dX3_wayOf_57 : decode cX3_wayOf 57 = .ok (.goto 4, 3) := by decide +kernel
theorem dX3_wayOf_60 : decode cX3_wayOf 60 = .ok (.iconst 0, 1) := by decide +kernel
theorem dX3_wayOf_61 : decode cX3_wayOf 61 = .ok (.invokestatic 62, 3) := by decide +kernel
theorem dX3_wayOf_64 : decode cX3_wayOf 64 = .ok (.lreturn, 1) := by decide +kernel
set_option maxRecDepth 20000 in
theorem ggX3_turned_X3_isFloating : GoodIn wsX3_turned wsX3_isFloating := goodIn_r _ [4] (by decide +kernel) (by decide +kernel)
set_option maxRecDepth 20000 in
theorem gX3_turned_X3_isFloating : GoodIn wsX3_turned (va_wsS RX3 37 yX3_isFloating wsX3_isFloating) := goodIn_app (goodIn_of _ (by decide +kernel)) ggX3_turned_X3_isFloating
set_option maxRecDepth 20000 in
theorem ggX3_turned_X3_size : GoodIn wsX3_turned wsX3_size := goodIn_r _ [7, 8, 9] (by decide +kernel) (by decide +kernel)
set_option maxRecDepth 20000 in
theorem gX3_turned_X3_size : GoodIn wsX3_turned (va_wsS RX3 43 yX3_size wsX3_size) := goodIn_app (goodIn_of _ (by decide +kernel)) ggX3_turned_X3_size
set_option maxRecDepth 20000 in
theorem ggX3_turned_X3_signed : GoodIn wsX3_turned wsX3_signed := goodIn_r _ [12, 13, 14] (by decide +kernel) (by decide +kernel)
set_option maxRecDepth 20000 in
theorem gX3_turned_X3_signed : GoodIn wsX3_turned (va_wsS RX3 62 yX3_signed wsX3_signed) := goodIn_app (goodIn_of _ (by decide +kernel)) ggX3_turned_X3_signed
set_option maxRecDepth 20000 in
theorem ggX3_turned_X3_sized : GoodIn wsX3_turned wsX3_sized := goodIn_r _ [17, 1, 2, 3, 4, 5, 6, 7, 8, 9] (by decide +kernel) (by decide +kernel)
set_option maxRecDepth 20000 in
theorem gX3_turned_X3_sized : GoodIn wsX3_turned (va_wsS RX3 95 yX3_sized wsX3_sized) := goodIn_app (goodIn_of _ (by decide +kernel)) ggX3_turned_X3_sized
theorem dX3_turned_0 : decode cX3_turned 0 = .ok (.iload_n 0, 1) := by decide +kernel
theorem dX3_turned_1 : decode cX3_turned 1 = .ok (.invokestatic 37, 3) := by decide +kernel
theorem dX3_turned_4 : decode cX3_turned 4 = .ok (.ifCond .eq 24, 3) := by decide +kernel
theorem dX3_turned_7 : decode cX3_turned 7 = .ok (.iload_n 0, 1) := by decide +kernel
theorem dX3_turned_8 : decode cX3_turned 8 = .ok (.iload_n 0, 1) := by decide +kernel
theorem dX3_turned_9 : decode cX3_turned 9 = .ok (.lload_n 1, 1) := by decide +kernel
theorem dX3_turned_10 : decode cX3_turned 10 = .ok (.invokestatic 43, 3) := by decide +kernel
theorem dX3_turned_13 : decode cX3_turned 13 = .ok (.lload_n 3, 1) := by decide +kernel
theorem dX3_turned_14 : decode cX3_turned 14 = .ok (.lconst 0, 1) := by decide +kernel
theorem dX3_turned_15 : decode cX3_turned 15 = .ok (.lcmp, 1) := by decide +kernel
theorem dX3_turned_16 : decode cX3_turned 16 = .ok (.ifCond .ge 7, 3) := by decide +kernel
theorem dX3_turned_19 : decode cX3_turned 19 = .ok (.iconst 1, 1) := by decide +kernel
theorem dX3_turned_20 : decode cX3_turned 20 = .ok (.goto 4, 3) := by decide +kernel
theorem dX3_turned_23 : decode cX3_turned 23 = .ok (.iconst 0, 1) := by decide +kernel
theorem dX3_turned_24 : decode cX3_turned 24 = .ok (.invokestatic 62, 3) := by decide +kernel
theorem dX3_turned_27 : decode cX3_turned 27 = .ok (.lreturn, 1) := by decide +kernel
theorem dX3_turned_28 : decode cX3_turned 28 = .ok (.iload_n 0, 1) := by decide +kernel
theorem dX3_turned_29 : decode cX3_turned 29 = .ok (.lload_n 1, 1) := by decide +kernel
theorem dX3_turned_30 : decode cX3_turned 30 = .ok (.invokestatic 95, 3) := by decide +kernel
theorem dX3_turned_33 : decode cX3_turned 33 = .ok (.lstore 5, 2) := by decide +kernel
theorem dX3_turned_35 : decode cX3_turned 35 = .ok (.lload_n 3, 1) := by decide +kernel
theorem dX3_turned_36 : decode cX3_turned 36 = .ok (.lconst 0, 1) := by decide +kernel
theorem dX3_turned_37 : decode cX3_turned 37 = .ok (.lcmp, 1) := by decide +kernel
theorem dX3_turned_38 : decode cX3_turned 38 = .ok (.ifCond .lt 8, 3) := by decide +kernel
theorem dX3_turned_41 : decode cX3_turned 41 = .ok (.lload 5, 2) := by decide +kernel
theorem dX3_turned_43 : decode cX3_turned 43 = .ok (.goto 18, 3) := by decide +kernel
theorem dX3_turned_46 : decode cX3_turned 46 = .ok (.iload_n 0, 1) := by decide +kernel
theorem dX3_turned_47 : decode cX3_turned 47 = .ok (.ifCond .ne 11, 3) := by decide +kernel
theorem dX3_turned_50 : decode cX3_turned 50 = .ok (.lload 5, 2) := by decide +kernel
theorem dX3_turned_52 : decode cX3_turned 52 = .ok (.lneg, 1) := by decide +kernel
theorem dX3_turned_53 : decode cX3_turned 53 = .ok (.l2i, 1) := by decide +kernel
theorem dX3_turned_54 : decode cX3_turned 54 = .ok (.i2l, 1) := by decide +kernel
theorem dX3_turned_55 : decode cX3_turned 55 = .ok (.goto 6, 3) := by decide +kernel
theorem dX3_turned_58 : decode cX3_turned 58 = .ok (.lload 5, 2) := by decide +kernel
theorem dX3_turned_60 : decode cX3_turned 60 = .ok (.lneg, 1) := by decide +kernel
theorem dX3_turned_61 : decode cX3_turned 61 = .ok (.lreturn, 1) := by decide +kernel
set_option maxRecDepth 20000 in
theorem ggX3_follow_X3_isAxis : GoodIn wsX3_follow wsX3_isAxis := goodIn_r _ [7, 8, 40, 41, 42] (by decide +kernel) (by decide +kernel)
set_option maxRecDepth 20000 in
theorem gX3_follow_X3_isAxis : GoodIn wsX3_follow (wsV RX3 81 RX3 yX3_isAxis wsX3_isAxis) := goodIn_app (goodIn_of _ (by decide +kernel)) ggX3_follow_X3_isAxis
set_option maxRecDepth 20000 in
theorem ggX3_follow_X3_turnedInto : GoodIn wsX3_follow wsX3_turnedInto := goodIn_r _ [11, 12, 13, 6, 14, 15, 16, 17, 18, 19, 20, 21, 22, 23, 24, 25, 26, 27, 28, 29, 30, 31, 32, 33, 34, 35, 36, 37, 38, 39] (by decide +kernel) (by decide +kernel)
set_option maxRecDepth 20000 in
theorem gX3_follow_X3_turnedInto : GoodIn wsX3_follow (va_wsS RX3 108 yX3_turnedInto wsX3_turnedInto) := goodIn_app (goodIn_of _ (by decide +kernel)) ggX3_follow_X3_turnedInto
theorem dX3_follow_0 : decode cX3_follow 0 = .ok (.aload_n 0, 1) := by decide +kernel
theorem dX3_follow_1 : decode cX3_follow 1 = .ok (.iload_n 1, 1) := by decide +kernel
theorem dX3_follow_2 : decode cX3_follow 2 = .ok (.invokevirtual 81, 3) := by decide +kernel
theorem dX3_follow_5 : decode cX3_follow 5 = .ok (.ifCond .eq 11, 3) := by decide +kernel
theorem dX3_follow_8 : decode cX3_follow 8 = .ok (.aload_n 0, 1) := by decide +kernel
theorem dX3_follow_9 : decode cX3_follow 9 = .ok (.iload_n 2, 1) := by decide +kernel
theorem dX3_follow_10 : decode cX3_follow 10 = .ok (.invokevirtual 81, 3) := by decide +kernel
theorem dX3_follow_13 : decode cX3_follow 13 = .ok (.ifCond .ne 5, 3) := by decide +kernel
theorem dX3_follow_16 : decode cX3_follow 16 = .ok (.iconst 0, 1) := by decide +kernel
theorem dX3_follow_17 : decode cX3_follow 17 = .ok (.ireturn, 1) := by decide +kernel
theorem dX3_follow_18 : decode cX3_follow 18 = .ok (.aload_n 0, 1) := by decide +kernel
theorem dX3_follow_19 : decode cX3_follow 19 = .ok (.getfield 13, 3) := by decide +kernel
theorem dX3_follow_22 : decode cX3_follow 22 = .ok (.iconst 5, 1) := by decide +kernel
theorem dX3_follow_23 : decode cX3_follow 23 = .ok (.iload_n 1, 1) := by decide +kernel
theorem dX3_follow_24 : decode cX3_follow 24 = .ok (.imul, 1) := by decide +kernel
theorem dX3_follow_25 : decode cX3_follow 25 = .ok (.iconst 0, 1) := by decide +kernel
theorem dX3_follow_26 : decode cX3_follow 26 = .ok (.iadd, 1) := by decide +kernel
theorem dX3_follow_27 : decode cX3_follow 27 = .ok (.aload_n 0, 1) := by decide +kernel
theorem dX3_follow_28 : decode cX3_follow 28 = .ok (.getfield 7, 3) := by decide +kernel
theorem dX3_follow_31 : decode cX3_follow 31 = .ok (.iload_n 1, 1) := by decide +kernel
theorem dX3_follow_32 : decode cX3_follow 32 = .ok (.iaload, 1) := by decide +kernel
theorem dX3_follow_33 : decode cX3_follow 33 = .ok (.aload_n 0, 1) := by decide +kernel
theorem dX3_follow_34 : decode cX3_follow 34 = .ok (.getfield 7, 3) := by decide +kernel
theorem dX3_follow_37 : decode cX3_follow 37 = .ok (.iload_n 2, 1) := by decide +kernel
theorem dX3_follow_38 : decode cX3_follow 38 = .ok (.iaload, 1) := by decide +kernel
theorem dX3_follow_39 : decode cX3_follow 39 = .ok (.aload_n 0, 1) := by decide +kernel
theorem dX3_follow_40 : decode cX3_follow 40 = .ok (.getfield 13, 3) := by decide +kernel
theorem dX3_follow_43 : decode cX3_follow 43 = .ok (.iconst 5, 1) := by decide +kernel
theorem dX3_follow_44 : decode cX3_follow 44 = .ok (.iload_n 2, 1) := by decide +kernel
theorem dX3_follow_45 : decode cX3_follow 45 = .ok (.imul, 1) := by decide +kernel
theorem dX3_follow_46 : decode cX3_follow 46 = .ok (.iconst 0, 1) := by decide +kernel
theorem dX3_follow_47 : decode cX3_follow 47 = .ok (.iadd, 1) := by decide +kernel
theorem dX3_follow_48 : decode cX3_follow 48 = .ok (.laload, 1) := by decide +kernel
theorem dX3_follow_49 : decode cX3_follow 49 = .ok (.invokestatic 108, 3) := by decide +kernel
theorem dX3_follow_52 : decode cX3_follow 52 = .ok (.lastore, 1) := by decide +kernel
theorem dX3_follow_53 : decode cX3_follow 53 = .ok (.iconst 1, 1) := by decide +kernel
theorem dX3_follow_54 : decode cX3_follow 54 = .ok (.ireturn, 1) := by decide +kernel
set_option maxRecDepth 20000 in
theorem ggX3_order_X3_isAxis : GoodIn wsX3_order wsX3_isAxis := goodIn_r _ [7, 8, 21, 22, 23] (by decide +kernel) (by decide +kernel)
set_option maxRecDepth 20000 in
theorem gX3_order_X3_isAxis : GoodIn wsX3_order (wsV RX3 81 RX3 yX3_isAxis wsX3_isAxis) := goodIn_app (goodIn_of _ (by decide +kernel)) ggX3_order_X3_isAxis
set_option maxRecDepth 20000 in
theorem ggX3_order_X3_rank : GoodIn wsX3_order wsX3_rank := goodIn_r _ [11, 12, 13, 14, 6, 15, 16, 17, 18, 19, 20] (by decide +kernel) (by decide +kernel)
set_option maxRecDepth 20000 in
theorem gX3_order_X3_rank : GoodIn wsX3_order (va_wsS RX3 47 yX3_rank wsX3_rank) := goodIn_app (goodIn_of _ (by decide +kernel)) ggX3_order_X3_rank
theorem dX3_order_0 : decode cX3_order 0 = .ok (.aload_n 0, 1) := by decide +kernel
theorem dX3_order_1 : decode cX3_order 1 = .ok (.iload_n 1, 1) := by decide +kernel
theorem dX3_order_2 : decode cX3_order 2 = .ok (.invokevirtual 81, 3) := by decide +kernel
theorem dX3_order_5 : decode cX3_order 5 = .ok (.ifCond .eq 26, 3) := by decide +kernel
theorem dX3_order_8 : decode cX3_order 8 = .ok (.aload_n 0, 1) := by decide +kernel
theorem dX3_order_9 : decode cX3_order 9 = .ok (.iload_n 2, 1) := by decide +kernel
theorem dX3_order_10 : decode cX3_order 10 = .ok (.invokevirtual 81, 3) := by decide +kernel
theorem dX3_order_13 : decode cX3_order 13 = .ok (.ifCond .eq 18, 3) := by decide +kernel
theorem dX3_order_16 : decode cX3_order 16 = .ok (.aload_n 0, 1) := by decide +kernel
theorem dX3_order_17 : decode cX3_order 17 = .ok (.getfield 7, 3) := by decide +kernel
theorem dX3_order_20 : decode cX3_order 20 = .ok (.iload_n 1, 1) := by decide +kernel
theorem dX3_order_21 : decode cX3_order 21 = .ok (.iaload, 1) := by decide +kernel
theorem dX3_order_22 : decode cX3_order 22 = .ok (.aload_n 0, 1) := by decide +kernel
theorem dX3_order_23 : decode cX3_order 23 = .ok (.getfield 7, 3) := by decide +kernel
theorem dX3_order_26 : decode cX3_order 26 = .ok (.iload_n 2, 1) := by decide +kernel
theorem dX3_order_27 : decode cX3_order 27 = .ok (.iaload, 1) := by decide +kernel
theorem dX3_order_28 : decode cX3_order 28 = .ok (.if_icmp .eq 6, 3) := by decide +kernel
theorem dX3_order_31 : decode cX3_order 31 = .ok (.bipush (-2), 2) := by decide +kernel
theorem dX3_order_33 : decode cX3_order 33 = .ok (.ireturn, 1) := by decide +kernel
theorem dX3_order_34 : decode cX3_order 34 = .ok (.aload_n 0, 1) := by decide +kernel
theorem dX3_order_35 : decode cX3_order 35 = .ok (.getfield 7, 3) := by decide +kernel
theorem dX3_order_38 : decode cX3_order 38 = .ok (.iload_n 1, 1) := by decide +kernel
theorem dX3_order_39 : decode cX3_order 39 = .ok (.iaload, 1) := by decide +kernel
theorem dX3_order_40 : decode cX3_order 40 = .ok (.aload_n 0, 1) := by decide +kernel
theorem dX3_order_41 : decode cX3_order 41 = .ok (.getfield 13, 3) := by decide +kernel
theorem dX3_order_44 : decode cX3_order 44 = .ok (.iconst 5, 1) := by decide +kernel
theorem dX3_order_45 : decode cX3_order 45 = .ok (.iload_n 1, 1) := by decide +kernel
theorem dX3_order_46 : decode cX3_order 46 = .ok (.imul, 1) := by decide +kernel
theorem dX3_order_47 : decode cX3_order 47 = .ok (.iconst 0, 1) := by decide +kernel
theorem dX3_order_48 : decode cX3_order 48 = .ok (.iadd, 1) := by decide +kernel
theorem dX3_order_49 : decode cX3_order 49 = .ok (.laload, 1) := by decide +kernel
theorem dX3_order_50 : decode cX3_order 50 = .ok (.invokestatic 47, 3) := by decide +kernel
theorem dX3_order_53 : decode cX3_order 53 = .ok (.lstore_n 3, 1) := by decide +kernel
theorem dX3_order_54 : decode cX3_order 54 = .ok (.aload_n 0, 1) := by decide +kernel
theorem dX3_order_55 : decode cX3_order 55 = .ok (.getfield 7, 3) := by decide +kernel
theorem dX3_order_58 : decode cX3_order 58 = .ok (.iload_n 2, 1) := by decide +kernel
theorem dX3_order_59 : decode cX3_order 59 = .ok (.iaload, 1) := by decide +kernel
theorem dX3_order_60 : decode cX3_order 60 = .ok (.aload_n 0, 1) := by decide +kernel
theorem dX3_order_61 : decode cX3_order 61 = .ok (.getfield 13, 3) := by decide +kernel
theorem dX3_order_64 : decode cX3_order 64 = .ok (.iconst 5, 1) := by decide +kernel
theorem dX3_order_65 : decode cX3_order 65 = .ok (.iload_n 2, 1) := by decide +kernel
theorem dX3_order_66 : decode cX3_order 66 = .ok (.imul, 1) := by decide +kernel
theorem dX3_order_67 : decode cX3_order 67 = .ok (.iconst 0, 1) := by decide +kernel
theorem dX3_order_68 : decode cX3_order 68 = .ok (.iadd, 1) := by decide +kernel
theorem dX3_order_69 : decode cX3_order 69 = .ok (.laload, 1) := by decide +kernel
theorem dX3_order_70 : decode cX3_order 70 = .ok (.invokestatic 47, 3) := by decide +kernel
theorem dX3_order_73 : decode cX3_order 73 = .ok (.lstore 5, 2) := by decide +kernel
theorem dX3_order_75 : decode cX3_order 75 = .ok (.lload_n 3, 1) := by decide +kernel
theorem dX3_order_76 : decode cX3_order 76 = .ok (.lload 5, 2) := by decide +kernel
theorem dX3_order_78 : decode cX3_order 78 = .ok (.lcmp, 1) := by decide +kernel
theorem dX3_order_79 : decode cX3_order 79 = .ok (.ifCond .ge 7, 3) := by decide +kernel
theorem dX3_order_82 : decode cX3_order 82 = .ok (.iconst (-1), 1) := by decide +kernel
theorem dX3_order_83 : decode cX3_order 83 = .ok (.goto 15, 3) := by decide +kernel
theorem dX3_order_86 : decode cX3_order 86 = .ok (.lload_n 3, 1) := by decide +kernel
theorem dX3_order_87 : decode cX3_order 87 = .ok (.lload 5, 2) := by decide +kernel
theorem dX3_order_89 : decode cX3_order 89 = .ok (.lcmp, 1) := by decide +kernel
theorem dX3_order_90 : decode cX3_order 90 = .ok (.ifCond .le 7, 3) := by decide +kernel
theorem dX3_order_93 : decode cX3_order 93 = .ok (.iconst 1, 1) := by decide +kernel
theorem dX3_order_94 : decode cX3_order 94 = .ok (.goto 4, 3) := by decide +kernel
theorem dX3_order_97 : decode cX3_order 97 = .ok (.iconst 0, 1) := by decide +kernel
theorem dX3_order_98 : decode cX3_order 98 = .ok (.ireturn, 1) := by decide +kernel
theorem dJ6_numberOfLeadingZeros_0f7a4_0 : decode cJ6_numberOfLeadingZeros_0f7a4 0 = .ok (.iload_n 0, 1) := by decide +kernel
theorem dJ6_numberOfLeadingZeros_0f7a4_1 : decode cJ6_numberOfLeadingZeros_0f7a4 1 = .ok (.ifCond .gt 14, 3) := by decide +kernel
theorem dJ6_numberOfLeadingZeros_0f7a4_4 : decode cJ6_numberOfLeadingZeros_0f7a4 4 = .ok (.iload_n 0, 1) := by decide +kernel
theorem dJ6_numberOfLeadingZeros_0f7a4_5 : decode cJ6_numberOfLeadingZeros_0f7a4 5 = .ok (.ifCond .ne 8, 3) := by decide +kernel
theorem dJ6_numberOfLeadingZeros_0f7a4_8 : decode cJ6_numberOfLeadingZeros_0f7a4 8 = .ok (.bipush 32, 2) := by decide +kernel
theorem dJ6_numberOfLeadingZeros_0f7a4_10 : decode cJ6_numberOfLeadingZeros_0f7a4 10 = .ok (.goto 4, 3) := by decide +kernel
theorem dJ6_numberOfLeadingZeros_0f7a4_13 : decode cJ6_numberOfLeadingZeros_0f7a4 13 = .ok (.iconst 0, 1) := by decide +kernel
theorem dJ6_numberOfLeadingZeros_0f7a4_14 : decode cJ6_numberOfLeadingZeros_0f7a4 14 = .ok (.ireturn, 1) := by decide +kernel
theorem dJ6_numberOfLeadingZeros_0f7a4_15 : decode cJ6_numberOfLeadingZeros_0f7a4 15 = .ok (.bipush 31, 2) := by decide +kernel
theorem dJ6_numberOfLeadingZeros_0f7a4_17 : decode cJ6_numberOfLeadingZeros_0f7a4 17 = .ok (.istore_n 1, 1) := by decide +kernel
theorem dJ6_numberOfLeadingZeros_0f7a4_18 : decode cJ6_numberOfLeadingZeros_0f7a4 18 = .ok (.iload_n 0, 1) := by decide +kernel
theorem dJ6_numberOfLeadingZeros_0f7a4_19 : decode cJ6_numberOfLeadingZeros_0f7a4 19 = .ok (.ldc_w 264, 3) := by decide +kernel
theorem dJ6_numberOfLeadingZeros_0f7a4_22 : decode cJ6_numberOfLeadingZeros_0f7a4 22 = .ok (.if_icmp .lt 11, 3) := by decide +kernel
theorem dJ6_numberOfLeadingZeros_0f7a4_25 : decode cJ6_numberOfLeadingZeros_0f7a4 25 = .ok (.iinc 1 (-16), 3) := by decide +kernel
theorem dJ6_numberOfLeadingZeros_0f7a4_28 : decode cJ6_numberOfLeadingZeros_0f7a4 28 = .ok (.iload_n 0, 1) := by decide +kernel
theorem dJ6_numberOfLeadingZeros_0f7a4_29 : decode cJ6_numberOfLeadingZeros_0f7a4 29 = .ok (.bipush 16, 2) := by decide +kernel
theorem dJ6_numberOfLeadingZeros_0f7a4_31 : decode cJ6_numberOfLeadingZeros_0f7a4 31 = .ok (.iushr, 1) := by decide +kernel
theorem dJ6_numberOfLeadingZeros_0f7a4_32 : decode cJ6_numberOfLeadingZeros_0f7a4 32 = .ok (.istore_n 0, 1) := by decide +kernel
theorem dJ6_numberOfLeadingZeros_0f7a4_33 : decode cJ6_numberOfLeadingZeros_0f7a4 33 = .ok (.iload_n 0, 1) := by decide +kernel
theorem dJ6_numberOfLeadingZeros_0f7a4_34 : decode cJ6_numberOfLeadingZeros_0f7a4 34 = .ok (.sipush 256, 3) := by decide +kernel
theorem dJ6_numberOfLeadingZeros_0f7a4_37 : decode cJ6_numberOfLeadingZeros_0f7a4 37 = .ok (.if_icmp .lt 11, 3) := by decide +kernel
theorem dJ6_numberOfLeadingZeros_0f7a4_40 : decode cJ6_numberOfLeadingZeros_0f7a4 40 = .ok (.iinc 1 (-8), 3) := by decide +kernel
theorem dJ6_numberOfLeadingZeros_0f7a4_43 : decode cJ6_numberOfLeadingZeros_0f7a4 43 = .ok (.iload_n 0, 1) := by decide +kernel
theorem dJ6_numberOfLeadingZeros_0f7a4_44 : decode cJ6_numberOfLeadingZeros_0f7a4 44 = .ok (.bipush 8, 2) := by decide +kernel
theorem dJ6_numberOfLeadingZeros_0f7a4_46 : decode cJ6_numberOfLeadingZeros_0f7a4 46 = .ok (.iushr, 1) := by decide +kernel
theorem dJ6_numberOfLeadingZeros_0f7a4_47 : decode cJ6_numberOfLeadingZeros_0f7a4 47 = .ok (.istore_n 0, 1) := by decide +kernel
theorem dJ6_numberOfLeadingZeros_0f7a4_48 : decode cJ6_numberOfLeadingZeros_0f7a4 48 = .ok (.iload_n 0, 1) := by decide +kernel
theorem dJ6_numberOfLeadingZeros_0f7a4_49 : decode cJ6_numberOfLeadingZeros_0f7a4 49 = .ok (.bipush 16, 2) := by decide +kernel
theorem dJ6_numberOfLeadingZeros_0f7a4_51 : decode cJ6_numberOfLeadingZeros_0f7a4 51 = .ok (.if_icmp .lt 10, 3) := by decide +kernel
theorem dJ6_numberOfLeadingZeros_0f7a4_54 : decode cJ6_numberOfLeadingZeros_0f7a4 54 = .ok (.iinc 1 (-4), 3) := by decide +kernel
theorem dJ6_numberOfLeadingZeros_0f7a4_57 : decode cJ6_numberOfLeadingZeros_0f7a4 57 = .ok (.iload_n 0, 1) := by decide +kernel
theorem dJ6_numberOfLeadingZeros_0f7a4_58 : decode cJ6_numberOfLeadingZeros_0f7a4 58 = .ok (.iconst 4, 1) := by decide +kernel
theorem dJ6_numberOfLeadingZeros_0f7a4_59 : decode cJ6_numberOfLeadingZeros_0f7a4 59 = .ok (.iushr, 1) := by decide +kernel
theorem dJ6_numberOfLeadingZeros_0f7a4_60 : decode cJ6_numberOfLeadingZeros_0f7a4 60 = .ok (.istore_n 0, 1) := by decide +kernel
theorem dJ6_numberOfLeadingZeros_0f7a4_61 : decode cJ6_numberOfLeadingZeros_0f7a4 61 = .ok (.iload_n 0, 1) := by decide +kernel
theorem dJ6_numberOfLeadingZeros_0f7a4_62 : decode cJ6_numberOfLeadingZeros_0f7a4 62 = .ok (.iconst 4, 1) := by decide +kernel
theorem dJ6_numberOfLeadingZeros_0f7a4_63 : decode cJ6_numberOfLeadingZeros_0f7a4 63 = .ok (.if_icmp .lt 10, 3) := by decide +kernel
theorem dJ6_numberOfLeadingZeros_0f7a4_66 : decode cJ6_numberOfLeadingZeros_0f7a4 66 = .ok (.iinc 1 (-2), 3) := by decide +kernel
theorem dJ6_numberOfLeadingZeros_0f7a4_69 : decode cJ6_numberOfLeadingZeros_0f7a4 69 = .ok (.iload_n 0, 1) := by decide +kernel
theorem dJ6_numberOfLeadingZeros_0f7a4_70 : decode cJ6_numberOfLeadingZeros_0f7a4 70 = .ok (.iconst 2, 1) := by decide +kernel
theorem dJ6_numberOfLeadingZeros_0f7a4_71 : decode cJ6_numberOfLeadingZeros_0f7a4 71 = .ok (.iushr, 1) := by decide +kernel
theorem dJ6_numberOfLeadingZeros_0f7a4_72 : decode cJ6_numberOfLeadingZeros_0f7a4 72 = .ok (.istore_n 0, 1) := by decide +kernel
theorem dJ6_numberOfLeadingZeros_0f7a4_73 : decode cJ6_numberOfLeadingZeros_0f7a4 73 = .ok (.iload_n 1, 1) := by decide +kernel
theorem dJ6_numberOfLeadingZeros_0f7a4_74 : decode cJ6_numberOfLeadingZeros_0f7a4 74 = .ok (.iload_n 0, 1) := by decide +kernel
theorem dJ6_numberOfLeadingZeros_0f7a4_75 : decode cJ6_numberOfLeadingZeros_0f7a4 75 = .ok (.iconst 1, 1) := by decide +kernel
theorem dJ6_numberOfLeadingZeros_0f7a4_76 : decode cJ6_numberOfLeadingZeros_0f7a4 76 = .ok (.iushr, 1) := by decide +kernel
theorem dJ6_numberOfLeadingZeros_0f7a4_77 : decode cJ6_numberOfLeadingZeros_0f7a4 77 = .ok (.isub, 1) := by decide +kernel
theorem dJ6_numberOfLeadingZeros_0f7a4_78 : decode cJ6_numberOfLeadingZeros_0f7a4 78 = .ok (.ireturn, 1) := by decide +kernel
theorem dJ13_compare_74951_0 : decode cJ13_compare_74951 0 = .ok (.lload_n 0, 1) := by decide +kernel
theorem dJ13_compare_74951_1 : decode cJ13_compare_74951 1 = .ok (.lload_n 2, 1) := by decide +kernel
theorem dJ13_compare_74951_2 : decode cJ13_compare_74951 2 = .ok (.lcmp, 1) := by decide +kernel
theorem dJ13_compare_74951_3 : decode cJ13_compare_74951 3 = .ok (.ifCond .ge 7, 3) := by decide +kernel
theorem dJ13_compare_74951_6 : decode cJ13_compare_74951 6 = .ok (.iconst (-1), 1) := by decide +kernel
theorem dJ13_compare_74951_7 : decode cJ13_compare_74951 7 = .ok (.goto 14, 3) := by decide +kernel
theorem dJ13_compare_74951_10 : decode cJ13_compare_74951 10 = .ok (.lload_n 0, 1) := by decide +kernel
theorem dJ13_compare_74951_11 : decode cJ13_compare_74951 11 = .ok (.lload_n 2, 1) := by decide +kernel
theorem dJ13_compare_74951_12 : decode cJ13_compare_74951 12 = .ok (.lcmp, 1) := by decide +kernel
theorem dJ13_compare_74951_13 : decode cJ13_compare_74951 13 = .ok (.ifCond .ne 7, 3) := by decide +kernel
theorem dJ13_compare_74951_16 : decode cJ13_compare_74951 16 = .ok (.iconst 0, 1) := by decide +kernel
theorem dJ13_compare_74951_17 : decode cJ13_compare_74951 17 = .ok (.goto 4, 3) := by decide +kernel
theorem dJ13_compare_74951_20 : decode cJ13_compare_74951 20 = .ok (.iconst 1, 1) := by decide +kernel
theorem dJ13_compare_74951_21 : decode cJ13_compare_74951 21 = .ok (.ireturn, 1) := by decide +kernel
set_option maxRecDepth 20000 in
theorem ggJ13_numberOfLeadingZeros_95d88_J6_numberOfLeadingZeros_0f7a4 : GoodIn wsJ13_numberOfLeadingZeros_95d88 wsJ6_numberOfLeadingZeros_0f7a4 := goodIn_r _ [4, 5] (by decide +kernel) (by decide +kernel)
set_option maxRecDepth 20000 in
theorem gJ13_numberOfLeadingZeros_95d88_J6_numberOfLeadingZeros_0f7a4 : GoodIn wsJ13_numberOfLeadingZeros_95d88 (va_wsS RJ13 308 yJ6_numberOfLeadingZeros_0f7a4 wsJ6_numberOfLeadingZeros_0f7a4) := goodIn_app (goodIn_of _ (by decide +kernel)) ggJ13_numberOfLeadingZeros_95d88_J6_numberOfLeadingZeros_0f7a4
theorem dJ13_numberOfLeadingZeros_95d88_0 : decode cJ13_numberOfLeadingZeros_95d88 0 = .ok (.lload_n 0, 1) := by decide +kernel
theorem dJ13_numberOfLeadingZeros_95d88_1 : decode cJ13_numberOfLeadingZeros_95d88 1 = .ok (.bipush 32, 2) := by decide +kernel
theorem dJ13_numberOfLeadingZeros_95d88_3 : decode cJ13_numberOfLeadingZeros_95d88 3 = .ok (.lushr, 1) := by decide +kernel
theorem dJ13_numberOfLeadingZeros_95d88_4 : decode cJ13_numberOfLeadingZeros_95d88 4 = .ok (.l2i, 1) := by decide +kernel
theorem dJ13_numberOfLeadingZeros_95d88_5 : decode cJ13_numberOfLeadingZeros_95d88 5 = .ok (.istore_n 2, 1) := by decide +kernel
theorem dJ13_numberOfLeadingZeros_95d88_6 : decode cJ13_numberOfLeadingZeros_95d88 6 = .ok (.iload_n 2, 1) := by decide +kernel
theorem dJ13_numberOfLeadingZeros_95d88_7 : decode cJ13_numberOfLeadingZeros_95d88 7 = .ok (.ifCond .ne 14, 3) := by decide +kernel
theorem dJ13_numberOfLeadingZeros_95d88_10 : decode cJ13_numberOfLeadingZeros_95d88 10 = .ok (.bipush 32, 2) := by decide +kernel
theorem dJ13_numberOfLeadingZeros_95d88_12 : decode cJ13_numberOfLeadingZeros_95d88 12 = .ok (.lload_n 0, 1) := by decide +kernel
theorem dJ13_numberOfLeadingZeros_95d88_13 : decode cJ13_numberOfLeadingZeros_95d88 13 = .ok (.l2i, 1) := by decide +kernel
theorem dJ13_numberOfLeadingZeros_95d88_14 : decode cJ13_numberOfLeadingZeros_95d88 14 = .ok (.invokestatic 308, 3) := by decide +kernel
theorem dJ13_numberOfLeadingZeros_95d88_17 : decode cJ13_numberOfLeadingZeros_95d88 17 = .ok (.iadd, 1) := by decide +kernel
theorem dJ13_numberOfLeadingZeros_95d88_18 : decode cJ13_numberOfLeadingZeros_95d88 18 = .ok (.goto 7, 3) := by decide +kernel
theorem dJ13_numberOfLeadingZeros_95d88_21 : decode cJ13_numberOfLeadingZeros_95d88 21 = .ok (.iload_n 2, 1) := by decide +kernel
theorem dJ13_numberOfLeadingZeros_95d88_22 : decode cJ13_numberOfLeadingZeros_95d88 22 = .ok (.invokestatic 308, 3) := by decide +kernel
theorem dJ13_numberOfLeadingZeros_95d88_25 : decode cJ13_numberOfLeadingZeros_95d88 25 = .ok (.ireturn, 1) := by decide +kernel
theorem dJ9_abs_067f4_0 : decode cJ9_abs_067f4 0 = .ok (.lload_n 0, 1) := by decide +kernel
theorem dJ9_abs_067f4_1 : decode cJ9_abs_067f4 1 = .ok (.lconst 0, 1) := by decide +kernel
theorem dJ9_abs_067f4_2 : decode cJ9_abs_067f4 2 = .ok (.lcmp, 1) := by decide +kernel
theorem dJ9_abs_067f4_3 : decode cJ9_abs_067f4 3 = .ok (.ifCond .ge 8, 3) := by decide +kernel
theorem dJ9_abs_067f4_6 : decode cJ9_abs_067f4 6 = .ok (.lload_n 0, 1) := by decide +kernel
theorem dJ9_abs_067f4_7 : decode cJ9_abs_067f4 7 = .ok (.lneg, 1) := by decide +kernel
theorem dJ9_abs_067f4_8 : decode cJ9_abs_067f4 8 = .ok (.goto 4, 3) := by decide +kernel
theorem dJ9_abs_067f4_11 : decode cJ9_abs_067f4 11 = .ok (.lload_n 0, 1) := by decide +kernel
theorem dJ9_abs_067f4_12 : decode cJ9_abs_067f4 12 = .ok (.lreturn, 1) := by decide +kernel
theorem dJ9_max_7cf53_0 : decode cJ9_max_7cf53 0 = .ok (.iload_n 0, 1) := by decide +kernel
theorem dJ9_max_7cf53_1 : decode cJ9_max_7cf53 1 = .ok (.iload_n 1, 1) := by decide +kernel
theorem dJ9_max_7cf53_2 : decode cJ9_max_7cf53 2 = .ok (.if_icmp .lt 7, 3) := by decide +kernel
theorem dJ9_max_7cf53_5 : decode cJ9_max_7cf53 5 = .ok (.iload_n 0, 1) := by decide +kernel
theorem dJ9_max_7cf53_6 : decode cJ9_max_7cf53 6 = .ok (.goto 4, 3) := by decide +kernel
theorem dJ9_max_7cf53_9 : decode cJ9_max_7cf53 9 = .ok (.iload_n 1, 1) := by decide +kernel
theorem dJ9_max_7cf53_10 : decode cJ9_max_7cf53 10 = .ok (.ireturn, 1) := by decide +kernel
theorem dJ9_max_f86c9_0 : decode cJ9_max_f86c9 0 = .ok (.lload_n 0, 1) := by decide +kernel
theorem dJ9_max_f86c9_1 : decode cJ9_max_f86c9 1 = .ok (.lload_n 2, 1) := by decide +kernel
theorem dJ9_max_f86c9_2 : decode cJ9_max_f86c9 2 = .ok (.lcmp, 1) := by decide +kernel
theorem dJ9_max_f86c9_3 : decode cJ9_max_f86c9 3 = .ok (.ifCond .lt 7, 3) := by decide +kernel
theorem dJ9_max_f86c9_6 : decode cJ9_max_f86c9 6 = .ok (.lload_n 0, 1) := by decide +kernel
theorem dJ9_max_f86c9_7 : decode cJ9_max_f86c9 7 = .ok (.goto 4, 3) := by decide +kernel
theorem dJ9_max_f86c9_10 : decode cJ9_max_f86c9 10 = .ok (.lload_n 2, 1) := by decide +kernel
theorem dJ9_max_f86c9_11 : decode cJ9_max_f86c9 11 = .ok (.lreturn, 1) := by decide +kernel
theorem dJ9_min_7cf53_0 : decode cJ9_min_7cf53 0 = .ok (.iload_n 0, 1) := by decide +kernel
theorem dJ9_min_7cf53_1 : decode cJ9_min_7cf53 1 = .ok (.iload_n 1, 1) := by decide +kernel
theorem dJ9_min_7cf53_2 : decode cJ9_min_7cf53 2 = .ok (.if_icmp .gt 7, 3) := by decide +kernel
theorem dJ9_min_7cf53_5 : decode cJ9_min_7cf53 5 = .ok (.iload_n 0, 1) := by decide +kernel
theorem dJ9_min_7cf53_6 : decode cJ9_min_7cf53 6 = .ok (.goto 4, 3) := by decide +kernel
theorem dJ9_min_7cf53_9 : decode cJ9_min_7cf53 9 = .ok (.iload_n 1, 1) := by decide +kernel
theorem dJ9_min_7cf53_10 : decode cJ9_min_7cf53 10 = .ok (.ireturn, 1) := by decide +kernel
theorem dJ9_min_f86c9_0 : decode cJ9_min_f86c9 0 = .ok (.lload_n 0, 1) := by decide +kernel
theorem dJ9_min_f86c9_1 : decode cJ9_min_f86c9 1 = .ok (.lload_n 2, 1) := by decide +kernel
theorem dJ9_min_f86c9_2 : decode cJ9_min_f86c9 2 = .ok (.lcmp, 1) := by decide +kernel
theorem dJ9_min_f86c9_3 : decode cJ9_min_f86c9 3 = .ok (.ifCond .gt 7, 3) := by decide +kernel
theorem dJ9_min_f86c9_6 : decode cJ9_min_f86c9 6 = .ok (.lload_n 0, 1) := by decide +kernel
theorem dJ9_min_f86c9_7 : decode cJ9_min_f86c9 7 = .ok (.goto 4, 3) := by decide +kernel
theorem dJ9_min_f86c9_10 : decode cJ9_min_f86c9 10 = .ok (.lload_n 2, 1) := by decide +kernel
theorem dJ9_min_f86c9_11 : decode cJ9_min_f86c9 11 = .ok (.lreturn, 1) := by decide +kernel
set_option maxRecDepth 20000 in
theorem ggL_law_X2_init : GoodIn wsL_law wsX2_init := goodIn_r _ [9, 10, 11, 12, 13, 14, 15, 329, 330] (by decide +kernel) (by decide +kernel)
set_option maxRecDepth 20000 in
theorem gL_law_X2_init : GoodIn wsL_law (wsX2_init) := ggL_law_X2_init
set_option maxRecDepth 20000 in
theorem ggL_law_X3_init : GoodIn wsL_law wsX3_init := goodIn_r _ [18, 19, 11, 12, 20, 21, 22, 23, 331, 332, 333] (by decide +kernel) (by decide +kernel)
set_option maxRecDepth 20000 in
theorem gL_law_X3_init : GoodIn wsL_law (wsX3_init) := ggL_law_X3_init
set_option maxRecDepth 20000 in
theorem ggL_law_X2_axis : GoodIn wsL_law wsX2_axis := goodIn_r _ [27, 28, 15, 14, 13, 29, 30, 31, 32, 33, 11, 12, 34, 35, 36, 37, 38, 39, 40, 41, 42, 43, 44, 45, 46, 47, 48, 49, 50, 51, 52, 53, 54, 55, 56, 329, 330, 334, 335, 336, 337, 338, 339] (by decide +kernel) (by decide +kernel)
set_option maxRecDepth 20000 in
theorem gL_law_X2_axis : GoodIn wsL_law (wsV RL 13 RX2 yX2_axis wsX2_axis) := goodIn_app (goodIn_of _ (by decide +kernel)) ggL_law_X2_axis
set_option maxRecDepth 20000 in
theorem ggL_law_X3_axis : GoodIn wsL_law wsX3_axis := goodIn_r _ [60, 61, 21, 23, 62, 63, 64, 65, 66, 67, 5, 68, 69, 70, 71, 72, 73, 74, 331, 332, 333] (by decide +kernel) (by decide +kernel)
set_option maxRecDepth 20000 in
theorem gL_law_X3_axis : GoodIn wsL_law (wsV RL 17 RX3 yX3_axis wsX3_axis) := goodIn_app (goodIn_of _ (by decide +kernel)) ggL_law_X3_axis
set_option maxRecDepth 20000 in
theorem ggL_law_X2_set : GoodIn wsL_law wsX2_set := goodIn_r _ [78, 79, 80, 81, 2, 82, 15, 14, 83, 30, 84, 85, 34, 35, 36, 37, 38, 39, 86, 41, 87, 88, 89, 90, 91, 92, 44, 93, 94, 95, 96, 45, 56, 97, 98, 99, 100, 101, 46, 47, 48, 49, 50, 51, 52, 329, 330, 334, 335, 336, 337, 338, 339] (by decide +kernel) (by decide +kernel)
set_option maxRecDepth 20000 in
theorem gL_law_X2_set : GoodIn wsL_law (wsV RL 20 RX2 yX2_set wsX2_set) := goodIn_app (goodIn_of _ (by decide +kernel)) ggL_law_X2_set
set_option maxRecDepth 20000 in
theorem ggL_law_X3_set : GoodIn wsL_law wsX3_set := goodIn_r _ [105, 21, 23, 106, 107, 108, 5, 109, 61, 110, 111, 112, 113, 114, 115, 64, 65, 66, 67, 68, 69, 70, 331, 332, 333] (by decide +kernel) (by decide +kernel)
set_option maxRecDepth 20000 in
theorem gL_law_X3_set : GoodIn wsL_law (wsV RL 24 RX3 yX3_set wsX3_set) := goodIn_app (goodIn_of _ (by decide +kernel)) ggL_law_X3_set
set_option maxRecDepth 20000 in
theorem ggL_law_X2_bits : GoodIn wsL_law wsX2_bits := goodIn_r _ [119, 79, 80, 81, 2, 82, 15, 14, 120, 30, 121, 122, 35, 36, 37, 38, 39, 329, 330, 334, 335, 336, 337, 338, 339] (by decide +kernel) (by decide +kernel)
set_option maxRecDepth 20000 in
theorem gL_law_X2_bits : GoodIn wsL_law (wsV RL 25 RX2 yX2_bits wsX2_bits) := goodIn_app (goodIn_of _ (by decide +kernel)) ggL_law_X2_bits
set_option maxRecDepth 20000 in
theorem ggL_law_X3_bits : GoodIn wsL_law wsX3_bits := goodIn_r _ [126, 23, 106, 107, 108, 5, 109, 61, 331, 332, 333] (by decide +kernel) (by decide +kernel)
set_option maxRecDepth 20000 in
theorem gL_law_X3_bits : GoodIn wsL_law (wsV RL 29 RX3 yX3_bits wsX3_bits) := goodIn_app (goodIn_of _ (by decide +kernel)) ggL_law_X3_bits
set_option maxRecDepth 20000 in
theorem ggL_law_X2_orders : GoodIn wsL_law wsX2_orders := goodIn_r _ [130, 79, 80, 81, 2, 82, 15, 14, 131, 132, 133, 134, 135, 136, 137, 30, 138, 139, 34, 36, 37, 35, 39, 140, 41, 141, 142, 143, 144, 145, 146, 147, 148, 149, 150, 44, 45, 56, 151, 152, 153, 154, 155, 156, 157, 94, 95, 96, 97, 98, 99, 100, 101, 86, 87, 88, 89, 158, 159, 160, 93, 161, 162, 163, 164, 165, 166, 167, 168, 51, 52, 169, 170, 171, 172, 173, 174, 175, 176, 177, 178, 179, 180, 181, 182, 183, 184, 185, 186, 187, 188, 189, 190, 191, 192, 193, 194, 195, 196, 197, 198, 199, 200, 201, 202, 203, 204, 205, 206, 207, 208, 209, 210, 211, 38, 212, 213, 214, 215, 216, 217, 218, 219, 220, 221, 222, 329, 330, 334, 335, 336, 337, 338, 339] (by decide +kernel) (by decide +kernel)
set_option maxRecDepth 20000 in
theorem gL_law_X2_orders : GoodIn wsL_law (wsV RL 30 RX2 yX2_orders wsX2_orders) := goodIn_app (goodIn_of _ (by decide +kernel)) ggL_law_X2_orders
set_option maxRecDepth 20000 in
theorem ggL_law_X3_orders : GoodIn wsL_law wsX3_orders := goodIn_r _ [226, 21, 106, 107, 108, 5, 109, 61, 227, 228, 229, 230, 23, 231, 232, 233, 234, 235, 236, 237, 238, 239, 240, 110, 111, 112, 113, 114, 115, 64, 65, 241, 242, 243, 244, 245, 246, 247, 248, 249, 250, 251, 252, 253, 254, 255, 256, 257, 258, 71, 72, 73, 74, 63, 259, 260, 261, 262, 263, 264, 331, 332, 333] (by decide +kernel) (by decide +kernel)
set_option maxRecDepth 20000 in
theorem gL_law_X3_orders : GoodIn wsL_law (wsV RL 34 RX3 yX3_orders wsX3_orders) := goodIn_app (goodIn_of _ (by decide +kernel)) ggL_law_X3_orders
set_option maxRecDepth 20000 in
theorem ggL_law_X2_follow : GoodIn wsL_law wsX2_follow := goodIn_r _ [268, 79, 80, 81, 2, 82, 15, 14, 269, 30, 270, 271, 34, 35, 272, 41, 273, 274, 44, 97, 98, 99, 100, 275, 276, 277, 278, 279, 280, 281, 282, 283, 284, 51, 173, 174, 175, 52, 285, 286, 153, 287, 288, 289, 290, 291, 292, 46, 47, 48, 49, 50, 194, 195, 196, 197, 198, 199, 180, 181, 182, 183, 45, 93, 94, 95, 96, 56, 101, 86, 87, 88, 89, 293, 40, 42, 43, 294, 53, 54, 55, 295, 296, 297, 298, 299, 300, 301, 302, 303, 304, 305, 306, 307, 329, 330, 334, 335, 336, 337, 338, 339] (by decide +kernel) (by decide +kernel)
set_option maxRecDepth 20000 in
theorem gL_law_X2_follow : GoodIn wsL_law (wsV RL 35 RX2 yX2_follow wsX2_follow) := goodIn_app (goodIn_of _ (by decide +kernel)) ggL_law_X2_follow
set_option maxRecDepth 20000 in
theorem ggL_law_X3_follow : GoodIn wsL_law wsX3_follow := goodIn_r _ [311, 23, 21, 106, 107, 108, 5, 109, 61, 312, 313, 314, 110, 111, 112, 315, 316, 317, 71, 72, 73, 74, 63, 251, 252, 253, 66, 67, 68, 69, 70, 318, 319, 320, 62, 64, 65, 113, 114, 115, 331, 332, 333] (by decide +kernel) (by decide +kernel)
set_option maxRecDepth 20000 in
theorem gL_law_X3_follow : GoodIn wsL_law (wsV RL 39 RX3 yX3_follow wsX3_follow) := goodIn_app (goodIn_of _ (by decide +kernel)) ggL_law_X3_follow
set_option maxRecDepth 20000 in
theorem ggL_law_X2_order : GoodIn wsL_law wsX2_order := goodIn_r _ [324, 79, 80, 81, 2, 82, 15, 14, 144, 41, 145, 146, 147, 148, 149, 150, 44, 45, 56, 151, 152, 153, 154, 334, 335, 336, 337, 338, 339, 329, 330] (by decide +kernel) (by decide +kernel)
set_option maxRecDepth 20000 in
theorem gL_law_X2_order : GoodIn wsL_law (wsV RL 40 RX2 yX2_order wsX2_order) := goodIn_app (goodIn_of _ (by decide +kernel)) ggL_law_X2_order
set_option maxRecDepth 20000 in
theorem ggL_law_X3_order : GoodIn wsL_law wsX3_order := goodIn_r _ [328, 21, 23, 106, 107, 108, 5, 109, 61, 237, 238, 239, 240, 110, 111, 112, 113, 114, 115, 64, 65, 331, 332, 333] (by decide +kernel) (by decide +kernel)
set_option maxRecDepth 20000 in
theorem gL_law_X3_order : GoodIn wsL_law (wsV RL 43 RX3 yX3_order wsX3_order) := goodIn_app (goodIn_of _ (by decide +kernel)) ggL_law_X3_order
theorem dL_law_0 : decode cL_law 0 = .ok (.new 7, 3) := by decide +kernel
theorem dL_law_3 : decode cL_law 3 = .ok (.dup, 1) := by decide +kernel
theorem dL_law_4 : decode cL_law 4 = .ok (.invokespecial 9, 3) := by decide +kernel
theorem dL_law_7 : decode cL_law 7 = .ok (.astore_n 1, 1) := by decide +kernel
theorem dL_law_8 : decode cL_law 8 = .ok (.new 10, 3) := by decide +kernel
theorem dL_law_11 : decode cL_law 11 = .ok (.dup, 1) := by decide +kernel
theorem dL_law_12 : decode cL_law 12 = .ok (.invokespecial 12, 3) := by decide +kernel
theorem dL_law_15 : decode cL_law 15 = .ok (.astore_n 2, 1) := by decide +kernel
theorem dL_law_16 : decode cL_law 16 = .ok (.iconst 0, 1) := by decide +kernel
theorem dL_law_17 : decode cL_law 17 = .ok (.istore_n 3, 1) := by decide +kernel
theorem dL_law_18 : decode cL_law 18 = .ok (.iload_n 3, 1) := by decide +kernel
theorem dL_law_19 : decode cL_law 19 = .ok (.aload_n 0, 1) := by decide +kernel
theorem dL_law_20 : decode cL_law 20 = .ok (.arraylength, 1) := by decide +kernel
theorem dL_law_21 : decode cL_law 21 = .ok (.iconst 5, 1) := by decide +kernel
theorem dL_law_22 : decode cL_law 22 = .ok (.isub, 1) := by decide +kernel
theorem dL_law_23 : decode cL_law 23 = .ok (.if_icmp .gt 284, 3) := by decide +kernel
theorem dL_law_26 : decode cL_law 26 = .ok (.aload_n 0, 1) := by decide +kernel
theorem dL_law_27 : decode cL_law 27 = .ok (.iload_n 3, 1) := by decide +kernel
theorem dL_law_28 : decode cL_law 28 = .ok (.iaload, 1) := by decide +kernel
theorem dL_law_29 : decode cL_law 29 = .ok (.bipush 7, 2) := by decide +kernel
theorem dL_law_31 : decode cL_law 31 = .ok (.iand, 1) := by decide +kernel
theorem dL_law_32 : decode cL_law 32 = .ok (.tableswitch 269 0 5 #[40, 63, 136, 170, 203, 236], 40) := by decide +kernel
theorem dL_law_72 : decode cL_law 72 = .ok (.aload_n 1, 1) := by decide +kernel
theorem dL_law_73 : decode cL_law 73 = .ok (.aload_n 0, 1) := by decide +kernel
theorem dL_law_74 : decode cL_law 74 = .ok (.iload_n 3, 1) := by decide +kernel
theorem dL_law_75 : decode cL_law 75 = .ok (.iconst 1, 1) := by decide +kernel
theorem dL_law_76 : decode cL_law 76 = .ok (.iadd, 1) := by decide +kernel
theorem dL_law_77 : decode cL_law 77 = .ok (.iaload, 1) := by decide +kernel
theorem dL_law_78 : decode cL_law 78 = .ok (.invokevirtual 13, 3) := by decide +kernel
theorem dL_law_81 : decode cL_law 81 = .ok (.aload_n 2, 1) := by decide +kernel
theorem dL_law_82 : decode cL_law 82 = .ok (.aload_n 0, 1) := by decide +kernel
theorem dL_law_83 : decode cL_law 83 = .ok (.iload_n 3, 1) := by decide +kernel
theorem dL_law_84 : decode cL_law 84 = .ok (.iconst 1, 1) := by decide +kernel
theorem dL_law_85 : decode cL_law 85 = .ok (.iadd, 1) := by decide +kernel
theorem dL_law_86 : decode cL_law 86 = .ok (.iaload, 1) := by decide +kernel
theorem dL_law_87 : decode cL_law 87 = .ok (.invokevirtual 17, 3) := by decide +kernel
theorem dL_law_90 : decode cL_law 90 = .ok (.if_icmp .eq 211, 3) := by decide +kernel
theorem dL_law_93 : decode cL_law 93 = .ok (.iconst 0, 1) := by decide +kernel
theorem dL_law_94 : decode cL_law 94 = .ok (.ireturn, 1) := by decide +kernel
theorem dL_law_95 : decode cL_law 95 = .ok (.aload_n 1, 1) := by decide +kernel
theorem dL_law_96 : decode cL_law 96 = .ok (.aload_n 0, 1) := by decide +kernel
theorem dL_law_97 : decode cL_law 97 = .ok (.iload_n 3, 1) := by decide +kernel
theorem dL_law_98 : decode cL_law 98 = .ok (.iconst 1, 1) := by decide +kernel
theorem dL_law_99 : decode cL_law 99 = .ok (.iadd, 1) := by decide +kernel
theorem dL_law_100 : decode cL_law 100 = .ok (.iaload, 1) := by decide +kernel
theorem dL_law_101 : decode cL_law 101 = .ok (.aload_n 0, 1) := by decide +kernel
theorem dL_law_102 : decode cL_law 102 = .ok (.iload_n 3, 1) := by decide +kernel
theorem dL_law_103 : decode cL_law 103 = .ok (.iconst 2, 1) := by decide +kernel
theorem dL_law_104 : decode cL_law 104 = .ok (.iadd, 1) := by decide +kernel
theorem dL_law_105 : decode cL_law 105 = .ok (.iaload, 1) := by decide +kernel
theorem dL_law_106 : decode cL_law 106 = .ok (.aload_n 0, 1) := by decide +kernel
theorem dL_law_107 : decode cL_law 107 = .ok (.iload_n 3, 1) := by decide +kernel
theorem dL_law_108 : decode cL_law 108 = .ok (.iconst 3, 1) := by decide +kernel
theorem dL_law_109 : decode cL_law 109 = .ok (.iadd, 1) := by decide +kernel
theorem dL_law_110 : decode cL_law 110 = .ok (.iaload, 1) := by decide +kernel
theorem dL_law_111 : decode cL_law 111 = .ok (.i2l, 1) := by decide +kernel
theorem dL_law_112 : decode cL_law 112 = .ok (.bipush 32, 2) := by decide +kernel
theorem dL_law_114 : decode cL_law 114 = .ok (.lshl, 1) := by decide +kernel
theorem dL_law_115 : decode cL_law 115 = .ok (.aload_n 0, 1) := by decide +kernel
theorem dL_law_116 : decode cL_law 116 = .ok (.iload_n 3, 1) := by decide +kernel
theorem dL_law_117 : decode cL_law 117 = .ok (.iconst 4, 1) := by decide +kernel
theorem dL_law_118 : decode cL_law 118 = .ok (.iadd, 1) := by decide +kernel
theorem dL_law_119 : decode cL_law 119 = .ok (.iaload, 1) := by decide +kernel
theorem dL_law_120 : decode cL_law 120 = .ok (.i2l, 1) := by decide +kernel
theorem dL_law_121 : decode cL_law 121 = .ok (.ldc2_w 18, 3) := by decide +kernel
theorem dL_law_124 : decode cL_law 124 = .ok (.land, 1) := by decide +kernel
theorem dL_law_125 : decode cL_law 125 = .ok (.lor, 1) := by decide +kernel
theorem dL_law_126 : decode cL_law 126 = .ok (.invokevirtual 20, 3) := by decide +kernel
theorem dL_law_129 : decode cL_law 129 = .ok (.aload_n 2, 1) := by decide +kernel
theorem dL_law_130 : decode cL_law 130 = .ok (.aload_n 0, 1) := by decide +kernel
theorem dL_law_131 : decode cL_law 131 = .ok (.iload_n 3, 1) := by decide +kernel
theorem dL_law_132 : decode cL_law 132 = .ok (.iconst 1, 1) := by decide +kernel
theorem dL_law_133 : decode cL_law 133 = .ok (.iadd, 1) := by decide +kernel
theorem dL_law_134 : decode cL_law 134 = .ok (.iaload, 1) := by decide +kernel
theorem dL_law_135 : decode cL_law 135 = .ok (.aload_n 0, 1) := by decide +kernel
theorem dL_law_136 : decode cL_law 136 = .ok (.iload_n 3, 1) := by decide +kernel
theorem dL_law_137 : decode cL_law 137 = .ok (.iconst 2, 1) := by decide +kernel
theorem dL_law_138 : decode cL_law 138 = .ok (.iadd, 1) := by decide +kernel
theorem dL_law_139 : decode cL_law 139 = .ok (.iaload, 1) := by decide +kernel
theorem dL_law_140 : decode cL_law 140 = .ok (.aload_n 0, 1) := by decide +kernel
theorem dL_law_141 : decode cL_law 141 = .ok (.iload_n 3, 1) := by decide +kernel
theorem dL_law_142 : decode cL_law 142 = .ok (.iconst 3, 1) := by decide +kernel
theorem dL_law_143 : decode cL_law 143 = .ok (.iadd, 1) := by decide +kernel
theorem dL_law_144 : decode cL_law 144 = .ok (.iaload, 1) := by decide +kernel
theorem dL_law_145 : decode cL_law 145 = .ok (.i2l, 1) := by decide +kernel
theorem dL_law_146 : decode cL_law 146 = .ok (.bipush 32, 2) := by decide +kernel
theorem dL_law_148 : decode cL_law 148 = .ok (.lshl, 1) := by decide +kernel
theorem dL_law_149 : decode cL_law 149 = .ok (.aload_n 0, 1) := by decide +kernel
theorem dL_law_150 : decode cL_law 150 = .ok (.iload_n 3, 1) := by decide +kernel
theorem dL_law_151 : decode cL_law 151 = .ok (.iconst 4, 1) := by decide +kernel
theorem dL_law_152 : decode cL_law 152 = .ok (.iadd, 1) := by decide +kernel
theorem dL_law_153 : decode cL_law 153 = .ok (.iaload, 1) := by decide +kernel
theorem dL_law_154 : decode cL_law 154 = .ok (.i2l, 1) := by decide +kernel
theorem dL_law_155 : decode cL_law 155 = .ok (.ldc2_w 18, 3) := by decide +kernel
theorem dL_law_158 : decode cL_law 158 = .ok (.land, 1) := by decide +kernel
theorem dL_law_159 : decode cL_law 159 = .ok (.lor, 1) := by decide +kernel
theorem dL_law_160 : decode cL_law 160 = .ok (.invokevirtual 24, 3) := by decide +kernel
theorem dL_law_163 : decode cL_law 163 = .ok (.if_icmp .eq 138, 3) := by decide +kernel
theorem dL_law_166 : decode cL_law 166 = .ok (.iconst 0, 1) := by decide +kernel
theorem dL_law_167 : decode cL_law 167 = .ok (.ireturn, 1) := by decide +kernel
theorem dL_law_168 : decode cL_law 168 = .ok (.aload_n 1, 1) := by decide +kernel
theorem dL_law_169 : decode cL_law 169 = .ok (.aload_n 0, 1) := by decide +kernel
theorem dL_law_170 : decode cL_law 170 = .ok (.iload_n 3, 1) := by decide +kernel
theorem dL_law_171 : decode cL_law 171 = .ok (.iconst 1, 1) := by decide +kernel
theorem dL_law_172 : decode cL_law 172 = .ok (.iadd, 1) := by decide +kernel
theorem dL_law_173 : decode cL_law 173 = .ok (.iaload, 1) := by decide +kernel
theorem dL_law_174 : decode cL_law 174 = .ok (.aload_n 0, 1) := by decide +kernel
theorem dL_law_175 : decode cL_law 175 = .ok (.iload_n 3, 1) := by decide +kernel
theorem dL_law_176 : decode cL_law 176 = .ok (.iconst 2, 1) := by decide +kernel
theorem dL_law_177 : decode cL_law 177 = .ok (.iadd, 1) := by decide +kernel
theorem dL_law_178 : decode cL_law 178 = .ok (.iaload, 1) := by decide +kernel
theorem dL_law_179 : decode cL_law 179 = .ok (.invokevirtual 25, 3) := by decide +kernel
theorem dL_law_182 : decode cL_law 182 = .ok (.aload_n 2, 1) := by decide +kernel
theorem dL_law_183 : decode cL_law 183 = .ok (.aload_n 0, 1) := by decide +kernel
theorem dL_law_184 : decode cL_law 184 = .ok (.iload_n 3, 1) := by decide +kernel
theorem dL_law_185 : decode cL_law 185 = .ok (.iconst 1, 1) := by decide +kernel
theorem dL_law_186 : decode cL_law 186 = .ok (.iadd, 1) := by decide +kernel
theorem dL_law_187 : decode cL_law 187 = .ok (.iaload, 1) := by decide +kernel
theorem dL_law_188 : decode cL_law 188 = .ok (.aload_n 0, 1) := by decide +kernel
theorem dL_law_189 : decode cL_law 189 = .ok (.iload_n 3, 1) := by decide +kernel
theorem dL_law_190 : decode cL_law 190 = .ok (.iconst 2, 1) := by decide +kernel
theorem dL_law_191 : decode cL_law 191 = .ok (.iadd, 1) := by decide +kernel
theorem dL_law_192 : decode cL_law 192 = .ok (.iaload, 1) := by decide +kernel
theorem dL_law_193 : decode cL_law 193 = .ok (.invokevirtual 29, 3) := by decide +kernel
theorem dL_law_196 : decode cL_law 196 = .ok (.lcmp, 1) := by decide +kernel
theorem dL_law_197 : decode cL_law 197 = .ok (.ifCond .eq 104, 3) := by decide +kernel
theorem dL_law_200 : decode cL_law 200 = .ok (.iconst 0, 1) := by decide +kernel
theorem dL_law_201 : decode cL_law 201 = .ok (.ireturn, 1) := by decide +kernel
theorem dL_law_202 : decode cL_law 202 = .ok (.aload_n 1, 1) := by decide +kernel
theorem dL_law_203 : decode cL_law 203 = .ok (.aload_n 0, 1) := by decide +kernel
theorem dL_law_204 : decode cL_law 204 = .ok (.iload_n 3, 1) := by decide +kernel
theorem dL_law_205 : decode cL_law 205 = .ok (.iconst 1, 1) := by decide +kernel
theorem dL_law_206 : decode cL_law 206 = .ok (.iadd, 1) := by decide +kernel
theorem dL_law_207 : decode cL_law 207 = .ok (.iaload, 1) := by decide +kernel
theorem dL_law_208 : decode cL_law 208 = .ok (.aload_n 0, 1) := by decide +kernel
theorem dL_law_209 : decode cL_law 209 = .ok (.iload_n 3, 1) := by decide +kernel
theorem dL_law_210 : decode cL_law 210 = .ok (.iconst 2, 1) := by decide +kernel
theorem dL_law_211 : decode cL_law 211 = .ok (.iadd, 1) := by decide +kernel
theorem dL_law_212 : decode cL_law 212 = .ok (.iaload, 1) := by decide +kernel
theorem dL_law_213 : decode cL_law 213 = .ok (.invokevirtual 30, 3) := by decide +kernel
theorem dL_law_216 : decode cL_law 216 = .ok (.aload_n 2, 1) := by decide +kernel
theorem dL_law_217 : decode cL_law 217 = .ok (.aload_n 0, 1) := by decide +kernel
theorem dL_law_218 : decode cL_law 218 = .ok (.iload_n 3, 1) := by decide +kernel
theorem dL_law_219 : decode cL_law 219 = .ok (.iconst 1, 1) := by decide +kernel
theorem dL_law_220 : decode cL_law 220 = .ok (.iadd, 1) := by decide +kernel
theorem dL_law_221 : decode cL_law 221 = .ok (.iaload, 1) := by decide +kernel
theorem dL_law_222 : decode cL_law 222 = .ok (.aload_n 0, 1) := by decide +kernel
theorem dL_law_223 : decode cL_law 223 = .ok (.iload_n 3, 1) := by decide +kernel
theorem dL_law_224 : decode cL_law 224 = .ok (.iconst 2, 1) := by decide +kernel
theorem dL_law_225 : decode cL_law 225 = .ok (.iadd, 1) := by decide +kernel
theorem dL_law_226 : decode cL_law 226 = .ok (.iaload, 1) := by decide +kernel
theorem dL_law_227 : decode cL_law 227 = .ok (.invokevirtual 34, 3) := by decide +kernel
theorem dL_law_230 : decode cL_law 230 = .ok (.if_icmp .eq 71, 3) := by decide +kernel
theorem dL_law_233 : decode cL_law 233 = .ok (.iconst 0, 1) := by decide +kernel
theorem dL_law_234 : decode cL_law 234 = .ok (.ireturn, 1) := by decide +kernel
theorem dL_law_235 : decode cL_law 235 = .ok (.aload_n 1, 1) := by decide +kernel
theorem dL_law_236 : decode cL_law 236 = .ok (.aload_n 0, 1) := by decide +kernel
theorem dL_law_237 : decode cL_law 237 = .ok (.iload_n 3, 1) := by decide +kernel
theorem dL_law_238 : decode cL_law 238 = .ok (.iconst 1, 1) := by decide +kernel
theorem dL_law_239 : decode cL_law 239 = .ok (.iadd, 1) := by decide +kernel
theorem dL_law_240 : decode cL_law 240 = .ok (.iaload, 1) := by decide +kernel
theorem dL_law_241 : decode cL_law 241 = .ok (.aload_n 0, 1) := by decide +kernel
theorem dL_law_242 : decode cL_law 242 = .ok (.iload_n 3, 1) := by decide +kernel
theorem dL_law_243 : decode cL_law 243 = .ok (.iconst 2, 1) := by decide +kernel
theorem dL_law_244 : decode cL_law 244 = .ok (.iadd, 1) := by decide +kernel
theorem dL_law_245 : decode cL_law 245 = .ok (.iaload, 1) := by decide +kernel
theorem dL_law_246 : decode cL_law 246 = .ok (.invokevirtual 35, 3) := by decide +kernel
theorem dL_law_249 : decode cL_law 249 = .ok (.aload_n 2, 1) := by decide +kernel
theorem dL_law_250 : decode cL_law 250 = .ok (.aload_n 0, 1) := by decide +kernel
theorem dL_law_251 : decode cL_law 251 = .ok (.iload_n 3, 1) := by decide +kernel
theorem dL_law_252 : decode cL_law 252 = .ok (.iconst 1, 1) := by decide +kernel
theorem dL_law_253 : decode cL_law 253 = .ok (.iadd, 1) := by decide +kernel
theorem dL_law_254 : decode cL_law 254 = .ok (.iaload, 1) := by decide +kernel
theorem dL_law_255 : decode cL_law 255 = .ok (.aload_n 0, 1) := by decide +kernel
theorem dL_law_256 : decode cL_law 256 = .ok (.iload_n 3, 1) := by decide +kernel
theorem dL_law_257 : decode cL_law 257 = .ok (.iconst 2, 1) := by decide +kernel
theorem dL_law_258 : decode cL_law 258 = .ok (.iadd, 1) := by decide +kernel
theorem dL_law_259 : decode cL_law 259 = .ok (.iaload, 1) := by decide +kernel
theorem dL_law_260 : decode cL_law 260 = .ok (.invokevirtual 39, 3) := by decide +kernel
theorem dL_law_263 : decode cL_law 263 = .ok (.if_icmp .eq 38, 3) := by decide +kernel
theorem dL_law_266 : decode cL_law 266 = .ok (.iconst 0, 1) := by decide +kernel
theorem dL_law_267 : decode cL_law 267 = .ok (.ireturn, 1) := by decide +kernel
theorem dL_law_268 : decode cL_law 268 = .ok (.aload_n 1, 1) := by decide +kernel
theorem dL_law_269 : decode cL_law 269 = .ok (.aload_n 0, 1) := by decide +kernel
theorem dL_law_270 : decode cL_law 270 = .ok (.iload_n 3, 1) := by decide +kernel
theorem dL_law_271 : decode cL_law 271 = .ok (.iconst 1, 1) := by decide +kernel
theorem dL_law_272 : decode cL_law 272 = .ok (.iadd, 1) := by decide +kernel
theorem dL_law_273 : decode cL_law 273 = .ok (.iaload, 1) := by decide +kernel
theorem dL_law_274 : decode cL_law 274 = .ok (.aload_n 0, 1) := by decide +kernel
theorem dL_law_275 : decode cL_law 275 = .ok (.iload_n 3, 1) := by decide +kernel
theorem dL_law_276 : decode cL_law 276 = .ok (.iconst 2, 1) := by decide +kernel
theorem dL_law_277 : decode cL_law 277 = .ok (.iadd, 1) := by decide +kernel
theorem dL_law_278 : decode cL_law 278 = .ok (.iaload, 1) := by decide +kernel
theorem dL_law_279 : decode cL_law 279 = .ok (.invokevirtual 40, 3) := by decide +kernel
theorem dL_law_282 : decode cL_law 282 = .ok (.aload_n 2, 1) := by decide +kernel
theorem dL_law_283 : decode cL_law 283 = .ok (.aload_n 0, 1) := by decide +kernel
theorem dL_law_284 : decode cL_law 284 = .ok (.iload_n 3, 1) := by decide +kernel
theorem dL_law_285 : decode cL_law 285 = .ok (.iconst 1, 1) := by decide +kernel
theorem dL_law_286 : decode cL_law 286 = .ok (.iadd, 1) := by decide +kernel
theorem dL_law_287 : decode cL_law 287 = .ok (.iaload, 1) := by decide +kernel
theorem dL_law_288 : decode cL_law 288 = .ok (.aload_n 0, 1) := by decide +kernel
theorem dL_law_289 : decode cL_law 289 = .ok (.iload_n 3, 1) := by decide +kernel
theorem dL_law_290 : decode cL_law 290 = .ok (.iconst 2, 1) := by decide +kernel
theorem dL_law_291 : decode cL_law 291 = .ok (.iadd, 1) := by decide +kernel
theorem dL_law_292 : decode cL_law 292 = .ok (.iaload, 1) := by decide +kernel
theorem dL_law_293 : decode cL_law 293 = .ok (.invokevirtual 43, 3) := by decide +kernel
theorem dL_law_296 : decode cL_law 296 = .ok (.if_icmp .eq 5, 3) := by decide +kernel
theorem dL_law_299 : decode cL_law 299 = .ok (.iconst 0, 1) := by decide +kernel
theorem dL_law_300 : decode cL_law 300 = .ok (.ireturn, 1) := by decide +kernel
theorem dL_law_301 : decode cL_law 301 = .ok (.iinc 3 5, 3) := by decide +kernel
theorem dL_law_304 : decode cL_law 304 = .ok (.goto (-286), 3) := by decide +kernel
theorem dL_law_307 : decode cL_law 307 = .ok (.iconst 1, 1) := by decide +kernel
theorem dL_law_308 : decode cL_law 308 = .ok (.ireturn, 1) := by decide +kernel
abbrev vwCl : List vw_C := [(RX0, TX0, 6), (RX1, TX1, 0), (RX2, TX2, 2), (RX3, TX3, 3)]
