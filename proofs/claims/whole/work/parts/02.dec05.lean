theorem dX11_init_149 : decode cX11_init 149 = .ok (.aload_n 0, 1) := by decide +kernel
theorem dX11_init_150 : decode cX11_init 150 = .ok (.sipush 10290, 3) := by decide +kernel
theorem dX11_init_153 : decode cX11_init 153 = .ok (.newarray .int, 2) := by decide +kernel
theorem dX11_init_155 : decode cX11_init 155 = .ok (.putfield 65, 3) := by decide +kernel
theorem dX11_init_158 : decode cX11_init 158 = .ok (.aload_n 0, 1) := by decide +kernel
theorem dX11_init_159 : decode cX11_init 159 = .ok (.bipush 61, 2) := by decide +kernel
theorem dX11_init_161 : decode cX11_init 161 = .ok (.newarray .int, 2) := by decide +kernel
theorem dX11_init_163 : decode cX11_init 163 = .ok (.putfield 68, 3) := by decide +kernel
theorem dX11_init_166 : decode cX11_init 166 = .ok (.aload_n 0, 1) := by decide +kernel
theorem dX11_init_167 : decode cX11_init 167 = .ok (.bipush 61, 2) := by decide +kernel
theorem dX11_init_169 : decode cX11_init 169 = .ok (.newarray .boolean, 2) := by decide +kernel
theorem dX11_init_171 : decode cX11_init 171 = .ok (.putfield 71, 3) := by decide +kernel
theorem dX11_init_174 : decode cX11_init 174 = .ok (.aload_n 0, 1) := by decide +kernel
theorem dX11_init_175 : decode cX11_init 175 = .ok (.bipush 18, 2) := by decide +kernel
theorem dX11_init_177 : decode cX11_init 177 = .ok (.newarray .int, 2) := by decide +kernel
theorem dX11_init_179 : decode cX11_init 179 = .ok (.putfield 74, 3) := by decide +kernel
theorem dX11_init_182 : decode cX11_init 182 = .ok (.aload_n 0, 1) := by decide +kernel
theorem dX11_init_183 : decode cX11_init 183 = .ok (.bipush 18, 2) := by decide +kernel
theorem dX11_init_185 : decode cX11_init 185 = .ok (.newarray .int, 2) := by decide +kernel
theorem dX11_init_187 : decode cX11_init 187 = .ok (.putfield 77, 3) := by decide +kernel
theorem dX11_init_190 : decode cX11_init 190 = .ok (.aload_n 0, 1) := by decide +kernel
theorem dX11_init_191 : decode cX11_init 191 = .ok (.bipush 18, 2) := by decide +kernel
theorem dX11_init_193 : decode cX11_init 193 = .ok (.newarray .boolean, 2) := by decide +kernel
theorem dX11_init_195 : decode cX11_init 195 = .ok (.putfield 80, 3) := by decide +kernel
theorem dX11_init_198 : decode cX11_init 198 = .ok (.aload_n 0, 1) := by decide +kernel
theorem dX11_init_199 : decode cX11_init 199 = .ok (.iconst 3, 1) := by decide +kernel
theorem dX11_init_200 : decode cX11_init 200 = .ok (.newarray .int, 2) := by decide +kernel
theorem dX11_init_202 : decode cX11_init 202 = .ok (.putfield 83, 3) := by decide +kernel
theorem dX11_init_205 : decode cX11_init 205 = .ok (.aload_n 0, 1) := by decide +kernel
theorem dX11_init_206 : decode cX11_init 206 = .ok (.iconst 3, 1) := by decide +kernel
theorem dX11_init_207 : decode cX11_init 207 = .ok (.newarray .int, 2) := by decide +kernel
theorem dX11_init_209 : decode cX11_init 209 = .ok (.putfield 86, 3) := by decide +kernel
theorem dX11_init_212 : decode cX11_init 212 = .ok (.aload_n 0, 1) := by decide +kernel
theorem dX11_init_213 : decode cX11_init 213 = .ok (.invokevirtual 89, 3) := by decide +kernel
theorem dX11_init_216 : decode cX11_init 216 = .ok (.aload_n 0, 1) := by decide +kernel
theorem dX11_init_217 : decode cX11_init 217 = .ok (.getfield 25, 3) := by decide +kernel
theorem dX11_init_220 : decode cX11_init 220 = .ok (.iconst 0, 1) := by decide +kernel
theorem dX11_init_221 : decode cX11_init 221 = .ok (.iconst 4, 1) := by decide +kernel
theorem dX11_init_222 : decode cX11_init 222 = .ok (.iastore, 1) := by decide +kernel
theorem dX11_init_223 : decode cX11_init 223 = .ok (.aload_n 0, 1) := by decide +kernel
theorem dX11_init_224 : decode cX11_init 224 = .ok (.getfield 25, 3) := by decide +kernel
theorem dX11_init_227 : decode cX11_init 227 = .ok (.iconst 1, 1) := by decide +kernel
theorem dX11_init_228 : decode cX11_init 228 = .ok (.iconst 4, 1) := by decide +kernel
theorem dX11_init_229 : decode cX11_init 229 = .ok (.iastore, 1) := by decide +kernel
theorem dX11_init_230 : decode cX11_init 230 = .ok (.aload_n 0, 1) := by decide +kernel
theorem dX11_init_231 : decode cX11_init 231 = .ok (.getfield 25, 3) := by decide +kernel
theorem dX11_init_234 : decode cX11_init 234 = .ok (.iconst 2, 1) := by decide +kernel
theorem dX11_init_235 : decode cX11_init 235 = .ok (.iconst 2, 1) := by decide +kernel
theorem dX11_init_236 : decode cX11_init 236 = .ok (.iastore, 1) := by decide +kernel
theorem dX11_init_237 : decode cX11_init 237 = .ok (.aload_n 0, 1) := by decide +kernel
theorem dX11_init_238 : decode cX11_init 238 = .ok (.getfield 25, 3) := by decide +kernel
theorem dX11_init_241 : decode cX11_init 241 = .ok (.iconst 3, 1) := by decide +kernel
theorem dX11_init_242 : decode cX11_init 242 = .ok (.iconst 3, 1) := by decide +kernel
theorem dX11_init_243 : decode cX11_init 243 = .ok (.iastore, 1) := by decide +kernel
theorem dX11_init_244 : decode cX11_init 244 = .ok (.aload_n 0, 1) := by decide +kernel
theorem dX11_init_245 : decode cX11_init 245 = .ok (.getfield 25, 3) := by decide +kernel
theorem dX11_init_248 : decode cX11_init 248 = .ok (.iconst 4, 1) := by decide +kernel
theorem dX11_init_249 : decode cX11_init 249 = .ok (.iconst 2, 1) := by decide +kernel
theorem dX11_init_250 : decode cX11_init 250 = .ok (.iastore, 1) := by decide +kernel
theorem dX11_init_251 : decode cX11_init 251 = .ok (.aload_n 0, 1) := by decide +kernel
theorem dX11_init_252 : decode cX11_init 252 = .ok (.getfield 25, 3) := by decide +kernel
theorem dX11_init_255 : decode cX11_init 255 = .ok (.iconst 5, 1) := by decide +kernel
theorem dX11_init_256 : decode cX11_init 256 = .ok (.iconst 1, 1) := by decide +kernel
theorem dX11_init_257 : decode cX11_init 257 = .ok (.iastore, 1) := by decide +kernel
theorem dX11_init_258 : decode cX11_init 258 = .ok (.aload_n 0, 1) := by decide +kernel
theorem dX11_init_259 : decode cX11_init 259 = .ok (.iconst 2, 1) := by decide +kernel
theorem dX11_init_260 : decode cX11_init 260 = .ok (.iconst 2, 1) := by decide +kernel
theorem dX11_init_261 : decode cX11_init 261 = .ok (.invokevirtual 92, 3) := by decide +kernel
theorem dX11_init_264 : decode cX11_init 264 = .ok (.aload_n 0, 1) := by decide +kernel
theorem dX11_init_265 : decode cX11_init 265 = .ok (.bipush 114, 2) := by decide +kernel
theorem dX11_init_267 : decode cX11_init 267 = .ok (.bipush 9, 2) := by decide +kernel
theorem dX11_init_269 : decode cX11_init 269 = .ok (.invokevirtual 96, 3) := by decide +kernel
theorem dX11_init_272 : decode cX11_init 272 = .ok (.ifCond .eq 28, 3) := by decide +kernel
theorem dX11_init_275 : decode cX11_init 275 = .ok (.aload_n 0, 1) := by decide +kernel
theorem dX11_init_276 : decode cX11_init 276 = .ok (.bipush 100, 2) := by decide +kernel
theorem dX11_init_278 : decode cX11_init 278 = .ok (.bipush 6, 2) := by decide +kernel
theorem dX11_init_280 : decode cX11_init 280 = .ok (.invokevirtual 96, 3) := by decide +kernel
theorem dX11_init_283 : decode cX11_init 283 = .ok (.ifCond .eq 17, 3) := by decide +kernel
theorem dX11_init_286 : decode cX11_init 286 = .ok (.aload_n 0, 1) := by decide +kernel
theorem dX11_init_287 : decode cX11_init 287 = .ok (.bipush 108, 2) := by decide +kernel
theorem dX11_init_289 : decode cX11_init 289 = .ok (.iconst 4, 1) := by decide +kernel
theorem dX11_init_290 : decode cX11_init 290 = .ok (.invokevirtual 96, 3) := by decide +kernel
theorem dX11_init_293 : decode cX11_init 293 = .ok (.ifCond .eq 7, 3) := by decide +kernel
theorem dX11_init_296 : decode cX11_init 296 = .ok (.iconst 1, 1) := by decide +kernel
theorem dX11_init_297 : decode cX11_init 297 = .ok (.goto 4, 3) := by decide +kernel
theorem dX11_init_300 : decode cX11_init 300 = .ok (.iconst 0, 1) := by decide +kernel
theorem dX11_init_301 : decode cX11_init 301 = .ok (.istore_n 1, 1) := by decide +kernel
theorem dX11_init_302 : decode cX11_init 302 = .ok (.aload_n 0, 1) := by decide +kernel
theorem dX11_init_303 : decode cX11_init 303 = .ok (.dup, 1) := by decide +kernel
theorem dX11_init_304 : decode cX11_init 304 = .ok (.getfield 100, 3) := by decide +kernel
theorem dX11_init_307 : decode cX11_init 307 = .ok (.iconst 1, 1) := by decide +kernel
theorem dX11_init_308 : decode cX11_init 308 = .ok (.iadd, 1) := by decide +kernel
theorem dX11_init_309 : decode cX11_init 309 = .ok (.putfield 100, 3) := by decide +kernel
theorem dX11_init_312 : decode cX11_init 312 = .ok (.aload_n 0, 1) := by decide +kernel
theorem dX11_init_313 : decode cX11_init 313 = .ok (.bipush 6, 2) := by decide +kernel
theorem dX11_init_315 : decode cX11_init 315 = .ok (.iconst 0, 1) := by decide +kernel
theorem dX11_init_316 : decode cX11_init 316 = .ok (.invokevirtual 92, 3) := by decide +kernel
theorem dX11_init_319 : decode cX11_init 319 = .ok (.iload_n 1, 1) := by decide +kernel
theorem dX11_init_320 : decode cX11_init 320 = .ok (.ifCond .eq 18, 3) := by decide +kernel
theorem dX11_init_323 : decode cX11_init 323 = .ok (.aload_n 0, 1) := by decide +kernel
theorem dX11_init_324 : decode cX11_init 324 = .ok (.bipush 100, 2) := by decide +kernel
theorem dX11_init_326 : decode cX11_init 326 = .ok (.bipush 8, 2) := by decide +kernel
theorem dX11_init_328 : decode cX11_init 328 = .ok (.invokevirtual 96, 3) := by decide +kernel
theorem dX11_init_331 : decode cX11_init 331 = .ok (.ifCond .eq 7, 3) := by decide +kernel
theorem dX11_init_334 : decode cX11_init 334 = .ok (.iconst 1, 1) := by decide +kernel
theorem dX11_init_335 : decode cX11_init 335 = .ok (.goto 4, 3) := by decide +kernel
theorem dX11_init_338 : decode cX11_init 338 = .ok (.iconst 0, 1) := by decide +kernel
theorem dX11_init_339 : decode cX11_init 339 = .ok (.istore_n 1, 1) := by decide +kernel
theorem dX11_init_340 : decode cX11_init 340 = .ok (.aload_n 0, 1) := by decide +kernel
theorem dX11_init_341 : decode cX11_init 341 = .ok (.dup, 1) := by decide +kernel
theorem dX11_init_342 : decode cX11_init 342 = .ok (.getfield 100, 3) := by decide +kernel
theorem dX11_init_345 : decode cX11_init 345 = .ok (.iconst 1, 1) := by decide +kernel
theorem dX11_init_346 : decode cX11_init 346 = .ok (.iadd, 1) := by decide +kernel
theorem dX11_init_347 : decode cX11_init 347 = .ok (.putfield 100, 3) := by decide +kernel
theorem dX11_init_350 : decode cX11_init 350 = .ok (.aload_n 0, 1) := by decide +kernel
theorem dX11_init_351 : decode cX11_init 351 = .ok (.iconst 0, 1) := by decide +kernel
theorem dX11_init_352 : decode cX11_init 352 = .ok (.iconst 5, 1) := by decide +kernel
theorem dX11_init_353 : decode cX11_init 353 = .ok (.invokevirtual 92, 3) := by decide +kernel
theorem dX11_init_356 : decode cX11_init 356 = .ok (.iload_n 1, 1) := by decide +kernel
theorem dX11_init_357 : decode cX11_init 357 = .ok (.ifCond .eq 28, 3) := by decide +kernel
theorem dX11_init_360 : decode cX11_init 360 = .ok (.aload_n 0, 1) := by decide +kernel
theorem dX11_init_361 : decode cX11_init 361 = .ok (.bipush 114, 2) := by decide +kernel
theorem dX11_init_363 : decode cX11_init 363 = .ok (.bipush 12, 2) := by decide +kernel
theorem dX11_init_365 : decode cX11_init 365 = .ok (.invokevirtual 96, 3) := by decide +kernel
theorem dX11_init_368 : decode cX11_init 368 = .ok (.ifCond .eq 17, 3) := by decide +kernel
theorem dX11_init_371 : decode cX11_init 371 = .ok (.aload_n 0, 1) := by decide +kernel
theorem dX11_init_372 : decode cX11_init 372 = .ok (.bipush 117, 2) := by decide +kernel
theorem dX11_init_374 : decode cX11_init 374 = .ok (.iconst 3, 1) := by decide +kernel
theorem dX11_init_375 : decode cX11_init 375 = .ok (.invokevirtual 96, 3) := by decide +kernel
theorem dX11_init_378 : decode cX11_init 378 = .ok (.ifCond .eq 7, 3) := by decide +kernel
theorem dX11_init_381 : decode cX11_init 381 = .ok (.iconst 1, 1) := by decide +kernel
theorem dX11_init_382 : decode cX11_init 382 = .ok (.goto 4, 3) := by decide +kernel
theorem dX11_init_385 : decode cX11_init 385 = .ok (.iconst 0, 1) := by decide +kernel
theorem dX11_init_386 : decode cX11_init 386 = .ok (.istore_n 1, 1) := by decide +kernel
theorem dX11_init_387 : decode cX11_init 387 = .ok (.aload_n 0, 1) := by decide +kernel
theorem dX11_init_388 : decode cX11_init 388 = .ok (.dup, 1) := by decide +kernel
theorem dX11_init_389 : decode cX11_init 389 = .ok (.getfield 100, 3) := by decide +kernel
theorem dX11_init_392 : decode cX11_init 392 = .ok (.iconst 1, 1) := by decide +kernel
theorem dX11_init_393 : decode cX11_init 393 = .ok (.iadd, 1) := by decide +kernel
theorem dX11_init_394 : decode cX11_init 394 = .ok (.putfield 100, 3) := by decide +kernel
theorem dX11_init_397 : decode cX11_init 397 = .ok (.aload_n 0, 1) := by decide +kernel
theorem dX11_init_398 : decode cX11_init 398 = .ok (.invokevirtual 104, 3) := by decide +kernel
theorem dX11_init_401 : decode cX11_init 401 = .ok (.return_, 1) := by decide +kernel
theorem dX11_in_0 : decode cX11_in 0 = .ok (.iload_n 0, 1) := by decide +kernel
theorem dX11_in_1 : decode cX11_in 1 = .ok (.iload_n 1, 1) := by decide +kernel
theorem dX11_in_2 : decode cX11_in 2 = .ok (.if_icmp .lt 12, 3) := by decide +kernel
theorem dX11_in_5 : decode cX11_in 5 = .ok (.iload_n 0, 1) := by decide +kernel
theorem dX11_in_6 : decode cX11_in 6 = .ok (.iload_n 2, 1) := by decide +kernel
theorem dX11_in_7 : decode cX11_in 7 = .ok (.if_icmp .gt 7, 3) := by decide +kernel
theorem dX11_in_10 : decode cX11_in 10 = .ok (.iconst 1, 1) := by decide +kernel
theorem dX11_in_11 : decode cX11_in 11 = .ok (.goto 4, 3) := by decide +kernel
theorem dX11_in_14 : decode cX11_in 14 = .ok (.iconst 0, 1) := by decide +kernel
theorem dX11_in_15 : decode cX11_in 15 = .ok (.ireturn, 1) := by decide +kernel
theorem dX11_isLine_0 : decode cX11_isLine 0 = .ok (.iload_n 1, 1) := by decide +kernel
theorem dX11_isLine_1 : decode cX11_isLine 1 = .ok (.iconst 0, 1) := by decide +kernel
theorem dX11_isLine_2 : decode cX11_isLine 2 = .ok (.aload_n 0, 1) := by decide +kernel
theorem dX11_isLine_3 : decode cX11_isLine 3 = .ok (.getfield 107, 3) := by decide +kernel
theorem dX11_isLine_6 : decode cX11_isLine 6 = .ok (.iconst 1, 1) := by decide +kernel
theorem dX11_isLine_7 : decode cX11_isLine 7 = .ok (.isub, 1) := by decide +kernel
theorem dX11_isLine_8 : decode cX11_isLine 8 = .ok (.invokestatic 110, 3) := by decide +kernel
theorem dX11_isLine_11 : decode cX11_isLine 11 = .ok (.ireturn, 1) := by decide +kernel
theorem dX11_isColour_0 : decode cX11_isColour 0 = .ok (.iload_n 0, 1) := by decide +kernel
theorem dX11_isColour_1 : decode cX11_isColour 1 = .ok (.iconst 0, 1) := by decide +kernel
theorem dX11_isColour_2 : decode cX11_isColour 2 = .ok (.iconst 2, 1) := by decide +kernel
theorem dX11_isColour_3 : decode cX11_isColour 3 = .ok (.invokestatic 110, 3) := by decide +kernel
theorem dX11_isColour_6 : decode cX11_isColour 6 = .ok (.ireturn, 1) := by decide +kernel
theorem dX11_isCovered_0 : decode cX11_isCovered 0 = .ok (.aload_n 0, 1) := by decide +kernel
theorem dX11_isCovered_1 : decode cX11_isCovered 1 = .ok (.getfield 7, 3) := by decide +kernel
theorem dX11_isCovered_4 : decode cX11_isCovered 4 = .ok (.bipush 10, 2) := by decide +kernel
theorem dX11_isCovered_6 : decode cX11_isCovered 6 = .ok (.iload_n 1, 1) := by decide +kernel
theorem dX11_isCovered_7 : decode cX11_isCovered 7 = .ok (.iadd, 1) := by decide +kernel
theorem dX11_isCovered_8 : decode cX11_isCovered 8 = .ok (.iaload, 1) := by decide +kernel
theorem dX11_isCovered_9 : decode cX11_isCovered 9 = .ok (.bipush (-4), 2) := by decide +kernel
theorem dX11_isCovered_11 : decode cX11_isCovered 11 = .ok (.if_icmp .eq 7, 3) := by decide +kernel
theorem dX11_isCovered_14 : decode cX11_isCovered 14 = .ok (.iconst 1, 1) := by decide +kernel
theorem dX11_isCovered_15 : decode cX11_isCovered 15 = .ok (.goto 4, 3) := by decide +kernel
theorem dX11_isCovered_18 : decode cX11_isCovered 18 = .ok (.iconst 0, 1) := by decide +kernel
theorem dX11_isCovered_19 : decode cX11_isCovered 19 = .ok (.ireturn, 1) := by decide +kernel
theorem dX11_begin_0 : decode cX11_begin 0 = .ok (.aload_n 0, 1) := by decide +kernel
theorem dX11_begin_1 : decode cX11_begin 1 = .ok (.getfield 22, 3) := by decide +kernel
theorem dX11_begin_4 : decode cX11_begin 4 = .ok (.iconst 0, 1) := by decide +kernel
theorem dX11_begin_5 : decode cX11_begin 5 = .ok (.iconst 2, 1) := by decide +kernel
theorem dX11_begin_6 : decode cX11_begin 6 = .ok (.iastore, 1) := by decide +kernel
theorem dX11_begin_7 : decode cX11_begin 7 = .ok (.aload_n 0, 1) := by decide +kernel
theorem dX11_begin_8 : decode cX11_begin 8 = .ok (.getfield 22, 3) := by decide +kernel
theorem dX11_begin_11 : decode cX11_begin 11 = .ok (.iconst 1, 1) := by decide +kernel
theorem dX11_begin_12 : decode cX11_begin 12 = .ok (.iconst 3, 1) := by decide +kernel
theorem dX11_begin_13 : decode cX11_begin 13 = .ok (.iastore, 1) := by decide +kernel
theorem dX11_begin_14 : decode cX11_begin 14 = .ok (.aload_n 0, 1) := by decide +kernel
theorem dX11_begin_15 : decode cX11_begin 15 = .ok (.getfield 22, 3) := by decide +kernel
theorem dX11_begin_18 : decode cX11_begin 18 = .ok (.iconst 2, 1) := by decide +kernel
theorem dX11_begin_19 : decode cX11_begin 19 = .ok (.iconst 5, 1) := by decide +kernel
theorem dX11_begin_20 : decode cX11_begin 20 = .ok (.iastore, 1) := by decide +kernel
theorem dX11_begin_21 : decode cX11_begin 21 = .ok (.aload_n 0, 1) := by decide +kernel
theorem dX11_begin_22 : decode cX11_begin 22 = .ok (.iconst 0, 1) := by decide +kernel
theorem dX11_begin_23 : decode cX11_begin 23 = .ok (.putfield 114, 3) := by decide +kernel
theorem dX11_begin_26 : decode cX11_begin 26 = .ok (.iconst 0, 1) := by decide +kernel
theorem dX11_begin_27 : decode cX11_begin 27 = .ok (.istore_n 1, 1) := by decide +kernel
theorem dX11_begin_28 : decode cX11_begin 28 = .ok (.iload_n 1, 1) := by decide +kernel
theorem dX11_begin_29 : decode cX11_begin 29 = .ok (.bipush 9, 2) := by decide +kernel
theorem dX11_begin_31 : decode cX11_begin 31 = .ok (.if_icmp .ge 17, 3) := by decide +kernel
theorem dX11_begin_34 : decode cX11_begin 34 = .ok (.aload_n 0, 1) := by decide +kernel
theorem dX11_begin_35 : decode cX11_begin 35 = .ok (.getfield 25, 3) := by decide +kernel
theorem dX11_begin_38 : decode cX11_begin 38 = .ok (.iload_n 1, 1) := by decide +kernel
theorem dX11_begin_39 : decode cX11_begin 39 = .ok (.bipush 6, 2) := by decide +kernel
theorem dX11_begin_41 : decode cX11_begin 41 = .ok (.iastore, 1) := by decide +kernel
theorem dX11_begin_42 : decode cX11_begin 42 = .ok (.iinc 1 1, 3) := by decide +kernel
theorem dX11_begin_45 : decode cX11_begin 45 = .ok (.goto (-17), 3) := by decide +kernel
theorem dX11_begin_48 : decode cX11_begin 48 = .ok (.aload_n 0, 1) := by decide +kernel
theorem dX11_begin_49 : decode cX11_begin 49 = .ok (.iconst 0, 1) := by decide +kernel
theorem dX11_begin_50 : decode cX11_begin 50 = .ok (.putfield 100, 3) := by decide +kernel
theorem dX11_begin_53 : decode cX11_begin 53 = .ok (.return_, 1) := by decide +kernel
theorem dX11_beginLine_0 : decode cX11_beginLine 0 = .ok (.aload_n 0, 1) := by decide +kernel
theorem dX11_beginLine_1 : decode cX11_beginLine 1 = .ok (.getfield 28, 3) := by decide +kernel
theorem dX11_beginLine_4 : decode cX11_beginLine 4 = .ok (.aload_n 0, 1) := by decide +kernel
theorem dX11_beginLine_5 : decode cX11_beginLine 5 = .ok (.getfield 100, 3) := by decide +kernel
theorem dX11_beginLine_8 : decode cX11_beginLine 8 = .ok (.iconst 0, 1) := by decide +kernel
theorem dX11_beginLine_9 : decode cX11_beginLine 9 = .ok (.iastore, 1) := by decide +kernel
theorem dX11_beginLine_10 : decode cX11_beginLine 10 = .ok (.aload_n 0, 1) := by decide +kernel
theorem dX11_beginLine_11 : decode cX11_beginLine 11 = .ok (.getfield 34, 3) := by decide +kernel
theorem dX11_beginLine_14 : decode cX11_beginLine 14 = .ok (.aload_n 0, 1) := by decide +kernel
theorem dX11_beginLine_15 : decode cX11_beginLine 15 = .ok (.getfield 100, 3) := by decide +kernel
theorem dX11_beginLine_18 : decode cX11_beginLine 18 = .ok (.iconst 0, 1) := by decide +kernel
theorem dX11_beginLine_19 : decode cX11_beginLine 19 = .ok (.iastore, 1) := by decide +kernel
theorem dX11_beginLine_20 : decode cX11_beginLine 20 = .ok (.aload_n 0, 1) := by decide +kernel
theorem dX11_beginLine_21 : decode cX11_beginLine 21 = .ok (.iload_n 1, 1) := by decide +kernel
theorem dX11_beginLine_22 : decode cX11_beginLine 22 = .ok (.putfield 117, 3) := by decide +kernel
theorem dX11_beginLine_25 : decode cX11_beginLine 25 = .ok (.aload_n 0, 1) := by decide +kernel
theorem dX11_beginLine_26 : decode cX11_beginLine 26 = .ok (.iload_n 2, 1) := by decide +kernel
theorem dX11_beginLine_27 : decode cX11_beginLine 27 = .ok (.putfield 120, 3) := by decide +kernel
theorem dX11_beginLine_30 : decode cX11_beginLine 30 = .ok (.aload_n 0, 1) := by decide +kernel
theorem dX11_beginLine_31 : decode cX11_beginLine 31 = .ok (.iconst 1, 1) := by decide +kernel
theorem dX11_beginLine_32 : decode cX11_beginLine 32 = .ok (.putfield 123, 3) := by decide +kernel
theorem dX11_beginLine_35 : decode cX11_beginLine 35 = .ok (.return_, 1) := by decide +kernel
theorem dX11_addCell_0 : decode cX11_addCell 0 = .ok (.aload_n 0, 1) := by decide +kernel
theorem dX11_addCell_1 : decode cX11_addCell 1 = .ok (.getfield 100, 3) := by decide +kernel
theorem dX11_addCell_4 : decode cX11_addCell 4 = .ok (.istore_n 1, 1) := by decide +kernel
theorem dX11_addCell_5 : decode cX11_addCell 5 = .ok (.aload_n 0, 1) := by decide +kernel
theorem dX11_addCell_6 : decode cX11_addCell 6 = .ok (.getfield 117, 3) := by decide +kernel
theorem dX11_addCell_9 : decode cX11_addCell 9 = .ok (.iconst 0, 1) := by decide +kernel
theorem dX11_addCell_10 : decode cX11_addCell 10 = .ok (.bipush 19, 2) := by decide +kernel
theorem dX11_addCell_12 : decode cX11_addCell 12 = .ok (.invokestatic 110, 3) := by decide +kernel
theorem dX11_addCell_15 : decode cX11_addCell 15 = .ok (.ifCond .eq 20, 3) := by decide +kernel
theorem dX11_addCell_18 : decode cX11_addCell 18 = .ok (.aload_n 0, 1) := by decide +kernel
theorem dX11_addCell_19 : decode cX11_addCell 19 = .ok (.getfield 120, 3) := by decide +kernel
theorem dX11_addCell_22 : decode cX11_addCell 22 = .ok (.iconst 0, 1) := by decide +kernel
theorem dX11_addCell_23 : decode cX11_addCell 23 = .ok (.bipush 19, 2) := by decide +kernel
theorem dX11_addCell_25 : decode cX11_addCell 25 = .ok (.invokestatic 110, 3) := by decide +kernel
theorem dX11_addCell_28 : decode cX11_addCell 28 = .ok (.ifCond .eq 7, 3) := by decide +kernel
theorem dX11_addCell_31 : decode cX11_addCell 31 = .ok (.iconst 1, 1) := by decide +kernel
theorem dX11_addCell_32 : decode cX11_addCell 32 = .ok (.goto 4, 3) := by decide +kernel
theorem dX11_addCell_35 : decode cX11_addCell 35 = .ok (.iconst 0, 1) := by decide +kernel
theorem dX11_addCell_36 : decode cX11_addCell 36 = .ok (.istore_n 2, 1) := by decide +kernel
theorem dX11_addCell_37 : decode cX11_addCell 37 = .ok (.bipush 20, 2) := by decide +kernel
theorem dX11_addCell_39 : decode cX11_addCell 39 = .ok (.aload_n 0, 1) := by decide +kernel
theorem dX11_addCell_40 : decode cX11_addCell 40 = .ok (.getfield 120, 3) := by decide +kernel
theorem dX11_addCell_43 : decode cX11_addCell 43 = .ok (.imul, 1) := by decide +kernel
theorem dX11_addCell_44 : decode cX11_addCell 44 = .ok (.aload_n 0, 1) := by decide +kernel
theorem dX11_addCell_45 : decode cX11_addCell 45 = .ok (.getfield 117, 3) := by decide +kernel
theorem dX11_addCell_48 : decode cX11_addCell 48 = .ok (.iadd, 1) := by decide +kernel
theorem dX11_addCell_49 : decode cX11_addCell 49 = .ok (.istore_n 3, 1) := by decide +kernel
theorem dX11_addCell_50 : decode cX11_addCell 50 = .ok (.iconst 0, 1) := by decide +kernel
theorem dX11_addCell_51 : decode cX11_addCell 51 = .ok (.istore 4, 2) := by decide +kernel
theorem dX11_addCell_53 : decode cX11_addCell 53 = .ok (.iload 4, 2) := by decide +kernel
theorem dX11_addCell_55 : decode cX11_addCell 55 = .ok (.aload_n 0, 1) := by decide +kernel
theorem dX11_addCell_56 : decode cX11_addCell 56 = .ok (.getfield 34, 3) := by decide +kernel
theorem dX11_addCell_59 : decode cX11_addCell 59 = .ok (.iload_n 1, 1) := by decide +kernel
theorem dX11_addCell_60 : decode cX11_addCell 60 = .ok (.iaload, 1) := by decide +kernel
theorem dX11_addCell_61 : decode cX11_addCell 61 = .ok (.if_icmp .ge 35, 3) := by decide +kernel
theorem dX11_addCell_64 : decode cX11_addCell 64 = .ok (.iload_n 2, 1) := by decide +kernel
theorem dX11_addCell_65 : decode cX11_addCell 65 = .ok (.ifCond .eq 23, 3) := by decide +kernel
theorem dX11_addCell_68 : decode cX11_addCell 68 = .ok (.aload_n 0, 1) := by decide +kernel
theorem dX11_addCell_69 : decode cX11_addCell 69 = .ok (.getfield 37, 3) := by decide +kernel
theorem dX11_addCell_72 : decode cX11_addCell 72 = .ok (.bipush 60, 2) := by decide +kernel
theorem dX11_addCell_74 : decode cX11_addCell 74 = .ok (.iload_n 1, 1) := by decide +kernel
theorem dX11_addCell_75 : decode cX11_addCell 75 = .ok (.imul, 1) := by decide +kernel
theorem dX11_addCell_76 : decode cX11_addCell 76 = .ok (.iload 4, 2) := by decide +kernel
theorem dX11_addCell_78 : decode cX11_addCell 78 = .ok (.iadd, 1) := by decide +kernel
theorem dX11_addCell_79 : decode cX11_addCell 79 = .ok (.iaload, 1) := by decide +kernel
theorem dX11_addCell_80 : decode cX11_addCell 80 = .ok (.iload_n 3, 1) := by decide +kernel
theorem dX11_addCell_81 : decode cX11_addCell 81 = .ok (.if_icmp .eq 7, 3) := by decide +kernel
theorem dX11_addCell_84 : decode cX11_addCell 84 = .ok (.iconst 1, 1) := by decide +kernel
theorem dX11_addCell_85 : decode cX11_addCell 85 = .ok (.goto 4, 3) := by decide +kernel
theorem dX11_addCell_88 : decode cX11_addCell 88 = .ok (.iconst 0, 1) := by decide +kernel
theorem dX11_addCell_89 : decode cX11_addCell 89 = .ok (.istore_n 2, 1) := by decide +kernel
theorem dX11_addCell_90 : decode cX11_addCell 90 = .ok (.iinc 4 1, 3) := by decide +kernel
theorem dX11_addCell_93 : decode cX11_addCell 93 = .ok (.goto (-40), 3) := by decide +kernel
theorem dX11_addCell_96 : decode cX11_addCell 96 = .ok (.iload_n 2, 1) := by decide +kernel
theorem dX11_addCell_97 : decode cX11_addCell 97 = .ok (.ifCond .eq 30, 3) := by decide +kernel
theorem dX11_addCell_100 : decode cX11_addCell 100 = .ok (.aload_n 0, 1) := by decide +kernel
theorem dX11_addCell_101 : decode cX11_addCell 101 = .ok (.getfield 37, 3) := by decide +kernel
theorem dX11_addCell_104 : decode cX11_addCell 104 = .ok (.bipush 60, 2) := by decide +kernel
theorem dX11_addCell_106 : decode cX11_addCell 106 = .ok (.iload_n 1, 1) := by decide +kernel
theorem dX11_addCell_107 : decode cX11_addCell 107 = .ok (.imul, 1) := by decide +kernel
theorem dX11_addCell_108 : decode cX11_addCell 108 = .ok (.aload_n 0, 1) := by decide +kernel
theorem dX11_addCell_109 : decode cX11_addCell 109 = .ok (.getfield 34, 3) := by decide +kernel
theorem dX11_addCell_112 : decode cX11_addCell 112 = .ok (.iload_n 1, 1) := by decide +kernel
theorem dX11_addCell_113 : decode cX11_addCell 113 = .ok (.iaload, 1) := by decide +kernel
theorem dX11_addCell_114 : decode cX11_addCell 114 = .ok (.iadd, 1) := by decide +kernel
theorem dX11_addCell_115 : decode cX11_addCell 115 = .ok (.iload_n 3, 1) := by decide +kernel
theorem dX11_addCell_116 : decode cX11_addCell 116 = .ok (.iastore, 1) := by decide +kernel
theorem dX11_addCell_117 : decode cX11_addCell 117 = .ok (.aload_n 0, 1) := by decide +kernel
theorem dX11_addCell_118 : decode cX11_addCell 118 = .ok (.getfield 34, 3) := by decide +kernel
theorem dX11_addCell_121 : decode cX11_addCell 121 = .ok (.iload_n 1, 1) := by decide +kernel
theorem dX11_addCell_122 : decode cX11_addCell 122 = .ok (.dup2, 1) := by decide +kernel
theorem dX11_addCell_123 : decode cX11_addCell 123 = .ok (.iaload, 1) := by decide +kernel
theorem dX11_addCell_124 : decode cX11_addCell 124 = .ok (.iconst 1, 1) := by decide +kernel
theorem dX11_addCell_125 : decode cX11_addCell 125 = .ok (.iadd, 1) := by decide +kernel
theorem dX11_addCell_126 : decode cX11_addCell 126 = .ok (.iastore, 1) := by decide +kernel
theorem dX11_addCell_127 : decode cX11_addCell 127 = .ok (.iload_n 2, 1) := by decide +kernel
theorem dX11_addCell_128 : decode cX11_addCell 128 = .ok (.ireturn, 1) := by decide +kernel
theorem dX11_goRun_0 : decode cX11_goRun 0 = .ok (.aload_n 0, 1) := by decide +kernel
theorem dX11_goRun_1 : decode cX11_goRun 1 = .ok (.getfield 100, 3) := by decide +kernel
theorem dX11_goRun_4 : decode cX11_goRun 4 = .ok (.istore_n 3, 1) := by decide +kernel
theorem dX11_goRun_5 : decode cX11_goRun 5 = .ok (.iload_n 1, 1) := by decide +kernel
theorem dX11_goRun_6 : decode cX11_goRun 6 = .ok (.bipush 114, 2) := by decide +kernel
theorem dX11_goRun_8 : decode cX11_goRun 8 = .ok (.if_icmp .eq 9, 3) := by decide +kernel
theorem dX11_goRun_11 : decode cX11_goRun 11 = .ok (.iload_n 1, 1) := by decide +kernel
theorem dX11_goRun_12 : decode cX11_goRun 12 = .ok (.bipush 108, 2) := by decide +kernel
theorem dX11_goRun_14 : decode cX11_goRun 14 = .ok (.if_icmp .ne 7, 3) := by decide +kernel
theorem dX11_goRun_17 : decode cX11_goRun 17 = .ok (.iconst 1, 1) := by decide +kernel
theorem dX11_goRun_18 : decode cX11_goRun 18 = .ok (.goto 4, 3) := by decide +kernel
theorem dX11_goRun_21 : decode cX11_goRun 21 = .ok (.iconst 0, 1) := by decide +kernel
theorem dX11_goRun_22 : decode cX11_goRun 22 = .ok (.istore 4, 2) := by decide +kernel
theorem dX11_goRun_24 : decode cX11_goRun 24 = .ok (.iload_n 1, 1) := by decide +kernel
theorem dX11_goRun_25 : decode cX11_goRun 25 = .ok (.bipush 100, 2) := by decide +kernel
theorem dX11_goRun_27 : decode cX11_goRun 27 = .ok (.if_icmp .eq 9, 3) := by decide +kernel
theorem dX11_goRun_30 : decode cX11_goRun 30 = .ok (.iload_n 1, 1) := by decide +kernel
theorem dX11_goRun_31 : decode cX11_goRun 31 = .ok (.bipush 117, 2) := by decide +kernel
theorem dX11_goRun_33 : decode cX11_goRun 33 = .ok (.if_icmp .ne 7, 3) := by decide +kernel
theorem dX11_goRun_36 : decode cX11_goRun 36 = .ok (.iconst 1, 1) := by decide +kernel
theorem dX11_goRun_37 : decode cX11_goRun 37 = .ok (.goto 4, 3) := by decide +kernel
theorem dX11_goRun_40 : decode cX11_goRun 40 = .ok (.iconst 0, 1) := by decide +kernel
theorem dX11_goRun_41 : decode cX11_goRun 41 = .ok (.istore 5, 2) := by decide +kernel
theorem dX11_goRun_43 : decode cX11_goRun 43 = .ok (.iload 4, 2) := by decide +kernel
theorem dX11_goRun_45 : decode cX11_goRun 45 = .ok (.ifCond .ne 8, 3) := by decide +kernel
theorem dX11_goRun_48 : decode cX11_goRun 48 = .ok (.iload 5, 2) := by decide +kernel
theorem dX11_goRun_50 : decode cX11_goRun 50 = .ok (.ifCond .eq 41, 3) := by decide +kernel
theorem dX11_goRun_53 : decode cX11_goRun 53 = .ok (.iload_n 2, 1) := by decide +kernel
theorem dX11_goRun_54 : decode cX11_goRun 54 = .ok (.iconst 1, 1) := by decide +kernel
theorem dX11_goRun_55 : decode cX11_goRun 55 = .ok (.bipush 12, 2) := by decide +kernel
theorem dX11_goRun_57 : decode cX11_goRun 57 = .ok (.invokestatic 110, 3) := by decide +kernel
theorem dX11_goRun_60 : decode cX11_goRun 60 = .ok (.ifCond .eq 31, 3) := by decide +kernel
theorem dX11_goRun_63 : decode cX11_goRun 63 = .ok (.aload_n 0, 1) := by decide +kernel
theorem dX11_goRun_64 : decode cX11_goRun 64 = .ok (.getfield 28, 3) := by decide +kernel
theorem dX11_goRun_67 : decode cX11_goRun 67 = .ok (.iload_n 3, 1) := by decide +kernel
theorem dX11_goRun_68 : decode cX11_goRun 68 = .ok (.iaload, 1) := by decide +kernel
theorem dX11_goRun_69 : decode cX11_goRun 69 = .ok (.iconst 5, 1) := by decide +kernel
theorem dX11_goRun_70 : decode cX11_goRun 70 = .ok (.if_icmp .eq 21, 3) := by decide +kernel
theorem dX11_goRun_73 : decode cX11_goRun 73 = .ok (.aload_n 0, 1) := by decide +kernel
theorem dX11_goRun_74 : decode cX11_goRun 74 = .ok (.getfield 28, 3) := by decide +kernel
theorem dX11_goRun_77 : decode cX11_goRun 77 = .ok (.iload_n 3, 1) := by decide +kernel
theorem dX11_goRun_78 : decode cX11_goRun 78 = .ok (.iaload, 1) := by decide +kernel
theorem dX11_goRun_79 : decode cX11_goRun 79 = .ok (.ifCond .le 14, 3) := by decide +kernel
theorem dX11_goRun_82 : decode cX11_goRun 82 = .ok (.iload 4, 2) := by decide +kernel
theorem dX11_goRun_84 : decode cX11_goRun 84 = .ok (.aload_n 0, 1) := by decide +kernel
theorem dX11_goRun_85 : decode cX11_goRun 85 = .ok (.getfield 127, 3) := by decide +kernel
theorem dX11_goRun_88 : decode cX11_goRun 88 = .ok (.if_icmp .ne 5, 3) := by decide +kernel
theorem dX11_goRun_91 : decode cX11_goRun 91 = .ok (.iconst 0, 1) := by decide +kernel
theorem dX11_goRun_92 : decode cX11_goRun 92 = .ok (.ireturn, 1) := by decide +kernel
theorem dX11_goRun_93 : decode cX11_goRun 93 = .ok (.aload_n 0, 1) := by decide +kernel
theorem dX11_goRun_94 : decode cX11_goRun 94 = .ok (.iload 4, 2) := by decide +kernel
theorem dX11_goRun_96 : decode cX11_goRun 96 = .ok (.putfield 127, 3) := by decide +kernel
theorem dX11_goRun_99 : decode cX11_goRun 99 = .ok (.iconst 0, 1) := by decide +kernel
theorem dX11_goRun_100 : decode cX11_goRun 100 = .ok (.istore 6, 2) := by decide +kernel
theorem dX11_goRun_102 : decode cX11_goRun 102 = .ok (.iload 6, 2) := by decide +kernel
theorem dX11_goRun_104 : decode cX11_goRun 104 = .ok (.iload_n 2, 1) := by decide +kernel
theorem dX11_goRun_105 : decode cX11_goRun 105 = .ok (.if_icmp .ge 105, 3) := by decide +kernel
theorem dX11_goRun_108 : decode cX11_goRun 108 = .ok (.aload_n 0, 1) := by decide +kernel
theorem dX11_goRun_109 : decode cX11_goRun 109 = .ok (.dup, 1) := by decide +kernel
theorem dX11_goRun_110 : decode cX11_goRun 110 = .ok (.getfield 117, 3) := by decide +kernel
theorem dX11_goRun_113 : decode cX11_goRun 113 = .ok (.aload_n 0, 1) := by decide +kernel
theorem dX11_goRun_114 : decode cX11_goRun 114 = .ok (.getfield 123, 3) := by decide +kernel
theorem dX11_goRun_117 : decode cX11_goRun 117 = .ok (.ifCond .eq 7, 3) := by decide +kernel
theorem dX11_goRun_120 : decode cX11_goRun 120 = .ok (.iconst 0, 1) := by decide +kernel
theorem dX11_goRun_121 : decode cX11_goRun 121 = .ok (.goto 24, 3) := by decide +kernel
theorem dX11_goRun_124 : decode cX11_goRun 124 = .ok (.iload_n 1, 1) := by decide +kernel
theorem dX11_goRun_125 : decode cX11_goRun 125 = .ok (.bipush 114, 2) := by decide +kernel
theorem dX11_goRun_127 : decode cX11_goRun 127 = .ok (.if_icmp .ne 7, 3) := by decide +kernel
theorem dX11_goRun_130 : decode cX11_goRun 130 = .ok (.iconst 1, 1) := by decide +kernel
theorem dX11_goRun_131 : decode cX11_goRun 131 = .ok (.goto 14, 3) := by decide +kernel
theorem dX11_goRun_134 : decode cX11_goRun 134 = .ok (.iload_n 1, 1) := by decide +kernel
theorem dX11_goRun_135 : decode cX11_goRun 135 = .ok (.bipush 108, 2) := by decide +kernel
theorem dX11_goRun_137 : decode cX11_goRun 137 = .ok (.if_icmp .ne 7, 3) := by decide +kernel
theorem dX11_goRun_140 : decode cX11_goRun 140 = .ok (.iconst (-1), 1) := by decide +kernel
theorem dX11_goRun_141 : decode cX11_goRun 141 = .ok (.goto 4, 3) := by decide +kernel
theorem dX11_goRun_144 : decode cX11_goRun 144 = .ok (.iconst 0, 1) := by decide +kernel
theorem dX11_goRun_145 : decode cX11_goRun 145 = .ok (.iadd, 1) := by decide +kernel
theorem dX11_goRun_146 : decode cX11_goRun 146 = .ok (.putfield 117, 3) := by decide +kernel
theorem dX11_goRun_149 : decode cX11_goRun 149 = .ok (.aload_n 0, 1) := by decide +kernel
theorem dX11_goRun_150 : decode cX11_goRun 150 = .ok (.dup, 1) := by decide +kernel
theorem dX11_goRun_151 : decode cX11_goRun 151 = .ok (.getfield 120, 3) := by decide +kernel
theorem dX11_goRun_154 : decode cX11_goRun 154 = .ok (.aload_n 0, 1) := by decide +kernel
theorem dX11_goRun_155 : decode cX11_goRun 155 = .ok (.getfield 123, 3) := by decide +kernel
theorem dX11_goRun_158 : decode cX11_goRun 158 = .ok (.ifCond .eq 7, 3) := by decide +kernel
theorem dX11_goRun_161 : decode cX11_goRun 161 = .ok (.iconst 0, 1) := by decide +kernel
theorem dX11_goRun_162 : decode cX11_goRun 162 = .ok (.goto 24, 3) := by decide +kernel
theorem dX11_goRun_165 : decode cX11_goRun 165 = .ok (.iload_n 1, 1) := by decide +kernel
theorem dX11_goRun_166 : decode cX11_goRun 166 = .ok (.bipush 100, 2) := by decide +kernel
theorem dX11_goRun_168 : decode cX11_goRun 168 = .ok (.if_icmp .ne 7, 3) := by decide +kernel
theorem dX11_goRun_171 : decode cX11_goRun 171 = .ok (.iconst 1, 1) := by decide +kernel
theorem dX11_goRun_172 : decode cX11_goRun 172 = .ok (.goto 14, 3) := by decide +kernel
theorem dX11_goRun_175 : decode cX11_goRun 175 = .ok (.iload_n 1, 1) := by decide +kernel
theorem dX11_goRun_176 : decode cX11_goRun 176 = .ok (.bipush 117, 2) := by decide +kernel
theorem dX11_goRun_178 : decode cX11_goRun 178 = .ok (.if_icmp .ne 7, 3) := by decide +kernel
theorem dX11_goRun_181 : decode cX11_goRun 181 = .ok (.iconst (-1), 1) := by decide +kernel
theorem dX11_goRun_182 : decode cX11_goRun 182 = .ok (.goto 4, 3) := by decide +kernel
theorem dX11_goRun_185 : decode cX11_goRun 185 = .ok (.iconst 0, 1) := by decide +kernel
theorem dX11_goRun_186 : decode cX11_goRun 186 = .ok (.iadd, 1) := by decide +kernel
theorem dX11_goRun_187 : decode cX11_goRun 187 = .ok (.putfield 120, 3) := by decide +kernel
theorem dX11_goRun_190 : decode cX11_goRun 190 = .ok (.aload_n 0, 1) := by decide +kernel
theorem dX11_goRun_191 : decode cX11_goRun 191 = .ok (.iconst 0, 1) := by decide +kernel
theorem dX11_goRun_192 : decode cX11_goRun 192 = .ok (.putfield 123, 3) := by decide +kernel
theorem dX11_goRun_195 : decode cX11_goRun 195 = .ok (.aload_n 0, 1) := by decide +kernel
theorem dX11_goRun_196 : decode cX11_goRun 196 = .ok (.invokevirtual 130, 3) := by decide +kernel
theorem dX11_goRun_199 : decode cX11_goRun 199 = .ok (.ifCond .ne 5, 3) := by decide +kernel
theorem dX11_goRun_202 : decode cX11_goRun 202 = .ok (.iconst 0, 1) := by decide +kernel
theorem dX11_goRun_203 : decode cX11_goRun 203 = .ok (.ireturn, 1) := by decide +kernel
theorem dX11_goRun_204 : decode cX11_goRun 204 = .ok (.iinc 6 1, 3) := by decide +kernel
theorem dX11_goRun_207 : decode cX11_goRun 207 = .ok (.goto (-105), 3) := by decide +kernel
theorem dX11_goRun_210 : decode cX11_goRun 210 = .ok (.aload_n 0, 1) := by decide +kernel
theorem dX11_goRun_211 : decode cX11_goRun 211 = .ok (.getfield 31, 3) := by decide +kernel
theorem dX11_goRun_214 : decode cX11_goRun 214 = .ok (.iconst 5, 1) := by decide +kernel
theorem dX11_goRun_215 : decode cX11_goRun 215 = .ok (.iload_n 3, 1) := by decide +kernel
theorem dX11_goRun_216 : decode cX11_goRun 216 = .ok (.imul, 1) := by decide +kernel
theorem dX11_goRun_217 : decode cX11_goRun 217 = .ok (.aload_n 0, 1) := by decide +kernel
theorem dX11_goRun_218 : decode cX11_goRun 218 = .ok (.getfield 28, 3) := by decide +kernel
theorem dX11_goRun_221 : decode cX11_goRun 221 = .ok (.iload_n 3, 1) := by decide +kernel
theorem dX11_goRun_222 : decode cX11_goRun 222 = .ok (.iaload, 1) := by decide +kernel
theorem dX11_goRun_223 : decode cX11_goRun 223 = .ok (.iadd, 1) := by decide +kernel
theorem dX11_goRun_224 : decode cX11_goRun 224 = .ok (.iload_n 2, 1) := by decide +kernel
theorem dX11_goRun_225 : decode cX11_goRun 225 = .ok (.iastore, 1) := by decide +kernel
theorem dX11_goRun_226 : decode cX11_goRun 226 = .ok (.aload_n 0, 1) := by decide +kernel
theorem dX11_goRun_227 : decode cX11_goRun 227 = .ok (.getfield 28, 3) := by decide +kernel
theorem dX11_goRun_230 : decode cX11_goRun 230 = .ok (.iload_n 3, 1) := by decide +kernel
theorem dX11_goRun_231 : decode cX11_goRun 231 = .ok (.dup2, 1) := by decide +kernel
theorem dX11_goRun_232 : decode cX11_goRun 232 = .ok (.iaload, 1) := by decide +kernel
theorem dX11_goRun_233 : decode cX11_goRun 233 = .ok (.iconst 1, 1) := by decide +kernel
theorem dX11_goRun_234 : decode cX11_goRun 234 = .ok (.iadd, 1) := by decide +kernel
theorem dX11_goRun_235 : decode cX11_goRun 235 = .ok (.iastore, 1) := by decide +kernel
theorem dX11_goRun_236 : decode cX11_goRun 236 = .ok (.iconst 1, 1) := by decide +kernel
theorem dX11_goRun_237 : decode cX11_goRun 237 = .ok (.ireturn, 1) := by decide +kernel
theorem dX11_takeSign_0 : decode cX11_takeSign 0 = .ok (.aload_n 0, 1) := by decide +kernel
theorem dX11_takeSign_1 : decode cX11_takeSign 1 = .ok (.getfield 134, 3) := by decide +kernel
theorem dX11_takeSign_4 : decode cX11_takeSign 4 = .ok (.aload_n 0, 1) := by decide +kernel
theorem dX11_takeSign_5 : decode cX11_takeSign 5 = .ok (.getfield 137, 3) := by decide +kernel
theorem dX11_takeSign_8 : decode cX11_takeSign 8 = .ok (.if_icmp .ge 20, 3) := by decide +kernel
theorem dX11_takeSign_11 : decode cX11_takeSign 11 = .ok (.aload_n 0, 1) := by decide +kernel
theorem dX11_takeSign_12 : decode cX11_takeSign 12 = .ok (.getfield 19, 3) := by decide +kernel
theorem dX11_takeSign_15 : decode cX11_takeSign 15 = .ok (.aload_n 0, 1) := by decide +kernel
theorem dX11_takeSign_16 : decode cX11_takeSign 16 = .ok (.getfield 134, 3) := by decide +kernel
theorem dX11_takeSign_19 : decode cX11_takeSign 19 = .ok (.iaload, 1) := by decide +kernel
theorem dX11_takeSign_20 : decode cX11_takeSign 20 = .ok (.iload_n 1, 1) := by decide +kernel
theorem dX11_takeSign_21 : decode cX11_takeSign 21 = .ok (.if_icmp .ne 7, 3) := by decide +kernel
theorem dX11_takeSign_24 : decode cX11_takeSign 24 = .ok (.iconst 1, 1) := by decide +kernel
theorem dX11_takeSign_25 : decode cX11_takeSign 25 = .ok (.goto 4, 3) := by decide +kernel
theorem dX11_takeSign_28 : decode cX11_takeSign 28 = .ok (.iconst 0, 1) := by decide +kernel
theorem dX11_takeSign_29 : decode cX11_takeSign 29 = .ok (.istore_n 2, 1) := by decide +kernel
theorem dX11_takeSign_30 : decode cX11_takeSign 30 = .ok (.aload_n 0, 1) := by decide +kernel
theorem dX11_takeSign_31 : decode cX11_takeSign 31 = .ok (.dup, 1) := by decide +kernel
theorem dX11_takeSign_32 : decode cX11_takeSign 32 = .ok (.getfield 134, 3) := by decide +kernel
theorem dX11_takeSign_35 : decode cX11_takeSign 35 = .ok (.iload_n 2, 1) := by decide +kernel
theorem dX11_takeSign_36 : decode cX11_takeSign 36 = .ok (.ifCond .eq 7, 3) := by decide +kernel
theorem dX11_takeSign_39 : decode cX11_takeSign 39 = .ok (.iconst 1, 1) := by decide +kernel
theorem dX11_takeSign_40 : decode cX11_takeSign 40 = .ok (.goto 4, 3) := by decide +kernel
theorem dX11_takeSign_43 : decode cX11_takeSign 43 = .ok (.iconst 0, 1) := by decide +kernel
theorem dX11_takeSign_44 : decode cX11_takeSign 44 = .ok (.iadd, 1) := by decide +kernel
theorem dX11_takeSign_45 : decode cX11_takeSign 45 = .ok (.putfield 134, 3) := by decide +kernel
theorem dX11_takeSign_48 : decode cX11_takeSign 48 = .ok (.iload_n 2, 1) := by decide +kernel
theorem dX11_takeSign_49 : decode cX11_takeSign 49 = .ok (.ireturn, 1) := by decide +kernel
theorem dX11_takeNumber_0 : decode cX11_takeNumber 0 = .ok (.bipush (-4), 2) := by decide +kernel
theorem dX11_takeNumber_2 : decode cX11_takeNumber 2 = .ok (.istore_n 1, 1) := by decide +kernel
theorem dX11_takeNumber_3 : decode cX11_takeNumber 3 = .ok (.iconst 0, 1) := by decide +kernel
theorem dX11_takeNumber_4 : decode cX11_takeNumber 4 = .ok (.istore_n 2, 1) := by decide +kernel
theorem dX11_takeNumber_5 : decode cX11_takeNumber 5 = .ok (.iload_n 2, 1) := by decide +kernel
theorem dX11_takeNumber_6 : decode cX11_takeNumber 6 = .ok (.iconst 2, 1) := by decide +kernel
theorem dX11_takeNumber_7 : decode cX11_takeNumber 7 = .ok (.if_icmp .ge 75, 3) := by decide +kernel
theorem dX11_takeNumber_10 : decode cX11_takeNumber 10 = .ok (.aload_n 0, 1) := by decide +kernel
theorem dX11_takeNumber_11 : decode cX11_takeNumber 11 = .ok (.getfield 134, 3) := by decide +kernel
theorem dX11_takeNumber_14 : decode cX11_takeNumber 14 = .ok (.aload_n 0, 1) := by decide +kernel
theorem dX11_takeNumber_15 : decode cX11_takeNumber 15 = .ok (.getfield 137, 3) := by decide +kernel
theorem dX11_takeNumber_18 : decode cX11_takeNumber 18 = .ok (.if_icmp .ge 64, 3) := by decide +kernel
theorem dX11_takeNumber_21 : decode cX11_takeNumber 21 = .ok (.aload_n 0, 1) := by decide +kernel
theorem dX11_takeNumber_22 : decode cX11_takeNumber 22 = .ok (.getfield 19, 3) := by decide +kernel
theorem dX11_takeNumber_25 : decode cX11_takeNumber 25 = .ok (.aload_n 0, 1) := by decide +kernel
theorem dX11_takeNumber_26 : decode cX11_takeNumber 26 = .ok (.getfield 134, 3) := by decide +kernel
theorem dX11_takeNumber_29 : decode cX11_takeNumber 29 = .ok (.iaload, 1) := by decide +kernel
theorem dX11_takeNumber_30 : decode cX11_takeNumber 30 = .ok (.bipush 48, 2) := by decide +kernel
theorem dX11_takeNumber_32 : decode cX11_takeNumber 32 = .ok (.bipush 57, 2) := by decide +kernel
theorem dX11_takeNumber_34 : decode cX11_takeNumber 34 = .ok (.invokestatic 110, 3) := by decide +kernel
theorem dX11_takeNumber_37 : decode cX11_takeNumber 37 = .ok (.ifCond .eq 45, 3) := by decide +kernel
theorem dX11_takeNumber_40 : decode cX11_takeNumber 40 = .ok (.bipush 10, 2) := by decide +kernel
theorem dX11_takeNumber_42 : decode cX11_takeNumber 42 = .ok (.iload_n 2, 1) := by decide +kernel
theorem dX11_takeNumber_43 : decode cX11_takeNumber 43 = .ok (.ifCond .ne 7, 3) := by decide +kernel
theorem dX11_takeNumber_46 : decode cX11_takeNumber 46 = .ok (.iconst 0, 1) := by decide +kernel
theorem dX11_takeNumber_47 : decode cX11_takeNumber 47 = .ok (.goto 4, 3) := by decide +kernel
theorem dX11_takeNumber_50 : decode cX11_takeNumber 50 = .ok (.iload_n 1, 1) := by decide +kernel
theorem dX11_takeNumber_51 : decode cX11_takeNumber 51 = .ok (.imul, 1) := by decide +kernel
theorem dX11_takeNumber_52 : decode cX11_takeNumber 52 = .ok (.aload_n 0, 1) := by decide +kernel
theorem dX11_takeNumber_53 : decode cX11_takeNumber 53 = .ok (.getfield 19, 3) := by decide +kernel
theorem dX11_takeNumber_56 : decode cX11_takeNumber 56 = .ok (.aload_n 0, 1) := by decide +kernel
theorem dX11_takeNumber_57 : decode cX11_takeNumber 57 = .ok (.getfield 134, 3) := by decide +kernel
theorem dX11_takeNumber_60 : decode cX11_takeNumber 60 = .ok (.iaload, 1) := by decide +kernel
theorem dX11_takeNumber_61 : decode cX11_takeNumber 61 = .ok (.iadd, 1) := by decide +kernel
theorem dX11_takeNumber_62 : decode cX11_takeNumber 62 = .ok (.bipush 48, 2) := by decide +kernel
theorem dX11_takeNumber_64 : decode cX11_takeNumber 64 = .ok (.isub, 1) := by decide +kernel
theorem dX11_takeNumber_65 : decode cX11_takeNumber 65 = .ok (.istore_n 1, 1) := by decide +kernel
theorem dX11_takeNumber_66 : decode cX11_takeNumber 66 = .ok (.aload_n 0, 1) := by decide +kernel
theorem dX11_takeNumber_67 : decode cX11_takeNumber 67 = .ok (.dup, 1) := by decide +kernel
theorem dX11_takeNumber_68 : decode cX11_takeNumber 68 = .ok (.getfield 134, 3) := by decide +kernel
theorem dX11_takeNumber_71 : decode cX11_takeNumber 71 = .ok (.iconst 1, 1) := by decide +kernel
theorem dX11_takeNumber_72 : decode cX11_takeNumber 72 = .ok (.iadd, 1) := by decide +kernel
theorem dX11_takeNumber_73 : decode cX11_takeNumber 73 = .ok (.putfield 134, 3) := by decide +kernel
theorem dX11_takeNumber_76 : decode cX11_takeNumber 76 = .ok (.iinc 2 1, 3) := by decide +kernel
theorem dX11_takeNumber_79 : decode cX11_takeNumber 79 = .ok (.goto (-74), 3) := by decide +kernel
theorem dX11_takeNumber_82 : decode cX11_takeNumber 82 = .ok (.iload_n 1, 1) := by decide +kernel
theorem dX11_takeNumber_83 : decode cX11_takeNumber 83 = .ok (.ireturn, 1) := by decide +kernel
theorem dX11_readSizes_0 : decode cX11_readSizes 0 = .ok (.aload_n 0, 1) := by decide +kernel
theorem dX11_readSizes_1 : decode cX11_readSizes 1 = .ok (.invokevirtual 140, 3) := by decide +kernel
theorem dX11_readSizes_4 : decode cX11_readSizes 4 = .ok (.istore_n 1, 1) := by decide +kernel
theorem dX11_readSizes_5 : decode cX11_readSizes 5 = .ok (.aload_n 0, 1) := by decide +kernel
theorem dX11_readSizes_6 : decode cX11_readSizes 6 = .ok (.bipush 44, 2) := by decide +kernel
theorem dX11_readSizes_8 : decode cX11_readSizes 8 = .ok (.invokevirtual 144, 3) := by decide +kernel
theorem dX11_readSizes_11 : decode cX11_readSizes 11 = .ok (.istore_n 2, 1) := by decide +kernel
theorem dX11_readSizes_12 : decode cX11_readSizes 12 = .ok (.aload_n 0, 1) := by decide +kernel
theorem dX11_readSizes_13 : decode cX11_readSizes 13 = .ok (.invokevirtual 140, 3) := by decide +kernel
theorem dX11_readSizes_16 : decode cX11_readSizes 16 = .ok (.istore_n 3, 1) := by decide +kernel
theorem dX11_readSizes_17 : decode cX11_readSizes 17 = .ok (.aload_n 0, 1) := by decide +kernel
theorem dX11_readSizes_18 : decode cX11_readSizes 18 = .ok (.bipush 44, 2) := by decide +kernel
theorem dX11_readSizes_20 : decode cX11_readSizes 20 = .ok (.invokevirtual 144, 3) := by decide +kernel
theorem dX11_readSizes_23 : decode cX11_readSizes 23 = .ok (.istore 4, 2) := by decide +kernel
theorem dX11_readSizes_25 : decode cX11_readSizes 25 = .ok (.aload_n 0, 1) := by decide +kernel
theorem dX11_readSizes_26 : decode cX11_readSizes 26 = .ok (.invokevirtual 140, 3) := by decide +kernel
theorem dX11_readSizes_29 : decode cX11_readSizes 29 = .ok (.istore 5, 2) := by decide +kernel
theorem dX11_readSizes_31 : decode cX11_readSizes 31 = .ok (.iload_n 2, 1) := by decide +kernel
theorem dX11_readSizes_32 : decode cX11_readSizes 32 = .ok (.ifCond .eq 40, 3) := by decide +kernel
theorem dX11_readSizes_35 : decode cX11_readSizes 35 = .ok (.iload 4, 2) := by decide +kernel
theorem dX11_readSizes_37 : decode cX11_readSizes 37 = .ok (.ifCond .eq 35, 3) := by decide +kernel
theorem dX11_readSizes_40 : decode cX11_readSizes 40 = .ok (.aload_n 0, 1) := by decide +kernel
theorem dX11_readSizes_41 : decode cX11_readSizes 41 = .ok (.bipush 59, 2) := by decide +kernel
theorem dX11_readSizes_43 : decode cX11_readSizes 43 = .ok (.invokevirtual 144, 3) := by decide +kernel
theorem dX11_readSizes_46 : decode cX11_readSizes 46 = .ok (.ifCond .eq 26, 3) := by decide +kernel
theorem dX11_readSizes_49 : decode cX11_readSizes 49 = .ok (.iload_n 1, 1) := by decide +kernel
theorem dX11_readSizes_50 : decode cX11_readSizes 50 = .ok (.iconst 1, 1) := by decide +kernel
theorem dX11_readSizes_51 : decode cX11_readSizes 51 = .ok (.if_icmp .lt 21, 3) := by decide +kernel
theorem dX11_readSizes_54 : decode cX11_readSizes 54 = .ok (.iload_n 1, 1) := by decide +kernel
theorem dX11_readSizes_55 : decode cX11_readSizes 55 = .ok (.iload_n 3, 1) := by decide +kernel
theorem dX11_readSizes_56 : decode cX11_readSizes 56 = .ok (.if_icmp .ge 16, 3) := by decide +kernel
theorem dX11_readSizes_59 : decode cX11_readSizes 59 = .ok (.iload_n 3, 1) := by decide +kernel
theorem dX11_readSizes_60 : decode cX11_readSizes 60 = .ok (.iload 5, 2) := by decide +kernel
theorem dX11_readSizes_62 : decode cX11_readSizes 62 = .ok (.if_icmp .ge 10, 3) := by decide +kernel
theorem dX11_readSizes_65 : decode cX11_readSizes 65 = .ok (.iload 5, 2) := by decide +kernel
theorem dX11_readSizes_67 : decode cX11_readSizes 67 = .ok (.bipush 9, 2) := by decide +kernel
theorem dX11_readSizes_69 : decode cX11_readSizes 69 = .ok (.if_icmp .le 5, 3) := by decide +kernel
theorem dX11_readSizes_72 : decode cX11_readSizes 72 = .ok (.iconst 0, 1) := by decide +kernel
theorem dX11_readSizes_73 : decode cX11_readSizes 73 = .ok (.ireturn, 1) := by decide +kernel
theorem dX11_readSizes_74 : decode cX11_readSizes 74 = .ok (.aload_n 0, 1) := by decide +kernel
theorem dX11_readSizes_75 : decode cX11_readSizes 75 = .ok (.getfield 22, 3) := by decide +kernel
theorem dX11_readSizes_78 : decode cX11_readSizes 78 = .ok (.iconst 0, 1) := by decide +kernel
theorem dX11_readSizes_79 : decode cX11_readSizes 79 = .ok (.iload_n 1, 1) := by decide +kernel
theorem dX11_readSizes_80 : decode cX11_readSizes 80 = .ok (.iastore, 1) := by decide +kernel
theorem dX11_readSizes_81 : decode cX11_readSizes 81 = .ok (.aload_n 0, 1) := by decide +kernel
theorem dX11_readSizes_82 : decode cX11_readSizes 82 = .ok (.getfield 22, 3) := by decide +kernel
theorem dX11_readSizes_85 : decode cX11_readSizes 85 = .ok (.iconst 1, 1) := by decide +kernel
theorem dX11_readSizes_86 : decode cX11_readSizes 86 = .ok (.iload_n 3, 1) := by decide +kernel
theorem dX11_readSizes_87 : decode cX11_readSizes 87 = .ok (.iastore, 1) := by decide +kernel
theorem dX11_readSizes_88 : decode cX11_readSizes 88 = .ok (.aload_n 0, 1) := by decide +kernel
theorem dX11_readSizes_89 : decode cX11_readSizes 89 = .ok (.getfield 22, 3) := by decide +kernel
theorem dX11_readSizes_92 : decode cX11_readSizes 92 = .ok (.iconst 2, 1) := by decide +kernel
theorem dX11_readSizes_93 : decode cX11_readSizes 93 = .ok (.iload 5, 2) := by decide +kernel
theorem dX11_readSizes_95 : decode cX11_readSizes 95 = .ok (.iastore, 1) := by decide +kernel
theorem dX11_readSizes_96 : decode cX11_readSizes 96 = .ok (.iconst 1, 1) := by decide +kernel
theorem dX11_readSizes_97 : decode cX11_readSizes 97 = .ok (.ireturn, 1) := by decide +kernel
theorem dX11_readTheBag_0 : decode cX11_readTheBag 0 = .ok (.aload_n 0, 1) := by decide +kernel
theorem dX11_readTheBag_1 : decode cX11_readTheBag 1 = .ok (.invokevirtual 140, 3) := by decide +kernel
theorem dX11_readTheBag_4 : decode cX11_readTheBag 4 = .ok (.istore_n 1, 1) := by decide +kernel
theorem dX11_readTheBag_5 : decode cX11_readTheBag 5 = .ok (.iload_n 1, 1) := by decide +kernel
theorem dX11_readTheBag_6 : decode cX11_readTheBag 6 = .ok (.invokestatic 148, 3) := by decide +kernel
theorem dX11_readTheBag_9 : decode cX11_readTheBag 9 = .ok (.istore_n 2, 1) := by decide +kernel
theorem dX11_readTheBag_10 : decode cX11_readTheBag 10 = .ok (.iconst 0, 1) := by decide +kernel
theorem dX11_readTheBag_11 : decode cX11_readTheBag 11 = .ok (.istore_n 3, 1) := by decide +kernel
theorem dX11_readTheBag_12 : decode cX11_readTheBag 12 = .ok (.iload_n 3, 1) := by decide +kernel
theorem dX11_readTheBag_13 : decode cX11_readTheBag 13 = .ok (.iconst 3, 1) := by decide +kernel
theorem dX11_readTheBag_14 : decode cX11_readTheBag 14 = .ok (.if_icmp .ge 65, 3) := by decide +kernel
theorem dX11_readTheBag_17 : decode cX11_readTheBag 17 = .ok (.iload_n 2, 1) := by decide +kernel
theorem dX11_readTheBag_18 : decode cX11_readTheBag 18 = .ok (.ifCond .eq 61, 3) := by decide +kernel
theorem dX11_readTheBag_21 : decode cX11_readTheBag 21 = .ok (.aload_n 0, 1) := by decide +kernel
theorem dX11_readTheBag_22 : decode cX11_readTheBag 22 = .ok (.bipush 44, 2) := by decide +kernel
theorem dX11_readTheBag_24 : decode cX11_readTheBag 24 = .ok (.invokevirtual 144, 3) := by decide +kernel
theorem dX11_readTheBag_27 : decode cX11_readTheBag 27 = .ok (.istore 4, 2) := by decide +kernel
theorem dX11_readTheBag_29 : decode cX11_readTheBag 29 = .ok (.aload_n 0, 1) := by decide +kernel
theorem dX11_readTheBag_30 : decode cX11_readTheBag 30 = .ok (.invokevirtual 140, 3) := by decide +kernel
theorem dX11_readTheBag_33 : decode cX11_readTheBag 33 = .ok (.istore 5, 2) := by decide +kernel
theorem dX11_readTheBag_35 : decode cX11_readTheBag 35 = .ok (.iload 4, 2) := by decide +kernel
theorem dX11_readTheBag_37 : decode cX11_readTheBag 37 = .ok (.ifCond .eq 18, 3) := by decide +kernel
theorem dX11_readTheBag_40 : decode cX11_readTheBag 40 = .ok (.iload 5, 2) := by decide +kernel
theorem dX11_readTheBag_42 : decode cX11_readTheBag 42 = .ok (.iconst 0, 1) := by decide +kernel
theorem dX11_readTheBag_43 : decode cX11_readTheBag 43 = .ok (.bipush 6, 2) := by decide +kernel
theorem dX11_readTheBag_45 : decode cX11_readTheBag 45 = .ok (.invokestatic 110, 3) := by decide +kernel
theorem dX11_readTheBag_48 : decode cX11_readTheBag 48 = .ok (.ifCond .eq 7, 3) := by decide +kernel
theorem dX11_readTheBag_51 : decode cX11_readTheBag 51 = .ok (.iconst 1, 1) := by decide +kernel
theorem dX11_readTheBag_52 : decode cX11_readTheBag 52 = .ok (.goto 4, 3) := by decide +kernel
theorem dX11_readTheBag_55 : decode cX11_readTheBag 55 = .ok (.iconst 0, 1) := by decide +kernel
theorem dX11_readTheBag_56 : decode cX11_readTheBag 56 = .ok (.istore_n 2, 1) := by decide +kernel
theorem dX11_readTheBag_57 : decode cX11_readTheBag 57 = .ok (.iload_n 2, 1) := by decide +kernel
theorem dX11_readTheBag_58 : decode cX11_readTheBag 58 = .ok (.ifCond .eq 15, 3) := by decide +kernel
theorem dX11_readTheBag_61 : decode cX11_readTheBag 61 = .ok (.aload_n 0, 1) := by decide +kernel
theorem dX11_readTheBag_62 : decode cX11_readTheBag 62 = .ok (.getfield 25, 3) := by decide +kernel
theorem dX11_readTheBag_65 : decode cX11_readTheBag 65 = .ok (.iconst 3, 1) := by decide +kernel
theorem dX11_readTheBag_66 : decode cX11_readTheBag 66 = .ok (.iload_n 1, 1) := by decide +kernel
theorem dX11_readTheBag_67 : decode cX11_readTheBag 67 = .ok (.imul, 1) := by decide +kernel
theorem dX11_readTheBag_68 : decode cX11_readTheBag 68 = .ok (.iload_n 3, 1) := by decide +kernel
theorem dX11_readTheBag_69 : decode cX11_readTheBag 69 = .ok (.iadd, 1) := by decide +kernel
theorem dX11_readTheBag_70 : decode cX11_readTheBag 70 = .ok (.iload 5, 2) := by decide +kernel
theorem dX11_readTheBag_72 : decode cX11_readTheBag 72 = .ok (.iastore, 1) := by decide +kernel
theorem dX11_readTheBag_73 : decode cX11_readTheBag 73 = .ok (.iinc 3 1, 3) := by decide +kernel
theorem dX11_readTheBag_76 : decode cX11_readTheBag 76 = .ok (.goto (-64), 3) := by decide +kernel
theorem dX11_readTheBag_79 : decode cX11_readTheBag 79 = .ok (.iload_n 2, 1) := by decide +kernel
theorem dX11_readTheBag_80 : decode cX11_readTheBag 80 = .ok (.ifCond .eq 16, 3) := by decide +kernel
theorem dX11_readTheBag_83 : decode cX11_readTheBag 83 = .ok (.aload_n 0, 1) := by decide +kernel
theorem dX11_readTheBag_84 : decode cX11_readTheBag 84 = .ok (.bipush 59, 2) := by decide +kernel
theorem dX11_readTheBag_86 : decode cX11_readTheBag 86 = .ok (.invokevirtual 144, 3) := by decide +kernel
theorem dX11_readTheBag_89 : decode cX11_readTheBag 89 = .ok (.ifCond .eq 7, 3) := by decide +kernel
theorem dX11_readTheBag_92 : decode cX11_readTheBag 92 = .ok (.iconst 1, 1) := by decide +kernel
theorem dX11_readTheBag_93 : decode cX11_readTheBag 93 = .ok (.goto 4, 3) := by decide +kernel
theorem dX11_readTheBag_96 : decode cX11_readTheBag 96 = .ok (.iconst 0, 1) := by decide +kernel
theorem dX11_readTheBag_97 : decode cX11_readTheBag 97 = .ok (.ireturn, 1) := by decide +kernel
theorem dX11_readLine_0 : decode cX11_readLine 0 = .ok (.aload_n 0, 1) := by decide +kernel
theorem dX11_readLine_1 : decode cX11_readLine 1 = .ok (.invokevirtual 140, 3) := by decide +kernel
theorem dX11_readLine_4 : decode cX11_readLine 4 = .ok (.istore_n 1, 1) := by decide +kernel
theorem dX11_readLine_5 : decode cX11_readLine 5 = .ok (.aload_n 0, 1) := by decide +kernel
theorem dX11_readLine_6 : decode cX11_readLine 6 = .ok (.bipush 44, 2) := by decide +kernel
theorem dX11_readLine_8 : decode cX11_readLine 8 = .ok (.invokevirtual 144, 3) := by decide +kernel
theorem dX11_readLine_11 : decode cX11_readLine 11 = .ok (.istore_n 2, 1) := by decide +kernel
theorem dX11_readLine_12 : decode cX11_readLine 12 = .ok (.aload_n 0, 1) := by decide +kernel
theorem dX11_readLine_13 : decode cX11_readLine 13 = .ok (.invokevirtual 140, 3) := by decide +kernel
theorem dX11_readLine_16 : decode cX11_readLine 16 = .ok (.istore_n 3, 1) := by decide +kernel
theorem dX11_readLine_17 : decode cX11_readLine 17 = .ok (.aload_n 0, 1) := by decide +kernel
theorem dX11_readLine_18 : decode cX11_readLine 18 = .ok (.bipush 44, 2) := by decide +kernel
theorem dX11_readLine_20 : decode cX11_readLine 20 = .ok (.invokevirtual 144, 3) := by decide +kernel
theorem dX11_readLine_23 : decode cX11_readLine 23 = .ok (.istore 4, 2) := by decide +kernel
theorem dX11_readLine_25 : decode cX11_readLine 25 = .ok (.aload_n 0, 1) := by decide +kernel
theorem dX11_readLine_26 : decode cX11_readLine 26 = .ok (.getfield 100, 3) := by decide +kernel
theorem dX11_readLine_29 : decode cX11_readLine 29 = .ok (.iconst 3, 1) := by decide +kernel
theorem dX11_readLine_30 : decode cX11_readLine 30 = .ok (.if_icmp .eq 32, 3) := by decide +kernel
theorem dX11_readLine_33 : decode cX11_readLine 33 = .ok (.iload_n 2, 1) := by decide +kernel
theorem dX11_readLine_34 : decode cX11_readLine 34 = .ok (.ifCond .eq 28, 3) := by decide +kernel
theorem dX11_readLine_37 : decode cX11_readLine 37 = .ok (.iload 4, 2) := by decide +kernel
theorem dX11_readLine_39 : decode cX11_readLine 39 = .ok (.ifCond .eq 23, 3) := by decide +kernel
theorem dX11_readLine_42 : decode cX11_readLine 42 = .ok (.iload_n 1, 1) := by decide +kernel
theorem dX11_readLine_43 : decode cX11_readLine 43 = .ok (.iconst 0, 1) := by decide +kernel
theorem dX11_readLine_44 : decode cX11_readLine 44 = .ok (.bipush 19, 2) := by decide +kernel
theorem dX11_readLine_46 : decode cX11_readLine 46 = .ok (.invokestatic 110, 3) := by decide +kernel
theorem dX11_readLine_49 : decode cX11_readLine 49 = .ok (.ifCond .eq 13, 3) := by decide +kernel
theorem dX11_readLine_52 : decode cX11_readLine 52 = .ok (.iload_n 3, 1) := by decide +kernel
theorem dX11_readLine_53 : decode cX11_readLine 53 = .ok (.iconst 0, 1) := by decide +kernel
theorem dX11_readLine_54 : decode cX11_readLine 54 = .ok (.bipush 19, 2) := by decide +kernel
theorem dX11_readLine_56 : decode cX11_readLine 56 = .ok (.invokestatic 110, 3) := by decide +kernel
theorem dX11_readLine_59 : decode cX11_readLine 59 = .ok (.ifCond .ne 5, 3) := by decide +kernel
theorem dX11_readLine_62 : decode cX11_readLine 62 = .ok (.iconst 0, 1) := by decide +kernel
theorem dX11_readLine_63 : decode cX11_readLine 63 = .ok (.ireturn, 1) := by decide +kernel
theorem dX11_readLine_64 : decode cX11_readLine 64 = .ok (.aload_n 0, 1) := by decide +kernel
theorem dX11_readLine_65 : decode cX11_readLine 65 = .ok (.iload_n 1, 1) := by decide +kernel
theorem dX11_readLine_66 : decode cX11_readLine 66 = .ok (.iload_n 3, 1) := by decide +kernel
theorem dX11_readLine_67 : decode cX11_readLine 67 = .ok (.invokevirtual 92, 3) := by decide +kernel
theorem dX11_readLine_70 : decode cX11_readLine 70 = .ok (.iconst 0, 1) := by decide +kernel
theorem dX11_readLine_71 : decode cX11_readLine 71 = .ok (.istore 5, 2) := by decide +kernel
theorem dX11_readLine_73 : decode cX11_readLine 73 = .ok (.iload 5, 2) := by decide +kernel
theorem dX11_readLine_75 : decode cX11_readLine 75 = .ok (.ifCond .ne 65, 3) := by decide +kernel
theorem dX11_readLine_78 : decode cX11_readLine 78 = .ok (.aload_n 0, 1) := by decide +kernel
theorem dX11_readLine_79 : decode cX11_readLine 79 = .ok (.getfield 134, 3) := by decide +kernel
theorem dX11_readLine_82 : decode cX11_readLine 82 = .ok (.aload_n 0, 1) := by decide +kernel
theorem dX11_readLine_83 : decode cX11_readLine 83 = .ok (.getfield 137, 3) := by decide +kernel
theorem dX11_readLine_86 : decode cX11_readLine 86 = .ok (.if_icmp .ge 15, 3) := by decide +kernel
theorem dX11_readLine_89 : decode cX11_readLine 89 = .ok (.aload_n 0, 1) := by decide +kernel
theorem dX11_readLine_90 : decode cX11_readLine 90 = .ok (.getfield 19, 3) := by decide +kernel
theorem dX11_readLine_93 : decode cX11_readLine 93 = .ok (.aload_n 0, 1) := by decide +kernel
theorem dX11_readLine_94 : decode cX11_readLine 94 = .ok (.getfield 134, 3) := by decide +kernel
theorem dX11_readLine_97 : decode cX11_readLine 97 = .ok (.iaload, 1) := by decide +kernel
theorem dX11_readLine_98 : decode cX11_readLine 98 = .ok (.goto 4, 3) := by decide +kernel
theorem dX11_readLine_101 : decode cX11_readLine 101 = .ok (.iconst 0, 1) := by decide +kernel
theorem dX11_readLine_102 : decode cX11_readLine 102 = .ok (.istore 6, 2) := by decide +kernel
theorem dX11_readLine_104 : decode cX11_readLine 104 = .ok (.aload_n 0, 1) := by decide +kernel
theorem dX11_readLine_105 : decode cX11_readLine 105 = .ok (.dup, 1) := by decide +kernel
theorem dX11_readLine_106 : decode cX11_readLine 106 = .ok (.getfield 134, 3) := by decide +kernel
theorem dX11_readLine_109 : decode cX11_readLine 109 = .ok (.iconst 1, 1) := by decide +kernel
theorem dX11_readLine_110 : decode cX11_readLine 110 = .ok (.iadd, 1) := by decide +kernel
theorem dX11_readLine_111 : decode cX11_readLine 111 = .ok (.putfield 134, 3) := by decide +kernel
theorem dX11_readLine_114 : decode cX11_readLine 114 = .ok (.aload_n 0, 1) := by decide +kernel
theorem dX11_readLine_115 : decode cX11_readLine 115 = .ok (.iload 6, 2) := by decide +kernel
theorem dX11_readLine_117 : decode cX11_readLine 117 = .ok (.aload_n 0, 1) := by decide +kernel
theorem dX11_readLine_118 : decode cX11_readLine 118 = .ok (.invokevirtual 140, 3) := by decide +kernel
theorem dX11_readLine_121 : decode cX11_readLine 121 = .ok (.invokevirtual 96, 3) := by decide +kernel
theorem dX11_readLine_124 : decode cX11_readLine 124 = .ok (.ifCond .ne 5, 3) := by decide +kernel
theorem dX11_readLine_127 : decode cX11_readLine 127 = .ok (.iconst 0, 1) := by decide +kernel
theorem dX11_readLine_128 : decode cX11_readLine 128 = .ok (.ireturn, 1) := by decide +kernel
theorem dX11_readLine_129 : decode cX11_readLine 129 = .ok (.aload_n 0, 1) := by decide +kernel
theorem dX11_readLine_130 : decode cX11_readLine 130 = .ok (.bipush 59, 2) := by decide +kernel
theorem dX11_readLine_132 : decode cX11_readLine 132 = .ok (.invokevirtual 144, 3) := by decide +kernel
theorem dX11_readLine_135 : decode cX11_readLine 135 = .ok (.istore 5, 2) := by decide +kernel
