theorem dX9_init_153 : decode cX9_init 153 = .ok (.iconst 1, 1) := by decide +kernel
theorem dX9_init_154 : decode cX9_init 154 = .ok (.iastore, 1) := by decide +kernel
theorem dX9_init_155 : decode cX9_init 155 = .ok (.dup, 1) := by decide +kernel
theorem dX9_init_156 : decode cX9_init 156 = .ok (.iconst 2, 1) := by decide +kernel
theorem dX9_init_157 : decode cX9_init 157 = .ok (.iconst 2, 1) := by decide +kernel
theorem dX9_init_158 : decode cX9_init 158 = .ok (.iastore, 1) := by decide +kernel
theorem dX9_init_159 : decode cX9_init 159 = .ok (.dup, 1) := by decide +kernel
theorem dX9_init_160 : decode cX9_init 160 = .ok (.iconst 3, 1) := by decide +kernel
theorem dX9_init_161 : decode cX9_init 161 = .ok (.iconst 3, 1) := by decide +kernel
theorem dX9_init_162 : decode cX9_init 162 = .ok (.iastore, 1) := by decide +kernel
theorem dX9_init_163 : decode cX9_init 163 = .ok (.dup, 1) := by decide +kernel
theorem dX9_init_164 : decode cX9_init 164 = .ok (.iconst 4, 1) := by decide +kernel
theorem dX9_init_165 : decode cX9_init 165 = .ok (.iconst 4, 1) := by decide +kernel
theorem dX9_init_166 : decode cX9_init 166 = .ok (.iastore, 1) := by decide +kernel
theorem dX9_init_167 : decode cX9_init 167 = .ok (.putfield 22, 3) := by decide +kernel
theorem dX9_init_170 : decode cX9_init 170 = .ok (.aload_n 0, 1) := by decide +kernel
theorem dX9_init_171 : decode cX9_init 171 = .ok (.iconst 4, 1) := by decide +kernel
theorem dX9_init_172 : decode cX9_init 172 = .ok (.newarray .int, 2) := by decide +kernel
theorem dX9_init_174 : decode cX9_init 174 = .ok (.putfield 25, 3) := by decide +kernel
theorem dX9_init_177 : decode cX9_init 177 = .ok (.aload_n 0, 1) := by decide +kernel
theorem dX9_init_178 : decode cX9_init 178 = .ok (.iconst 4, 1) := by decide +kernel
theorem dX9_init_179 : decode cX9_init 179 = .ok (.newarray .int, 2) := by decide +kernel
theorem dX9_init_181 : decode cX9_init 181 = .ok (.putfield 28, 3) := by decide +kernel
theorem dX9_init_184 : decode cX9_init 184 = .ok (.aload_n 0, 1) := by decide +kernel
theorem dX9_init_185 : decode cX9_init 185 = .ok (.bipush 8, 2) := by decide +kernel
theorem dX9_init_187 : decode cX9_init 187 = .ok (.newarray .int, 2) := by decide +kernel
theorem dX9_init_189 : decode cX9_init 189 = .ok (.putfield 31, 3) := by decide +kernel
theorem dX9_init_192 : decode cX9_init 192 = .ok (.aload_n 0, 1) := by decide +kernel
theorem dX9_init_193 : decode cX9_init 193 = .ok (.bipush 8, 2) := by decide +kernel
theorem dX9_init_195 : decode cX9_init 195 = .ok (.newarray .int, 2) := by decide +kernel
theorem dX9_init_197 : decode cX9_init 197 = .ok (.putfield 34, 3) := by decide +kernel
theorem dX9_init_200 : decode cX9_init 200 = .ok (.aload_n 0, 1) := by decide +kernel
theorem dX9_init_201 : decode cX9_init 201 = .ok (.bipush 8, 2) := by decide +kernel
theorem dX9_init_203 : decode cX9_init 203 = .ok (.newarray .int, 2) := by decide +kernel
theorem dX9_init_205 : decode cX9_init 205 = .ok (.putfield 37, 3) := by decide +kernel
theorem dX9_init_208 : decode cX9_init 208 = .ok (.aload_n 0, 1) := by decide +kernel
theorem dX9_init_209 : decode cX9_init 209 = .ok (.bipush 8, 2) := by decide +kernel
theorem dX9_init_211 : decode cX9_init 211 = .ok (.newarray .int, 2) := by decide +kernel
theorem dX9_init_213 : decode cX9_init 213 = .ok (.putfield 40, 3) := by decide +kernel
theorem dX9_init_216 : decode cX9_init 216 = .ok (.aload_n 0, 1) := by decide +kernel
theorem dX9_init_217 : decode cX9_init 217 = .ok (.bipush 8, 2) := by decide +kernel
theorem dX9_init_219 : decode cX9_init 219 = .ok (.newarray .int, 2) := by decide +kernel
theorem dX9_init_221 : decode cX9_init 221 = .ok (.putfield 43, 3) := by decide +kernel
theorem dX9_init_224 : decode cX9_init 224 = .ok (.aload_n 0, 1) := by decide +kernel
theorem dX9_init_225 : decode cX9_init 225 = .ok (.bipush 100, 2) := by decide +kernel
theorem dX9_init_227 : decode cX9_init 227 = .ok (.newarray .int, 2) := by decide +kernel
theorem dX9_init_229 : decode cX9_init 229 = .ok (.putfield 46, 3) := by decide +kernel
theorem dX9_init_232 : decode cX9_init 232 = .ok (.aload_n 0, 1) := by decide +kernel
theorem dX9_init_233 : decode cX9_init 233 = .ok (.bipush 6, 2) := by decide +kernel
theorem dX9_init_235 : decode cX9_init 235 = .ok (.newarray .int, 2) := by decide +kernel
theorem dX9_init_237 : decode cX9_init 237 = .ok (.dup, 1) := by decide +kernel
theorem dX9_init_238 : decode cX9_init 238 = .ok (.iconst 0, 1) := by decide +kernel
theorem dX9_init_239 : decode cX9_init 239 = .ok (.iconst (-1), 1) := by decide +kernel
theorem dX9_init_240 : decode cX9_init 240 = .ok (.iastore, 1) := by decide +kernel
theorem dX9_init_241 : decode cX9_init 241 = .ok (.dup, 1) := by decide +kernel
theorem dX9_init_242 : decode cX9_init 242 = .ok (.iconst 1, 1) := by decide +kernel
theorem dX9_init_243 : decode cX9_init 243 = .ok (.iconst (-1), 1) := by decide +kernel
theorem dX9_init_244 : decode cX9_init 244 = .ok (.iastore, 1) := by decide +kernel
theorem dX9_init_245 : decode cX9_init 245 = .ok (.dup, 1) := by decide +kernel
theorem dX9_init_246 : decode cX9_init 246 = .ok (.iconst 2, 1) := by decide +kernel
theorem dX9_init_247 : decode cX9_init 247 = .ok (.iconst (-1), 1) := by decide +kernel
theorem dX9_init_248 : decode cX9_init 248 = .ok (.iastore, 1) := by decide +kernel
theorem dX9_init_249 : decode cX9_init 249 = .ok (.dup, 1) := by decide +kernel
theorem dX9_init_250 : decode cX9_init 250 = .ok (.iconst 3, 1) := by decide +kernel
theorem dX9_init_251 : decode cX9_init 251 = .ok (.iconst (-1), 1) := by decide +kernel
theorem dX9_init_252 : decode cX9_init 252 = .ok (.iastore, 1) := by decide +kernel
theorem dX9_init_253 : decode cX9_init 253 = .ok (.dup, 1) := by decide +kernel
theorem dX9_init_254 : decode cX9_init 254 = .ok (.iconst 4, 1) := by decide +kernel
theorem dX9_init_255 : decode cX9_init 255 = .ok (.iconst (-1), 1) := by decide +kernel
theorem dX9_init_256 : decode cX9_init 256 = .ok (.iastore, 1) := by decide +kernel
theorem dX9_init_257 : decode cX9_init 257 = .ok (.dup, 1) := by decide +kernel
theorem dX9_init_258 : decode cX9_init 258 = .ok (.iconst 5, 1) := by decide +kernel
theorem dX9_init_259 : decode cX9_init 259 = .ok (.iconst (-1), 1) := by decide +kernel
theorem dX9_init_260 : decode cX9_init 260 = .ok (.iastore, 1) := by decide +kernel
theorem dX9_init_261 : decode cX9_init 261 = .ok (.putfield 49, 3) := by decide +kernel
theorem dX9_init_264 : decode cX9_init 264 = .ok (.aload_n 0, 1) := by decide +kernel
theorem dX9_init_265 : decode cX9_init 265 = .ok (.bipush 6, 2) := by decide +kernel
theorem dX9_init_267 : decode cX9_init 267 = .ok (.newarray .int, 2) := by decide +kernel
theorem dX9_init_269 : decode cX9_init 269 = .ok (.putfield 52, 3) := by decide +kernel
theorem dX9_init_272 : decode cX9_init 272 = .ok (.aload_n 0, 1) := by decide +kernel
theorem dX9_init_273 : decode cX9_init 273 = .ok (.sipush 360, 3) := by decide +kernel
theorem dX9_init_276 : decode cX9_init 276 = .ok (.newarray .long, 2) := by decide +kernel
theorem dX9_init_278 : decode cX9_init 278 = .ok (.putfield 55, 3) := by decide +kernel
theorem dX9_init_281 : decode cX9_init 281 = .ok (.aload_n 0, 1) := by decide +kernel
theorem dX9_init_282 : decode cX9_init 282 = .ok (.bipush 60, 2) := by decide +kernel
theorem dX9_init_284 : decode cX9_init 284 = .ok (.newarray .long, 2) := by decide +kernel
theorem dX9_init_286 : decode cX9_init 286 = .ok (.putfield 59, 3) := by decide +kernel
theorem dX9_init_289 : decode cX9_init 289 = .ok (.aload_n 0, 1) := by decide +kernel
theorem dX9_init_290 : decode cX9_init 290 = .ok (.bipush 25, 2) := by decide +kernel
theorem dX9_init_292 : decode cX9_init 292 = .ok (.newarray .int, 2) := by decide +kernel
theorem dX9_init_294 : decode cX9_init 294 = .ok (.putfield 62, 3) := by decide +kernel
theorem dX9_init_297 : decode cX9_init 297 = .ok (.aload_n 0, 1) := by decide +kernel
theorem dX9_init_298 : decode cX9_init 298 = .ok (.bipush 25, 2) := by decide +kernel
theorem dX9_init_300 : decode cX9_init 300 = .ok (.newarray .int, 2) := by decide +kernel
theorem dX9_init_302 : decode cX9_init 302 = .ok (.putfield 65, 3) := by decide +kernel
theorem dX9_init_305 : decode cX9_init 305 = .ok (.aload_n 0, 1) := by decide +kernel
theorem dX9_init_306 : decode cX9_init 306 = .ok (.iconst 5, 1) := by decide +kernel
theorem dX9_init_307 : decode cX9_init 307 = .ok (.newarray .int, 2) := by decide +kernel
theorem dX9_init_309 : decode cX9_init 309 = .ok (.putfield 68, 3) := by decide +kernel
theorem dX9_init_312 : decode cX9_init 312 = .ok (.aload_n 0, 1) := by decide +kernel
theorem dX9_init_313 : decode cX9_init 313 = .ok (.sipush 2000, 3) := by decide +kernel
theorem dX9_init_316 : decode cX9_init 316 = .ok (.newarray .int, 2) := by decide +kernel
theorem dX9_init_318 : decode cX9_init 318 = .ok (.putfield 71, 3) := by decide +kernel
theorem dX9_init_321 : decode cX9_init 321 = .ok (.aload_n 0, 1) := by decide +kernel
theorem dX9_init_322 : decode cX9_init 322 = .ok (.iconst 5, 1) := by decide +kernel
theorem dX9_init_323 : decode cX9_init 323 = .ok (.newarray .int, 2) := by decide +kernel
theorem dX9_init_325 : decode cX9_init 325 = .ok (.putfield 74, 3) := by decide +kernel
theorem dX9_init_328 : decode cX9_init 328 = .ok (.aload_n 0, 1) := by decide +kernel
theorem dX9_init_329 : decode cX9_init 329 = .ok (.bipush 6, 2) := by decide +kernel
theorem dX9_init_331 : decode cX9_init 331 = .ok (.newarray .int, 2) := by decide +kernel
theorem dX9_init_333 : decode cX9_init 333 = .ok (.putfield 77, 3) := by decide +kernel
theorem dX9_init_336 : decode cX9_init 336 = .ok (.aload_n 0, 1) := by decide +kernel
theorem dX9_init_337 : decode cX9_init 337 = .ok (.bipush 12, 2) := by decide +kernel
theorem dX9_init_339 : decode cX9_init 339 = .ok (.newarray .int, 2) := by decide +kernel
theorem dX9_init_341 : decode cX9_init 341 = .ok (.putfield 80, 3) := by decide +kernel
theorem dX9_init_344 : decode cX9_init 344 = .ok (.aload_n 0, 1) := by decide +kernel
theorem dX9_init_345 : decode cX9_init 345 = .ok (.bipush 12, 2) := by decide +kernel
theorem dX9_init_347 : decode cX9_init 347 = .ok (.newarray .int, 2) := by decide +kernel
theorem dX9_init_349 : decode cX9_init 349 = .ok (.putfield 83, 3) := by decide +kernel
theorem dX9_init_352 : decode cX9_init 352 = .ok (.aload_n 0, 1) := by decide +kernel
theorem dX9_init_353 : decode cX9_init 353 = .ok (.bipush 12, 2) := by decide +kernel
theorem dX9_init_355 : decode cX9_init 355 = .ok (.newarray .int, 2) := by decide +kernel
theorem dX9_init_357 : decode cX9_init 357 = .ok (.putfield 86, 3) := by decide +kernel
theorem dX9_init_360 : decode cX9_init 360 = .ok (.aload_n 0, 1) := by decide +kernel
theorem dX9_init_361 : decode cX9_init 361 = .ok (.bipush 12, 2) := by decide +kernel
theorem dX9_init_363 : decode cX9_init 363 = .ok (.newarray .int, 2) := by decide +kernel
theorem dX9_init_365 : decode cX9_init 365 = .ok (.putfield 89, 3) := by decide +kernel
theorem dX9_init_368 : decode cX9_init 368 = .ok (.aload_n 0, 1) := by decide +kernel
theorem dX9_init_369 : decode cX9_init 369 = .ok (.bipush 88, 2) := by decide +kernel
theorem dX9_init_371 : decode cX9_init 371 = .ok (.newarray .int, 2) := by decide +kernel
theorem dX9_init_373 : decode cX9_init 373 = .ok (.putfield 92, 3) := by decide +kernel
theorem dX9_init_376 : decode cX9_init 376 = .ok (.return_, 1) := by decide +kernel
theorem dX9_in_0 : decode cX9_in 0 = .ok (.iload_n 0, 1) := by decide +kernel
theorem dX9_in_1 : decode cX9_in 1 = .ok (.iload_n 1, 1) := by decide +kernel
theorem dX9_in_2 : decode cX9_in 2 = .ok (.if_icmp .lt 12, 3) := by decide +kernel
theorem dX9_in_5 : decode cX9_in 5 = .ok (.iload_n 0, 1) := by decide +kernel
theorem dX9_in_6 : decode cX9_in 6 = .ok (.iload_n 2, 1) := by decide +kernel
theorem dX9_in_7 : decode cX9_in 7 = .ok (.if_icmp .gt 7, 3) := by decide +kernel
theorem dX9_in_10 : decode cX9_in 10 = .ok (.iconst 1, 1) := by decide +kernel
theorem dX9_in_11 : decode cX9_in 11 = .ok (.goto 4, 3) := by decide +kernel
theorem dX9_in_14 : decode cX9_in 14 = .ok (.iconst 0, 1) := by decide +kernel
theorem dX9_in_15 : decode cX9_in 15 = .ok (.ireturn, 1) := by decide +kernel
set_option maxRecDepth 20000 in
theorem ggX9_isPoint_X9_in : GoodIn wsX9_isPoint wsX9_in := goodIn_r _ [5] (by decide +kernel) (by decide +kernel)
set_option maxRecDepth 20000 in
theorem gX9_isPoint_X9_in : GoodIn wsX9_isPoint (va_wsS RX9 95 yX9_in wsX9_in) := goodIn_app (goodIn_of _ (by decide +kernel)) ggX9_isPoint_X9_in
theorem dX9_isPoint_0 : decode cX9_isPoint 0 = .ok (.iload_n 1, 1) := by decide +kernel
theorem dX9_isPoint_1 : decode cX9_isPoint 1 = .ok (.iconst 0, 1) := by decide +kernel
theorem dX9_isPoint_2 : decode cX9_isPoint 2 = .ok (.aload_n 0, 1) := by decide +kernel
theorem dX9_isPoint_3 : decode cX9_isPoint 3 = .ok (.getfield 9, 3) := by decide +kernel
theorem dX9_isPoint_6 : decode cX9_isPoint 6 = .ok (.iconst 1, 1) := by decide +kernel
theorem dX9_isPoint_7 : decode cX9_isPoint 7 = .ok (.isub, 1) := by decide +kernel
theorem dX9_isPoint_8 : decode cX9_isPoint 8 = .ok (.invokestatic 95, 3) := by decide +kernel
theorem dX9_isPoint_11 : decode cX9_isPoint 11 = .ok (.ireturn, 1) := by decide +kernel
set_option maxRecDepth 20000 in
theorem ggX9_areTwo_X9_isPoint : GoodIn wsX9_areTwo wsX9_isPoint := goodIn_r _ [5, 6, 7, 8, 4, 9, 10, 11, 12, 13, 14, 15, 16, 17, 18, 19, 20, 21, 22, 23, 24, 25, 26, 27, 28, 29, 30, 31, 32, 33, 34, 35, 36, 37, 38, 39, 40, 41, 42, 43, 44] (by decide +kernel) (by decide +kernel)
set_option maxRecDepth 20000 in
theorem gX9_areTwo_X9_isPoint : GoodIn wsX9_areTwo (wsV RX9 99 RX9 yX9_isPoint wsX9_isPoint) := goodIn_app (goodIn_of _ (by decide +kernel)) ggX9_areTwo_X9_isPoint
theorem dX9_areTwo_0 : decode cX9_areTwo 0 = .ok (.aload_n 0, 1) := by decide +kernel
theorem dX9_areTwo_1 : decode cX9_areTwo 1 = .ok (.iload_n 1, 1) := by decide +kernel
theorem dX9_areTwo_2 : decode cX9_areTwo 2 = .ok (.invokevirtual 99, 3) := by decide +kernel
theorem dX9_areTwo_5 : decode cX9_areTwo 5 = .ok (.ifCond .eq 20, 3) := by decide +kernel
theorem dX9_areTwo_8 : decode cX9_areTwo 8 = .ok (.aload_n 0, 1) := by decide +kernel
theorem dX9_areTwo_9 : decode cX9_areTwo 9 = .ok (.iload_n 2, 1) := by decide +kernel
theorem dX9_areTwo_10 : decode cX9_areTwo 10 = .ok (.invokevirtual 99, 3) := by decide +kernel
theorem dX9_areTwo_13 : decode cX9_areTwo 13 = .ok (.ifCond .eq 12, 3) := by decide +kernel
theorem dX9_areTwo_16 : decode cX9_areTwo 16 = .ok (.iload_n 1, 1) := by decide +kernel
theorem dX9_areTwo_17 : decode cX9_areTwo 17 = .ok (.iload_n 2, 1) := by decide +kernel
theorem dX9_areTwo_18 : decode cX9_areTwo 18 = .ok (.if_icmp .eq 7, 3) := by decide +kernel
theorem dX9_areTwo_21 : decode cX9_areTwo 21 = .ok (.iconst 1, 1) := by decide +kernel
theorem dX9_areTwo_22 : decode cX9_areTwo 22 = .ok (.goto 4, 3) := by decide +kernel
theorem dX9_areTwo_25 : decode cX9_areTwo 25 = .ok (.iconst 0, 1) := by decide +kernel
theorem dX9_areTwo_26 : decode cX9_areTwo 26 = .ok (.ireturn, 1) := by decide +kernel
theorem dX9_d_0 : decode cX9_d 0 = .ok (.aload_n 0, 1) := by decide +kernel
theorem dX9_d_1 : decode cX9_d 1 = .ok (.getfield 15, 3) := by decide +kernel
theorem dX9_d_4 : decode cX9_d 4 = .ok (.iconst 5, 1) := by decide +kernel
theorem dX9_d_5 : decode cX9_d 5 = .ok (.iload_n 1, 1) := by decide +kernel
theorem dX9_d_6 : decode cX9_d 6 = .ok (.imul, 1) := by decide +kernel
theorem dX9_d_7 : decode cX9_d 7 = .ok (.iload_n 2, 1) := by decide +kernel
theorem dX9_d_8 : decode cX9_d 8 = .ok (.iadd, 1) := by decide +kernel
theorem dX9_d_9 : decode cX9_d 9 = .ok (.iaload, 1) := by decide +kernel
theorem dX9_d_10 : decode cX9_d 10 = .ok (.ireturn, 1) := by decide +kernel
theorem dX9_lays_0 : decode cX9_lays 0 = .ok (.aload_n 0, 1) := by decide +kernel
theorem dX9_lays_1 : decode cX9_lays 1 = .ok (.getfield 15, 3) := by decide +kernel
theorem dX9_lays_4 : decode cX9_lays 4 = .ok (.iconst 5, 1) := by decide +kernel
theorem dX9_lays_5 : decode cX9_lays 5 = .ok (.iload_n 1, 1) := by decide +kernel
theorem dX9_lays_6 : decode cX9_lays 6 = .ok (.imul, 1) := by decide +kernel
theorem dX9_lays_7 : decode cX9_lays 7 = .ok (.iload_n 2, 1) := by decide +kernel
theorem dX9_lays_8 : decode cX9_lays 8 = .ok (.iadd, 1) := by decide +kernel
theorem dX9_lays_9 : decode cX9_lays 9 = .ok (.iload_n 3, 1) := by decide +kernel
theorem dX9_lays_10 : decode cX9_lays 10 = .ok (.iastore, 1) := by decide +kernel
theorem dX9_lays_11 : decode cX9_lays 11 = .ok (.aload_n 0, 1) := by decide +kernel
theorem dX9_lays_12 : decode cX9_lays 12 = .ok (.getfield 15, 3) := by decide +kernel
theorem dX9_lays_15 : decode cX9_lays 15 = .ok (.iconst 5, 1) := by decide +kernel
theorem dX9_lays_16 : decode cX9_lays 16 = .ok (.iload_n 2, 1) := by decide +kernel
theorem dX9_lays_17 : decode cX9_lays 17 = .ok (.imul, 1) := by decide +kernel
theorem dX9_lays_18 : decode cX9_lays 18 = .ok (.iload_n 1, 1) := by decide +kernel
theorem dX9_lays_19 : decode cX9_lays 19 = .ok (.iadd, 1) := by decide +kernel
theorem dX9_lays_20 : decode cX9_lays 20 = .ok (.iload_n 3, 1) := by decide +kernel
theorem dX9_lays_21 : decode cX9_lays 21 = .ok (.iastore, 1) := by decide +kernel
theorem dX9_lays_22 : decode cX9_lays 22 = .ok (.return_, 1) := by decide +kernel
set_option maxRecDepth 20000 in
theorem ggX9_points_X9_in : GoodIn wsX9_points wsX9_in := goodIn_r _ [7] (by decide +kernel) (by decide +kernel)
set_option maxRecDepth 20000 in
theorem gX9_points_X9_in : GoodIn wsX9_points (va_wsS RX9 95 yX9_in wsX9_in) := goodIn_app (goodIn_of _ (by decide +kernel)) ggX9_points_X9_in
set_option maxRecDepth 20000 in
theorem ggX9_points_X9_lays : GoodIn wsX9_points wsX9_lays := goodIn_r _ [11, 12, 13, 14, 15, 16, 17, 18, 19, 20, 21, 22, 23, 24, 25, 26, 27, 28, 29, 30, 31, 32, 33, 34, 35, 36, 37, 38, 39, 40, 41, 42, 43, 44, 45, 46, 47] (by decide +kernel) (by decide +kernel)
set_option maxRecDepth 20000 in
theorem gX9_points_X9_lays : GoodIn wsX9_points (wsV RX9 103 RX9 yX9_lays wsX9_lays) := goodIn_app (goodIn_of _ (by decide +kernel)) ggX9_points_X9_lays
theorem dX9_points_0 : decode cX9_points 0 = .ok (.iload_n 1, 1) := by decide +kernel
theorem dX9_points_1 : decode cX9_points 1 = .ok (.iconst 3, 1) := by decide +kernel
theorem dX9_points_2 : decode cX9_points 2 = .ok (.iconst 5, 1) := by decide +kernel
theorem dX9_points_3 : decode cX9_points 3 = .ok (.invokestatic 95, 3) := by decide +kernel
theorem dX9_points_6 : decode cX9_points 6 = .ok (.ifCond .ne 6, 3) := by decide +kernel
theorem dX9_points_9 : decode cX9_points 9 = .ok (.bipush (-2), 2) := by decide +kernel
theorem dX9_points_11 : decode cX9_points 11 = .ok (.ireturn, 1) := by decide +kernel
theorem dX9_points_12 : decode cX9_points 12 = .ok (.aload_n 0, 1) := by decide +kernel
theorem dX9_points_13 : decode cX9_points 13 = .ok (.getfield 9, 3) := by decide +kernel
theorem dX9_points_16 : decode cX9_points 16 = .ok (.istore_n 2, 1) := by decide +kernel
theorem dX9_points_17 : decode cX9_points 17 = .ok (.aload_n 0, 1) := by decide +kernel
theorem dX9_points_18 : decode cX9_points 18 = .ok (.iload_n 1, 1) := by decide +kernel
theorem dX9_points_19 : decode cX9_points 19 = .ok (.putfield 9, 3) := by decide +kernel
theorem dX9_points_22 : decode cX9_points 22 = .ok (.iconst 0, 1) := by decide +kernel
theorem dX9_points_23 : decode cX9_points 23 = .ok (.istore_n 3, 1) := by decide +kernel
theorem dX9_points_24 : decode cX9_points 24 = .ok (.iload_n 3, 1) := by decide +kernel
theorem dX9_points_25 : decode cX9_points 25 = .ok (.iconst 5, 1) := by decide +kernel
theorem dX9_points_26 : decode cX9_points 26 = .ok (.if_icmp .ge 46, 3) := by decide +kernel
theorem dX9_points_29 : decode cX9_points 29 = .ok (.aload_n 0, 1) := by decide +kernel
theorem dX9_points_30 : decode cX9_points 30 = .ok (.getfield 19, 3) := by decide +kernel
theorem dX9_points_33 : decode cX9_points 33 = .ok (.iload_n 3, 1) := by decide +kernel
theorem dX9_points_34 : decode cX9_points 34 = .ok (.iconst 0, 1) := by decide +kernel
theorem dX9_points_35 : decode cX9_points 35 = .ok (.iastore, 1) := by decide +kernel
theorem dX9_points_36 : decode cX9_points 36 = .ok (.aload_n 0, 1) := by decide +kernel
theorem dX9_points_37 : decode cX9_points 37 = .ok (.getfield 22, 3) := by decide +kernel
theorem dX9_points_40 : decode cX9_points 40 = .ok (.iload_n 3, 1) := by decide +kernel
theorem dX9_points_41 : decode cX9_points 41 = .ok (.iload_n 3, 1) := by decide +kernel
theorem dX9_points_42 : decode cX9_points 42 = .ok (.iastore, 1) := by decide +kernel
theorem dX9_points_43 : decode cX9_points 43 = .ok (.iconst 0, 1) := by decide +kernel
theorem dX9_points_44 : decode cX9_points 44 = .ok (.istore 4, 2) := by decide +kernel
theorem dX9_points_46 : decode cX9_points 46 = .ok (.iload 4, 2) := by decide +kernel
theorem dX9_points_48 : decode cX9_points 48 = .ok (.iload_n 3, 1) := by decide +kernel
theorem dX9_points_49 : decode cX9_points 49 = .ok (.if_icmp .ge 17, 3) := by decide +kernel
theorem dX9_points_52 : decode cX9_points 52 = .ok (.aload_n 0, 1) := by decide +kernel
theorem dX9_points_53 : decode cX9_points 53 = .ok (.iload_n 3, 1) := by decide +kernel
theorem dX9_points_54 : decode cX9_points 54 = .ok (.iload 4, 2) := by decide +kernel
theorem dX9_points_56 : decode cX9_points 56 = .ok (.iconst 2, 1) := by decide +kernel
theorem dX9_points_57 : decode cX9_points 57 = .ok (.invokevirtual 103, 3) := by decide +kernel
theorem dX9_points_60 : decode cX9_points 60 = .ok (.iinc 4 1, 3) := by decide +kernel
theorem dX9_points_63 : decode cX9_points 63 = .ok (.goto (-17), 3) := by decide +kernel
theorem dX9_points_66 : decode cX9_points 66 = .ok (.iinc 3 1, 3) := by decide +kernel
theorem dX9_points_69 : decode cX9_points 69 = .ok (.goto (-45), 3) := by decide +kernel
theorem dX9_points_72 : decode cX9_points 72 = .ok (.iload_n 2, 1) := by decide +kernel
theorem dX9_points_73 : decode cX9_points 73 = .ok (.ireturn, 1) := by decide +kernel
set_option maxRecDepth 20000 in
theorem ggX9_set_X9_areTwo : GoodIn wsX9_set wsX9_areTwo := goodIn_r _ [5, 6, 7, 8, 4, 9, 10, 11, 12, 13, 23, 24, 25, 26, 27, 28, 29, 30, 31, 32, 33, 34, 35, 36, 37, 38, 39, 40, 41, 42, 43, 44, 45, 46, 47, 48, 49, 50, 51, 52, 53, 54, 55, 56, 57] (by decide +kernel) (by decide +kernel)
set_option maxRecDepth 20000 in
theorem gX9_set_X9_areTwo : GoodIn wsX9_set (wsV RX9 107 RX9 yX9_areTwo wsX9_areTwo) := goodIn_app (goodIn_of _ (by decide +kernel)) ggX9_set_X9_areTwo
set_option maxRecDepth 20000 in
theorem ggX9_set_X9_in : GoodIn wsX9_set wsX9_in := goodIn_r _ [13] (by decide +kernel) (by decide +kernel)
set_option maxRecDepth 20000 in
theorem gX9_set_X9_in : GoodIn wsX9_set (va_wsS RX9 95 yX9_in wsX9_in) := goodIn_app (goodIn_of _ (by decide +kernel)) ggX9_set_X9_in
set_option maxRecDepth 20000 in
theorem ggX9_set_X9_d : GoodIn wsX9_set wsX9_d := goodIn_r _ [17, 18, 23, 24, 25, 26, 27, 28, 29, 30, 31, 32, 33, 34, 35, 36, 37, 38, 39, 40, 41, 42, 43, 44, 45, 46, 47, 48, 49, 50, 51, 52, 53, 54, 55, 56, 57] (by decide +kernel) (by decide +kernel)
set_option maxRecDepth 20000 in
theorem gX9_set_X9_d : GoodIn wsX9_set (wsV RX9 111 RX9 yX9_d wsX9_d) := goodIn_app (goodIn_of _ (by decide +kernel)) ggX9_set_X9_d
set_option maxRecDepth 20000 in
theorem ggX9_set_X9_lays : GoodIn wsX9_set wsX9_lays := goodIn_r _ [22, 18, 23, 24, 25, 26, 27, 28, 29, 30, 31, 32, 33, 34, 35, 36, 37, 38, 39, 40, 41, 42, 43, 44, 45, 46, 47, 48, 49, 50, 51, 52, 53, 54, 55, 56, 57] (by decide +kernel) (by decide +kernel)
set_option maxRecDepth 20000 in
theorem gX9_set_X9_lays : GoodIn wsX9_set (wsV RX9 103 RX9 yX9_lays wsX9_lays) := goodIn_app (goodIn_of _ (by decide +kernel)) ggX9_set_X9_lays
theorem dX9_set_0 : decode cX9_set 0 = .ok (.aload_n 0, 1) := by decide +kernel
theorem dX9_set_1 : decode cX9_set 1 = .ok (.iload_n 1, 1) := by decide +kernel
theorem dX9_set_2 : decode cX9_set 2 = .ok (.iload_n 2, 1) := by decide +kernel
theorem dX9_set_3 : decode cX9_set 3 = .ok (.invokevirtual 107, 3) := by decide +kernel
theorem dX9_set_6 : decode cX9_set 6 = .ok (.ifCond .ne 5, 3) := by decide +kernel
theorem dX9_set_9 : decode cX9_set 9 = .ok (.iconst (-1), 1) := by decide +kernel
theorem dX9_set_10 : decode cX9_set 10 = .ok (.ireturn, 1) := by decide +kernel
theorem dX9_set_11 : decode cX9_set 11 = .ok (.iload_n 3, 1) := by decide +kernel
theorem dX9_set_12 : decode cX9_set 12 = .ok (.iconst 0, 1) := by decide +kernel
theorem dX9_set_13 : decode cX9_set 13 = .ok (.bipush 40, 2) := by decide +kernel
theorem dX9_set_15 : decode cX9_set 15 = .ok (.invokestatic 95, 3) := by decide +kernel
theorem dX9_set_18 : decode cX9_set 18 = .ok (.ifCond .ne 6, 3) := by decide +kernel
theorem dX9_set_21 : decode cX9_set 21 = .ok (.bipush (-2), 2) := by decide +kernel
theorem dX9_set_23 : decode cX9_set 23 = .ok (.ireturn, 1) := by decide +kernel
theorem dX9_set_24 : decode cX9_set 24 = .ok (.aload_n 0, 1) := by decide +kernel
theorem dX9_set_25 : decode cX9_set 25 = .ok (.iload_n 1, 1) := by decide +kernel
theorem dX9_set_26 : decode cX9_set 26 = .ok (.iload_n 2, 1) := by decide +kernel
theorem dX9_set_27 : decode cX9_set 27 = .ok (.invokevirtual 111, 3) := by decide +kernel
theorem dX9_set_30 : decode cX9_set 30 = .ok (.istore 4, 2) := by decide +kernel
theorem dX9_set_32 : decode cX9_set 32 = .ok (.aload_n 0, 1) := by decide +kernel
theorem dX9_set_33 : decode cX9_set 33 = .ok (.iload_n 1, 1) := by decide +kernel
theorem dX9_set_34 : decode cX9_set 34 = .ok (.iload_n 2, 1) := by decide +kernel
theorem dX9_set_35 : decode cX9_set 35 = .ok (.iload_n 3, 1) := by decide +kernel
theorem dX9_set_36 : decode cX9_set 36 = .ok (.invokevirtual 103, 3) := by decide +kernel
theorem dX9_set_39 : decode cX9_set 39 = .ok (.iload 4, 2) := by decide +kernel
theorem dX9_set_41 : decode cX9_set 41 = .ok (.ireturn, 1) := by decide +kernel
set_option maxRecDepth 20000 in
theorem ggX9_shortens_X9_d : GoodIn wsX9_shortens wsX9_d := goodIn_r _ [11, 12, 17, 18, 19, 20, 21, 22, 23, 24, 25, 26, 27, 28, 29, 30, 31, 32, 33, 34, 35, 36, 37, 38, 39, 40, 41, 42, 43, 44, 45, 46, 47, 48, 49, 50, 51] (by decide +kernel) (by decide +kernel)
set_option maxRecDepth 20000 in
theorem gX9_shortens_X9_d : GoodIn wsX9_shortens (wsV RX9 111 RX9 yX9_d wsX9_d) := goodIn_app (goodIn_of _ (by decide +kernel)) ggX9_shortens_X9_d
set_option maxRecDepth 20000 in
theorem ggX9_shortens_X9_lays : GoodIn wsX9_shortens wsX9_lays := goodIn_r _ [16, 12, 17, 18, 19, 20, 21, 22, 23, 24, 25, 26, 27, 28, 29, 30, 31, 32, 33, 34, 35, 36, 37, 38, 39, 40, 41, 42, 43, 44, 45, 46, 47, 48, 49, 50, 51] (by decide +kernel) (by decide +kernel)
set_option maxRecDepth 20000 in
theorem gX9_shortens_X9_lays : GoodIn wsX9_shortens (wsV RX9 103 RX9 yX9_lays wsX9_lays) := goodIn_app (goodIn_of _ (by decide +kernel)) ggX9_shortens_X9_lays
theorem dX9_shortens_0 : decode cX9_shortens 0 = .ok (.iconst 0, 1) := by decide +kernel
theorem dX9_shortens_1 : decode cX9_shortens 1 = .ok (.istore_n 1, 1) := by decide +kernel
theorem dX9_shortens_2 : decode cX9_shortens 2 = .ok (.iconst 0, 1) := by decide +kernel
theorem dX9_shortens_3 : decode cX9_shortens 3 = .ok (.istore_n 2, 1) := by decide +kernel
theorem dX9_shortens_4 : decode cX9_shortens 4 = .ok (.iload_n 2, 1) := by decide +kernel
theorem dX9_shortens_5 : decode cX9_shortens 5 = .ok (.aload_n 0, 1) := by decide +kernel
theorem dX9_shortens_6 : decode cX9_shortens 6 = .ok (.getfield 9, 3) := by decide +kernel
theorem dX9_shortens_9 : decode cX9_shortens 9 = .ok (.if_icmp .ge 38, 3) := by decide +kernel
theorem dX9_shortens_12 : decode cX9_shortens 12 = .ok (.iconst 0, 1) := by decide +kernel
theorem dX9_shortens_13 : decode cX9_shortens 13 = .ok (.istore_n 3, 1) := by decide +kernel
theorem dX9_shortens_14 : decode cX9_shortens 14 = .ok (.iload_n 3, 1) := by decide +kernel
theorem dX9_shortens_15 : decode cX9_shortens 15 = .ok (.iload_n 2, 1) := by decide +kernel
theorem dX9_shortens_16 : decode cX9_shortens 16 = .ok (.if_icmp .ge 25, 3) := by decide +kernel
theorem dX9_shortens_19 : decode cX9_shortens 19 = .ok (.aload_n 0, 1) := by decide +kernel
theorem dX9_shortens_20 : decode cX9_shortens 20 = .ok (.getfield 62, 3) := by decide +kernel
theorem dX9_shortens_23 : decode cX9_shortens 23 = .ok (.iconst 5, 1) := by decide +kernel
theorem dX9_shortens_24 : decode cX9_shortens 24 = .ok (.iload_n 2, 1) := by decide +kernel
theorem dX9_shortens_25 : decode cX9_shortens 25 = .ok (.imul, 1) := by decide +kernel
theorem dX9_shortens_26 : decode cX9_shortens 26 = .ok (.iload_n 3, 1) := by decide +kernel
theorem dX9_shortens_27 : decode cX9_shortens 27 = .ok (.iadd, 1) := by decide +kernel
theorem dX9_shortens_28 : decode cX9_shortens 28 = .ok (.aload_n 0, 1) := by decide +kernel
theorem dX9_shortens_29 : decode cX9_shortens 29 = .ok (.iload_n 2, 1) := by decide +kernel
theorem dX9_shortens_30 : decode cX9_shortens 30 = .ok (.iload_n 3, 1) := by decide +kernel
theorem dX9_shortens_31 : decode cX9_shortens 31 = .ok (.invokevirtual 111, 3) := by decide +kernel
theorem dX9_shortens_34 : decode cX9_shortens 34 = .ok (.iastore, 1) := by decide +kernel
theorem dX9_shortens_35 : decode cX9_shortens 35 = .ok (.iinc 3 1, 3) := by decide +kernel
theorem dX9_shortens_38 : decode cX9_shortens 38 = .ok (.goto (-24), 3) := by decide +kernel
theorem dX9_shortens_41 : decode cX9_shortens 41 = .ok (.iinc 2 1, 3) := by decide +kernel
theorem dX9_shortens_44 : decode cX9_shortens 44 = .ok (.goto (-40), 3) := by decide +kernel
theorem dX9_shortens_47 : decode cX9_shortens 47 = .ok (.iconst 0, 1) := by decide +kernel
theorem dX9_shortens_48 : decode cX9_shortens 48 = .ok (.istore_n 2, 1) := by decide +kernel
theorem dX9_shortens_49 : decode cX9_shortens 49 = .ok (.iload_n 2, 1) := by decide +kernel
theorem dX9_shortens_50 : decode cX9_shortens 50 = .ok (.aload_n 0, 1) := by decide +kernel
theorem dX9_shortens_51 : decode cX9_shortens 51 = .ok (.getfield 9, 3) := by decide +kernel
theorem dX9_shortens_54 : decode cX9_shortens 54 = .ok (.if_icmp .ge 71, 3) := by decide +kernel
theorem dX9_shortens_57 : decode cX9_shortens 57 = .ok (.iconst 0, 1) := by decide +kernel
theorem dX9_shortens_58 : decode cX9_shortens 58 = .ok (.istore_n 3, 1) := by decide +kernel
theorem dX9_shortens_59 : decode cX9_shortens 59 = .ok (.iload_n 3, 1) := by decide +kernel
theorem dX9_shortens_60 : decode cX9_shortens 60 = .ok (.aload_n 0, 1) := by decide +kernel
theorem dX9_shortens_61 : decode cX9_shortens 61 = .ok (.getfield 9, 3) := by decide +kernel
theorem dX9_shortens_64 : decode cX9_shortens 64 = .ok (.if_icmp .ge 55, 3) := by decide +kernel
theorem dX9_shortens_67 : decode cX9_shortens 67 = .ok (.iconst 0, 1) := by decide +kernel
theorem dX9_shortens_68 : decode cX9_shortens 68 = .ok (.istore 4, 2) := by decide +kernel
theorem dX9_shortens_70 : decode cX9_shortens 70 = .ok (.iload 4, 2) := by decide +kernel
theorem dX9_shortens_72 : decode cX9_shortens 72 = .ok (.iload_n 3, 1) := by decide +kernel
theorem dX9_shortens_73 : decode cX9_shortens 73 = .ok (.if_icmp .ge 40, 3) := by decide +kernel
theorem dX9_shortens_76 : decode cX9_shortens 76 = .ok (.aload_n 0, 1) := by decide +kernel
theorem dX9_shortens_77 : decode cX9_shortens 77 = .ok (.iload_n 3, 1) := by decide +kernel
theorem dX9_shortens_78 : decode cX9_shortens 78 = .ok (.iload 4, 2) := by decide +kernel
theorem dX9_shortens_80 : decode cX9_shortens 80 = .ok (.aload_n 0, 1) := by decide +kernel
theorem dX9_shortens_81 : decode cX9_shortens 81 = .ok (.iload_n 3, 1) := by decide +kernel
theorem dX9_shortens_82 : decode cX9_shortens 82 = .ok (.iload 4, 2) := by decide +kernel
theorem dX9_shortens_84 : decode cX9_shortens 84 = .ok (.invokevirtual 111, 3) := by decide +kernel
theorem dX9_shortens_87 : decode cX9_shortens 87 = .ok (.aload_n 0, 1) := by decide +kernel
theorem dX9_shortens_88 : decode cX9_shortens 88 = .ok (.iload_n 3, 1) := by decide +kernel
theorem dX9_shortens_89 : decode cX9_shortens 89 = .ok (.iload_n 2, 1) := by decide +kernel
theorem dX9_shortens_90 : decode cX9_shortens 90 = .ok (.invokevirtual 111, 3) := by decide +kernel
theorem dX9_shortens_93 : decode cX9_shortens 93 = .ok (.aload_n 0, 1) := by decide +kernel
theorem dX9_shortens_94 : decode cX9_shortens 94 = .ok (.iload_n 2, 1) := by decide +kernel
theorem dX9_shortens_95 : decode cX9_shortens 95 = .ok (.iload 4, 2) := by decide +kernel
theorem dX9_shortens_97 : decode cX9_shortens 97 = .ok (.invokevirtual 111, 3) := by decide +kernel
theorem dX9_shortens_100 : decode cX9_shortens 100 = .ok (.iadd, 1) := by decide +kernel
theorem dX9_shortens_101 : decode cX9_shortens 101 = .ok (.invokestatic 115, 3) := by decide +kernel
theorem dX9_shortens_104 : decode cX9_shortens 104 = .ok (.invokevirtual 103, 3) := by decide +kernel
theorem dX9_shortens_107 : decode cX9_shortens 107 = .ok (.iinc 4 1, 3) := by decide +kernel
theorem dX9_shortens_110 : decode cX9_shortens 110 = .ok (.goto (-40), 3) := by decide +kernel
theorem dX9_shortens_113 : decode cX9_shortens 113 = .ok (.iinc 3 1, 3) := by decide +kernel
theorem dX9_shortens_116 : decode cX9_shortens 116 = .ok (.goto (-57), 3) := by decide +kernel
theorem dX9_shortens_119 : decode cX9_shortens 119 = .ok (.iinc 2 1, 3) := by decide +kernel
theorem dX9_shortens_122 : decode cX9_shortens 122 = .ok (.goto (-73), 3) := by decide +kernel
theorem dX9_shortens_125 : decode cX9_shortens 125 = .ok (.iconst 0, 1) := by decide +kernel
theorem dX9_shortens_126 : decode cX9_shortens 126 = .ok (.istore_n 2, 1) := by decide +kernel
theorem dX9_shortens_127 : decode cX9_shortens 127 = .ok (.iload_n 2, 1) := by decide +kernel
theorem dX9_shortens_128 : decode cX9_shortens 128 = .ok (.aload_n 0, 1) := by decide +kernel
theorem dX9_shortens_129 : decode cX9_shortens 129 = .ok (.getfield 9, 3) := by decide +kernel
theorem dX9_shortens_132 : decode cX9_shortens 132 = .ok (.if_icmp .ge 49, 3) := by decide +kernel
theorem dX9_shortens_135 : decode cX9_shortens 135 = .ok (.iconst 0, 1) := by decide +kernel
theorem dX9_shortens_136 : decode cX9_shortens 136 = .ok (.istore_n 3, 1) := by decide +kernel
theorem dX9_shortens_137 : decode cX9_shortens 137 = .ok (.iload_n 3, 1) := by decide +kernel
theorem dX9_shortens_138 : decode cX9_shortens 138 = .ok (.iload_n 2, 1) := by decide +kernel
theorem dX9_shortens_139 : decode cX9_shortens 139 = .ok (.if_icmp .ge 36, 3) := by decide +kernel
theorem dX9_shortens_142 : decode cX9_shortens 142 = .ok (.iload_n 1, 1) := by decide +kernel
theorem dX9_shortens_143 : decode cX9_shortens 143 = .ok (.aload_n 0, 1) := by decide +kernel
theorem dX9_shortens_144 : decode cX9_shortens 144 = .ok (.getfield 62, 3) := by decide +kernel
theorem dX9_shortens_147 : decode cX9_shortens 147 = .ok (.iconst 5, 1) := by decide +kernel
theorem dX9_shortens_148 : decode cX9_shortens 148 = .ok (.iload_n 2, 1) := by decide +kernel
theorem dX9_shortens_149 : decode cX9_shortens 149 = .ok (.imul, 1) := by decide +kernel
theorem dX9_shortens_150 : decode cX9_shortens 150 = .ok (.iload_n 3, 1) := by decide +kernel
theorem dX9_shortens_151 : decode cX9_shortens 151 = .ok (.iadd, 1) := by decide +kernel
theorem dX9_shortens_152 : decode cX9_shortens 152 = .ok (.iaload, 1) := by decide +kernel
theorem dX9_shortens_153 : decode cX9_shortens 153 = .ok (.aload_n 0, 1) := by decide +kernel
theorem dX9_shortens_154 : decode cX9_shortens 154 = .ok (.iload_n 2, 1) := by decide +kernel
theorem dX9_shortens_155 : decode cX9_shortens 155 = .ok (.iload_n 3, 1) := by decide +kernel
theorem dX9_shortens_156 : decode cX9_shortens 156 = .ok (.invokevirtual 111, 3) := by decide +kernel
theorem dX9_shortens_159 : decode cX9_shortens 159 = .ok (.if_icmp .eq 7, 3) := by decide +kernel
theorem dX9_shortens_162 : decode cX9_shortens 162 = .ok (.iconst 1, 1) := by decide +kernel
theorem dX9_shortens_163 : decode cX9_shortens 163 = .ok (.goto 4, 3) := by decide +kernel
theorem dX9_shortens_166 : decode cX9_shortens 166 = .ok (.iconst 0, 1) := by decide +kernel
theorem dX9_shortens_167 : decode cX9_shortens 167 = .ok (.iadd, 1) := by decide +kernel
theorem dX9_shortens_168 : decode cX9_shortens 168 = .ok (.istore_n 1, 1) := by decide +kernel
theorem dX9_shortens_169 : decode cX9_shortens 169 = .ok (.iinc 3 1, 3) := by decide +kernel
theorem dX9_shortens_172 : decode cX9_shortens 172 = .ok (.goto (-35), 3) := by decide +kernel
theorem dX9_shortens_175 : decode cX9_shortens 175 = .ok (.iinc 2 1, 3) := by decide +kernel
theorem dX9_shortens_178 : decode cX9_shortens 178 = .ok (.goto (-51), 3) := by decide +kernel
theorem dX9_shortens_181 : decode cX9_shortens 181 = .ok (.iload_n 1, 1) := by decide +kernel
theorem dX9_shortens_182 : decode cX9_shortens 182 = .ok (.ireturn, 1) := by decide +kernel
theorem dX9_laysAside_0 : decode cX9_laysAside 0 = .ok (.iconst 0, 1) := by decide +kernel
theorem dX9_laysAside_1 : decode cX9_laysAside 1 = .ok (.istore_n 1, 1) := by decide +kernel
theorem dX9_laysAside_2 : decode cX9_laysAside 2 = .ok (.iload_n 1, 1) := by decide +kernel
theorem dX9_laysAside_3 : decode cX9_laysAside 3 = .ok (.bipush 25, 2) := by decide +kernel
theorem dX9_laysAside_5 : decode cX9_laysAside 5 = .ok (.if_icmp .ge 21, 3) := by decide +kernel
theorem dX9_laysAside_8 : decode cX9_laysAside 8 = .ok (.aload_n 0, 1) := by decide +kernel
theorem dX9_laysAside_9 : decode cX9_laysAside 9 = .ok (.getfield 65, 3) := by decide +kernel
theorem dX9_laysAside_12 : decode cX9_laysAside 12 = .ok (.iload_n 1, 1) := by decide +kernel
theorem dX9_laysAside_13 : decode cX9_laysAside 13 = .ok (.aload_n 0, 1) := by decide +kernel
theorem dX9_laysAside_14 : decode cX9_laysAside 14 = .ok (.getfield 15, 3) := by decide +kernel
theorem dX9_laysAside_17 : decode cX9_laysAside 17 = .ok (.iload_n 1, 1) := by decide +kernel
theorem dX9_laysAside_18 : decode cX9_laysAside 18 = .ok (.iaload, 1) := by decide +kernel
theorem dX9_laysAside_19 : decode cX9_laysAside 19 = .ok (.iastore, 1) := by decide +kernel
theorem dX9_laysAside_20 : decode cX9_laysAside 20 = .ok (.iinc 1 1, 3) := by decide +kernel
theorem dX9_laysAside_23 : decode cX9_laysAside 23 = .ok (.goto (-21), 3) := by decide +kernel
theorem dX9_laysAside_26 : decode cX9_laysAside 26 = .ok (.return_, 1) := by decide +kernel
theorem dX9_laysBack_0 : decode cX9_laysBack 0 = .ok (.iconst 0, 1) := by decide +kernel
theorem dX9_laysBack_1 : decode cX9_laysBack 1 = .ok (.istore_n 1, 1) := by decide +kernel
theorem dX9_laysBack_2 : decode cX9_laysBack 2 = .ok (.iload_n 1, 1) := by decide +kernel
theorem dX9_laysBack_3 : decode cX9_laysBack 3 = .ok (.bipush 25, 2) := by decide +kernel
theorem dX9_laysBack_5 : decode cX9_laysBack 5 = .ok (.if_icmp .ge 21, 3) := by decide +kernel
theorem dX9_laysBack_8 : decode cX9_laysBack 8 = .ok (.aload_n 0, 1) := by decide +kernel
theorem dX9_laysBack_9 : decode cX9_laysBack 9 = .ok (.getfield 15, 3) := by decide +kernel
theorem dX9_laysBack_12 : decode cX9_laysBack 12 = .ok (.iload_n 1, 1) := by decide +kernel
theorem dX9_laysBack_13 : decode cX9_laysBack 13 = .ok (.aload_n 0, 1) := by decide +kernel
theorem dX9_laysBack_14 : decode cX9_laysBack 14 = .ok (.getfield 65, 3) := by decide +kernel
theorem dX9_laysBack_17 : decode cX9_laysBack 17 = .ok (.iload_n 1, 1) := by decide +kernel
theorem dX9_laysBack_18 : decode cX9_laysBack 18 = .ok (.iaload, 1) := by decide +kernel
theorem dX9_laysBack_19 : decode cX9_laysBack 19 = .ok (.iastore, 1) := by decide +kernel
theorem dX9_laysBack_20 : decode cX9_laysBack 20 = .ok (.iinc 1 1, 3) := by decide +kernel
theorem dX9_laysBack_23 : decode cX9_laysBack 23 = .ok (.goto (-21), 3) := by decide +kernel
theorem dX9_laysBack_26 : decode cX9_laysBack 26 = .ok (.return_, 1) := by decide +kernel
set_option maxRecDepth 20000 in
theorem ggX9_shorten_X9_shortens : GoodIn wsX9_shorten wsX9_shortens := goodIn_r _ [5, 6, 7, 8, 9, 10, 11, 12, 13, 14, 4, 15, 16, 17, 18, 19, 20, 21, 22, 23, 24, 25, 26, 27, 28, 29, 30, 31, 32, 33, 34, 35, 36, 37, 38, 39, 40, 41, 42, 43, 44, 45, 46, 47, 48, 49, 50, 51, 52, 53, 54, 55] (by decide +kernel) (by decide +kernel)
set_option maxRecDepth 20000 in
theorem gX9_shorten_X9_shortens : GoodIn wsX9_shorten (wsV RX9 120 RX9 yX9_shortens wsX9_shortens) := goodIn_app (goodIn_of _ (by decide +kernel)) ggX9_shorten_X9_shortens
theorem dX9_shorten_0 : decode cX9_shorten 0 = .ok (.aload_n 0, 1) := by decide +kernel
theorem dX9_shorten_1 : decode cX9_shorten 1 = .ok (.invokevirtual 120, 3) := by decide +kernel
theorem dX9_shorten_4 : decode cX9_shorten 4 = .ok (.ireturn, 1) := by decide +kernel
set_option maxRecDepth 20000 in
theorem ggX9_function_X9_isPoint : GoodIn wsX9_function wsX9_isPoint := goodIn_r _ [6, 7, 8, 9, 5, 10, 11, 12, 13, 14, 15, 16, 17, 18, 19, 20, 21, 22, 23, 24, 25, 26, 27, 28, 29, 30, 31, 32, 33, 34, 35, 36, 37, 38, 39, 40, 41, 42, 43, 44, 45] (by decide +kernel) (by decide +kernel)
set_option maxRecDepth 20000 in
theorem gX9_function_X9_isPoint : GoodIn wsX9_function (wsV RX9 99 RX9 yX9_isPoint wsX9_isPoint) := goodIn_app (goodIn_of _ (by decide +kernel)) ggX9_function_X9_isPoint
set_option maxRecDepth 20000 in
theorem ggX9_function_X9_in : GoodIn wsX9_function wsX9_in := goodIn_r _ [10] (by decide +kernel) (by decide +kernel)
set_option maxRecDepth 20000 in
theorem gX9_function_X9_in : GoodIn wsX9_function (va_wsS RX9 95 yX9_in wsX9_in) := goodIn_app (goodIn_of _ (by decide +kernel)) ggX9_function_X9_in
theorem dX9_function_0 : decode cX9_function 0 = .ok (.aload_n 0, 1) := by decide +kernel
theorem dX9_function_1 : decode cX9_function 1 = .ok (.iload_n 1, 1) := by decide +kernel
theorem dX9_function_2 : decode cX9_function 2 = .ok (.invokevirtual 99, 3) := by decide +kernel
theorem dX9_function_5 : decode cX9_function 5 = .ok (.ifCond .ne 5, 3) := by decide +kernel
theorem dX9_function_8 : decode cX9_function 8 = .ok (.iconst (-1), 1) := by decide +kernel
theorem dX9_function_9 : decode cX9_function 9 = .ok (.ireturn, 1) := by decide +kernel
theorem dX9_function_10 : decode cX9_function 10 = .ok (.iload_n 2, 1) := by decide +kernel
theorem dX9_function_11 : decode cX9_function 11 = .ok (.iconst 0, 1) := by decide +kernel
theorem dX9_function_12 : decode cX9_function 12 = .ok (.sipush 160, 3) := by decide +kernel
theorem dX9_function_15 : decode cX9_function 15 = .ok (.invokestatic 95, 3) := by decide +kernel
theorem dX9_function_18 : decode cX9_function 18 = .ok (.ifCond .ne 6, 3) := by decide +kernel
theorem dX9_function_21 : decode cX9_function 21 = .ok (.bipush (-2), 2) := by decide +kernel
theorem dX9_function_23 : decode cX9_function 23 = .ok (.ireturn, 1) := by decide +kernel
theorem dX9_function_24 : decode cX9_function 24 = .ok (.aload_n 0, 1) := by decide +kernel
theorem dX9_function_25 : decode cX9_function 25 = .ok (.getfield 19, 3) := by decide +kernel
theorem dX9_function_28 : decode cX9_function 28 = .ok (.iload_n 1, 1) := by decide +kernel
theorem dX9_function_29 : decode cX9_function 29 = .ok (.iaload, 1) := by decide +kernel
theorem dX9_function_30 : decode cX9_function 30 = .ok (.istore_n 3, 1) := by decide +kernel
theorem dX9_function_31 : decode cX9_function 31 = .ok (.aload_n 0, 1) := by decide +kernel
theorem dX9_function_32 : decode cX9_function 32 = .ok (.getfield 19, 3) := by decide +kernel
theorem dX9_function_35 : decode cX9_function 35 = .ok (.iload_n 1, 1) := by decide +kernel
theorem dX9_function_36 : decode cX9_function 36 = .ok (.iload_n 2, 1) := by decide +kernel
theorem dX9_function_37 : decode cX9_function 37 = .ok (.iastore, 1) := by decide +kernel
theorem dX9_function_38 : decode cX9_function 38 = .ok (.iload_n 3, 1) := by decide +kernel
theorem dX9_function_39 : decode cX9_function 39 = .ok (.ireturn, 1) := by decide +kernel
set_option maxRecDepth 20000 in
theorem ggX9_least_X9_in : GoodIn wsX9_least wsX9_in := goodIn_r _ [12] (by decide +kernel) (by decide +kernel)
set_option maxRecDepth 20000 in
theorem gX9_least_X9_in : GoodIn wsX9_least (va_wsS RX9 95 yX9_in wsX9_in) := goodIn_app (goodIn_of _ (by decide +kernel)) ggX9_least_X9_in
set_option maxRecDepth 20000 in
theorem ggX9_least_X9_barred : GoodIn wsX9_least wsX9_barred := goodIn_r _ [16, 2, 17, 18, 19, 11, 20, 21, 48, 49, 50, 51, 52, 53, 54, 55, 56, 57, 58, 59, 60, 61, 62, 63, 64, 65, 66, 67, 68, 69, 70, 71, 72, 73, 74, 75, 76, 77, 78, 79, 80, 81, 82] (by decide +kernel) (by decide +kernel)
set_option maxRecDepth 20000 in
theorem gX9_least_X9_barred : GoodIn wsX9_least (wsV RX9 124 RX9 yX9_barred wsX9_barred) := goodIn_app (goodIn_of _ (by decide +kernel)) ggX9_least_X9_barred
set_option maxRecDepth 20000 in
theorem ggX9_least_X9_layCorners : GoodIn wsX9_least wsX9_layCorners := goodIn_r _ [25, 1, 2, 26, 27, 28, 29, 11, 30, 31, 32, 33, 34, 35, 17, 18, 19, 20, 21, 36, 37, 38, 39, 40, 41, 42, 43, 3, 44, 45, 46, 47, 48, 49, 50, 51, 52, 53, 54, 55, 56, 57, 58, 59, 60, 61, 62, 63, 64, 65, 66, 67, 68, 69, 70, 71, 72, 73, 74, 75, 76, 77, 78, 79, 80, 81, 82] (by decide +kernel) (by decide +kernel)
set_option maxRecDepth 20000 in
theorem gX9_least_X9_layCorners : GoodIn wsX9_least (wsV RX9 127 RX9 yX9_layCorners wsX9_layCorners) := goodIn_app (goodIn_of _ (by decide +kernel)) ggX9_least_X9_layCorners
set_option maxRecDepth 20000 in
theorem ggX9_least_X9_d : GoodIn wsX9_least wsX9_d := goodIn_r _ [20, 21, 48, 49, 50, 51, 52, 53, 54, 55, 56, 57, 58, 59, 60, 61, 62, 63, 64, 65, 66, 67, 68, 69, 70, 71, 72, 73, 74, 75, 76, 77, 78, 79, 80, 81, 82] (by decide +kernel) (by decide +kernel)
set_option maxRecDepth 20000 in
theorem gX9_least_X9_d : GoodIn wsX9_least (wsV RX9 111 RX9 yX9_d wsX9_d) := goodIn_app (goodIn_of _ (by decide +kernel)) ggX9_least_X9_d
theorem dX9_least_0 : decode cX9_least 0 = .ok (.iload_n 1, 1) := by decide +kernel
theorem dX9_least_1 : decode cX9_least 1 = .ok (.iconst 0, 1) := by decide +kernel
theorem dX9_least_2 : decode cX9_least 2 = .ok (.iconst 1, 1) := by decide +kernel
theorem dX9_least_3 : decode cX9_least 3 = .ok (.invokestatic 95, 3) := by decide +kernel
theorem dX9_least_6 : decode cX9_least 6 = .ok (.ifCond .ne 5, 3) := by decide +kernel
theorem dX9_least_9 : decode cX9_least 9 = .ok (.iconst (-1), 1) := by decide +kernel
theorem dX9_least_10 : decode cX9_least 10 = .ok (.ireturn, 1) := by decide +kernel
theorem dX9_least_11 : decode cX9_least 11 = .ok (.iload_n 1, 1) := by decide +kernel
theorem dX9_least_12 : decode cX9_least 12 = .ok (.iconst 1, 1) := by decide +kernel
theorem dX9_least_13 : decode cX9_least 13 = .ok (.if_icmp .ne 33, 3) := by decide +kernel
theorem dX9_least_16 : decode cX9_least 16 = .ok (.aload_n 0, 1) := by decide +kernel
theorem dX9_least_17 : decode cX9_least 17 = .ok (.invokevirtual 124, 3) := by decide +kernel
theorem dX9_least_20 : decode cX9_least 20 = .ok (.ifCond .lt 6, 3) := by decide +kernel
theorem dX9_least_23 : decode cX9_least 23 = .ok (.bipush (-3), 2) := by decide +kernel
theorem dX9_least_25 : decode cX9_least 25 = .ok (.ireturn, 1) := by decide +kernel
theorem dX9_least_26 : decode cX9_least 26 = .ok (.aload_n 0, 1) := by decide +kernel
theorem dX9_least_27 : decode cX9_least 27 = .ok (.invokevirtual 127, 3) := by decide +kernel
theorem dX9_least_30 : decode cX9_least 30 = .ok (.iload_n 2, 1) := by decide +kernel
theorem dX9_least_31 : decode cX9_least 31 = .ok (.iconst 0, 1) := by decide +kernel
theorem dX9_least_32 : decode cX9_least 32 = .ok (.aload_n 0, 1) := by decide +kernel
theorem dX9_least_33 : decode cX9_least 33 = .ok (.getfield 130, 3) := by decide +kernel
theorem dX9_least_36 : decode cX9_least 36 = .ok (.iconst 1, 1) := by decide +kernel
theorem dX9_least_37 : decode cX9_least 37 = .ok (.isub, 1) := by decide +kernel
theorem dX9_least_38 : decode cX9_least 38 = .ok (.invokestatic 95, 3) := by decide +kernel
theorem dX9_least_41 : decode cX9_least 41 = .ok (.ifCond .ne 5, 3) := by decide +kernel
theorem dX9_least_44 : decode cX9_least 44 = .ok (.iconst (-1), 1) := by decide +kernel
theorem dX9_least_45 : decode cX9_least 45 = .ok (.ireturn, 1) := by decide +kernel
theorem dX9_least_46 : decode cX9_least 46 = .ok (.iconst 0, 1) := by decide +kernel
theorem dX9_least_47 : decode cX9_least 47 = .ok (.istore_n 3, 1) := by decide +kernel
theorem dX9_least_48 : decode cX9_least 48 = .ok (.iconst 0, 1) := by decide +kernel
theorem dX9_least_49 : decode cX9_least 49 = .ok (.istore 4, 2) := by decide +kernel
theorem dX9_least_51 : decode cX9_least 51 = .ok (.iload 4, 2) := by decide +kernel
theorem dX9_least_53 : decode cX9_least 53 = .ok (.aload_n 0, 1) := by decide +kernel
theorem dX9_least_54 : decode cX9_least 54 = .ok (.getfield 9, 3) := by decide +kernel
theorem dX9_least_57 : decode cX9_least 57 = .ok (.if_icmp .ge 119, 3) := by decide +kernel
theorem dX9_least_60 : decode cX9_least 60 = .ok (.iload_n 1, 1) := by decide +kernel
theorem dX9_least_61 : decode cX9_least 61 = .ok (.iconst 1, 1) := by decide +kernel
theorem dX9_least_62 : decode cX9_least 62 = .ok (.if_icmp .ne 17, 3) := by decide +kernel
theorem dX9_least_65 : decode cX9_least 65 = .ok (.aload_n 0, 1) := by decide +kernel
theorem dX9_least_66 : decode cX9_least 66 = .ok (.getfield 71, 3) := by decide +kernel
theorem dX9_least_69 : decode cX9_least 69 = .ok (.iconst 5, 1) := by decide +kernel
theorem dX9_least_70 : decode cX9_least 70 = .ok (.iload_n 2, 1) := by decide +kernel
theorem dX9_least_71 : decode cX9_least 71 = .ok (.imul, 1) := by decide +kernel
theorem dX9_least_72 : decode cX9_least 72 = .ok (.iload 4, 2) := by decide +kernel
theorem dX9_least_74 : decode cX9_least 74 = .ok (.iadd, 1) := by decide +kernel
theorem dX9_least_75 : decode cX9_least 75 = .ok (.iaload, 1) := by decide +kernel
theorem dX9_least_76 : decode cX9_least 76 = .ok (.goto 4, 3) := by decide +kernel
theorem dX9_least_79 : decode cX9_least 79 = .ok (.iconst 0, 1) := by decide +kernel
theorem dX9_least_80 : decode cX9_least 80 = .ok (.istore 5, 2) := by decide +kernel
theorem dX9_least_82 : decode cX9_least 82 = .ok (.iconst 0, 1) := by decide +kernel
theorem dX9_least_83 : decode cX9_least 83 = .ok (.istore 6, 2) := by decide +kernel
theorem dX9_least_85 : decode cX9_least 85 = .ok (.iload 6, 2) := by decide +kernel
theorem dX9_least_87 : decode cX9_least 87 = .ok (.aload_n 0, 1) := by decide +kernel
theorem dX9_least_88 : decode cX9_least 88 = .ok (.getfield 9, 3) := by decide +kernel
theorem dX9_least_91 : decode cX9_least 91 = .ok (.if_icmp .ge 50, 3) := by decide +kernel
theorem dX9_least_94 : decode cX9_least 94 = .ok (.iload_n 1, 1) := by decide +kernel
theorem dX9_least_95 : decode cX9_least 95 = .ok (.ifCond .ne 46, 3) := by decide +kernel
theorem dX9_least_98 : decode cX9_least 98 = .ok (.iload 6, 2) := by decide +kernel
theorem dX9_least_100 : decode cX9_least 100 = .ok (.iload 4, 2) := by decide +kernel
theorem dX9_least_102 : decode cX9_least 102 = .ok (.if_icmp .ne 8, 3) := by decide +kernel
theorem dX9_least_105 : decode cX9_least 105 = .ok (.iload 5, 2) := by decide +kernel
theorem dX9_least_107 : decode cX9_least 107 = .ok (.goto 26, 3) := by decide +kernel
theorem dX9_least_110 : decode cX9_least 110 = .ok (.iload 5, 2) := by decide +kernel
theorem dX9_least_112 : decode cX9_least 112 = .ok (.iconst 2, 1) := by decide +kernel
theorem dX9_least_113 : decode cX9_least 113 = .ok (.aload_n 0, 1) := by decide +kernel
theorem dX9_least_114 : decode cX9_least 114 = .ok (.iload 4, 2) := by decide +kernel
theorem dX9_least_116 : decode cX9_least 116 = .ok (.iload 6, 2) := by decide +kernel
theorem dX9_least_118 : decode cX9_least 118 = .ok (.invokevirtual 111, 3) := by decide +kernel
theorem dX9_least_121 : decode cX9_least 121 = .ok (.imul, 1) := by decide +kernel
theorem dX9_least_122 : decode cX9_least 122 = .ok (.aload_n 0, 1) := by decide +kernel
theorem dX9_least_123 : decode cX9_least 123 = .ok (.getfield 19, 3) := by decide +kernel
theorem dX9_least_126 : decode cX9_least 126 = .ok (.iload 6, 2) := by decide +kernel
theorem dX9_least_128 : decode cX9_least 128 = .ok (.iaload, 1) := by decide +kernel
theorem dX9_least_129 : decode cX9_least 129 = .ok (.isub, 1) := by decide +kernel
theorem dX9_least_130 : decode cX9_least 130 = .ok (.invokestatic 133, 3) := by decide +kernel
theorem dX9_least_133 : decode cX9_least 133 = .ok (.istore 5, 2) := by decide +kernel
theorem dX9_least_135 : decode cX9_least 135 = .ok (.iinc 6 1, 3) := by decide +kernel
theorem dX9_least_138 : decode cX9_least 138 = .ok (.goto (-53), 3) := by decide +kernel
theorem dX9_least_141 : decode cX9_least 141 = .ok (.iload_n 3, 1) := by decide +kernel
theorem dX9_least_142 : decode cX9_least 142 = .ok (.iload 5, 2) := by decide +kernel
theorem dX9_least_144 : decode cX9_least 144 = .ok (.aload_n 0, 1) := by decide +kernel
theorem dX9_least_145 : decode cX9_least 145 = .ok (.getfield 19, 3) := by decide +kernel
theorem dX9_least_148 : decode cX9_least 148 = .ok (.iload 4, 2) := by decide +kernel
theorem dX9_least_150 : decode cX9_least 150 = .ok (.iaload, 1) := by decide +kernel
theorem dX9_least_151 : decode cX9_least 151 = .ok (.if_icmp .eq 7, 3) := by decide +kernel
theorem dX9_least_154 : decode cX9_least 154 = .ok (.iconst 1, 1) := by decide +kernel
theorem dX9_least_155 : decode cX9_least 155 = .ok (.goto 4, 3) := by decide +kernel
theorem dX9_least_158 : decode cX9_least 158 = .ok (.iconst 0, 1) := by decide +kernel
theorem dX9_least_159 : decode cX9_least 159 = .ok (.iadd, 1) := by decide +kernel
theorem dX9_least_160 : decode cX9_least 160 = .ok (.istore_n 3, 1) := by decide +kernel
theorem dX9_least_161 : decode cX9_least 161 = .ok (.aload_n 0, 1) := by decide +kernel
theorem dX9_least_162 : decode cX9_least 162 = .ok (.getfield 19, 3) := by decide +kernel
theorem dX9_least_165 : decode cX9_least 165 = .ok (.iload 4, 2) := by decide +kernel
theorem dX9_least_167 : decode cX9_least 167 = .ok (.iload 5, 2) := by decide +kernel
theorem dX9_least_169 : decode cX9_least 169 = .ok (.iastore, 1) := by decide +kernel
theorem dX9_least_170 : decode cX9_least 170 = .ok (.iinc 4 1, 3) := by decide +kernel
theorem dX9_least_173 : decode cX9_least 173 = .ok (.goto (-122), 3) := by decide +kernel
theorem dX9_least_176 : decode cX9_least 176 = .ok (.iload_n 3, 1) := by decide +kernel
theorem dX9_least_177 : decode cX9_least 177 = .ok (.ireturn, 1) := by decide +kernel
set_option maxRecDepth 20000 in
theorem ggX9_map_X9_isPoint : GoodIn wsX9_map wsX9_isPoint := goodIn_r _ [6, 7, 8, 9, 5, 10, 11, 12, 13, 14, 15, 16, 17, 18, 19, 20, 21, 22, 23, 24, 25, 26, 27, 28, 29, 30, 31, 32, 33, 34, 35, 36, 37, 38, 39, 40, 41, 42, 43, 44, 45] (by decide +kernel) (by decide +kernel)
set_option maxRecDepth 20000 in
theorem gX9_map_X9_isPoint : GoodIn wsX9_map (wsV RX9 99 RX9 yX9_isPoint wsX9_isPoint) := goodIn_app (goodIn_of _ (by decide +kernel)) ggX9_map_X9_isPoint
theorem dX9_map_0 : decode cX9_map 0 = .ok (.aload_n 0, 1) := by decide +kernel
theorem dX9_map_1 : decode cX9_map 1 = .ok (.iload_n 1, 1) := by decide +kernel
theorem dX9_map_2 : decode cX9_map 2 = .ok (.invokevirtual 99, 3) := by decide +kernel
theorem dX9_map_5 : decode cX9_map 5 = .ok (.ifCond .eq 11, 3) := by decide +kernel
theorem dX9_map_8 : decode cX9_map 8 = .ok (.aload_n 0, 1) := by decide +kernel
theorem dX9_map_9 : decode cX9_map 9 = .ok (.iload_n 2, 1) := by decide +kernel
theorem dX9_map_10 : decode cX9_map 10 = .ok (.invokevirtual 99, 3) := by decide +kernel
theorem dX9_map_13 : decode cX9_map 13 = .ok (.ifCond .ne 5, 3) := by decide +kernel
theorem dX9_map_16 : decode cX9_map 16 = .ok (.iconst (-1), 1) := by decide +kernel
theorem dX9_map_17 : decode cX9_map 17 = .ok (.ireturn, 1) := by decide +kernel
theorem dX9_map_18 : decode cX9_map 18 = .ok (.aload_n 0, 1) := by decide +kernel
theorem dX9_map_19 : decode cX9_map 19 = .ok (.getfield 22, 3) := by decide +kernel
theorem dX9_map_22 : decode cX9_map 22 = .ok (.iload_n 1, 1) := by decide +kernel
theorem dX9_map_23 : decode cX9_map 23 = .ok (.iaload, 1) := by decide +kernel
theorem dX9_map_24 : decode cX9_map 24 = .ok (.istore_n 3, 1) := by decide +kernel
theorem dX9_map_25 : decode cX9_map 25 = .ok (.aload_n 0, 1) := by decide +kernel
theorem dX9_map_26 : decode cX9_map 26 = .ok (.getfield 22, 3) := by decide +kernel
theorem dX9_map_29 : decode cX9_map 29 = .ok (.iload_n 1, 1) := by decide +kernel
theorem dX9_map_30 : decode cX9_map 30 = .ok (.iload_n 2, 1) := by decide +kernel
theorem dX9_map_31 : decode cX9_map 31 = .ok (.iastore, 1) := by decide +kernel
theorem dX9_map_32 : decode cX9_map 32 = .ok (.iload_n 3, 1) := by decide +kernel
theorem dX9_map_33 : decode cX9_map 33 = .ok (.ireturn, 1) := by decide +kernel
set_option maxRecDepth 20000 in
theorem ggX9_barred_X9_d : GoodIn wsX9_barred wsX9_d := goodIn_r _ [6, 7, 8, 9, 10, 11, 12, 13, 14, 15, 16, 17, 18, 19, 20, 21, 22, 23, 24, 25, 26, 27, 28, 29, 30, 31, 32, 33, 34, 35, 36, 37, 38, 39, 40, 41, 42] (by decide +kernel) (by decide +kernel)
set_option maxRecDepth 20000 in
theorem gX9_barred_X9_d : GoodIn wsX9_barred (wsV RX9 111 RX9 yX9_d wsX9_d) := goodIn_app (goodIn_of _ (by decide +kernel)) ggX9_barred_X9_d
theorem dX9_barred_0 : decode cX9_barred 0 = .ok (.iconst 0, 1) := by decide +kernel
theorem dX9_barred_1 : decode cX9_barred 1 = .ok (.istore_n 1, 1) := by decide +kernel
theorem dX9_barred_2 : decode cX9_barred 2 = .ok (.iload_n 1, 1) := by decide +kernel
theorem dX9_barred_3 : decode cX9_barred 3 = .ok (.aload_n 0, 1) := by decide +kernel
theorem dX9_barred_4 : decode cX9_barred 4 = .ok (.getfield 9, 3) := by decide +kernel
theorem dX9_barred_7 : decode cX9_barred 7 = .ok (.if_icmp .ge 75, 3) := by decide +kernel
theorem dX9_barred_10 : decode cX9_barred 10 = .ok (.iconst 0, 1) := by decide +kernel
theorem dX9_barred_11 : decode cX9_barred 11 = .ok (.istore_n 2, 1) := by decide +kernel
theorem dX9_barred_12 : decode cX9_barred 12 = .ok (.iload_n 2, 1) := by decide +kernel
theorem dX9_barred_13 : decode cX9_barred 13 = .ok (.aload_n 0, 1) := by decide +kernel
theorem dX9_barred_14 : decode cX9_barred 14 = .ok (.getfield 9, 3) := by decide +kernel
theorem dX9_barred_17 : decode cX9_barred 17 = .ok (.if_icmp .ge 59, 3) := by decide +kernel
theorem dX9_barred_20 : decode cX9_barred 20 = .ok (.iconst 0, 1) := by decide +kernel
theorem dX9_barred_21 : decode cX9_barred 21 = .ok (.istore_n 3, 1) := by decide +kernel
theorem dX9_barred_22 : decode cX9_barred 22 = .ok (.iload_n 3, 1) := by decide +kernel
theorem dX9_barred_23 : decode cX9_barred 23 = .ok (.aload_n 0, 1) := by decide +kernel
theorem dX9_barred_24 : decode cX9_barred 24 = .ok (.getfield 9, 3) := by decide +kernel
theorem dX9_barred_27 : decode cX9_barred 27 = .ok (.if_icmp .ge 43, 3) := by decide +kernel
theorem dX9_barred_30 : decode cX9_barred 30 = .ok (.aload_n 0, 1) := by decide +kernel
theorem dX9_barred_31 : decode cX9_barred 31 = .ok (.iload_n 1, 1) := by decide +kernel
theorem dX9_barred_32 : decode cX9_barred 32 = .ok (.iload_n 3, 1) := by decide +kernel
theorem dX9_barred_33 : decode cX9_barred 33 = .ok (.invokevirtual 111, 3) := by decide +kernel
theorem dX9_barred_36 : decode cX9_barred 36 = .ok (.aload_n 0, 1) := by decide +kernel
theorem dX9_barred_37 : decode cX9_barred 37 = .ok (.iload_n 1, 1) := by decide +kernel
theorem dX9_barred_38 : decode cX9_barred 38 = .ok (.iload_n 2, 1) := by decide +kernel
theorem dX9_barred_39 : decode cX9_barred 39 = .ok (.invokevirtual 111, 3) := by decide +kernel
theorem dX9_barred_42 : decode cX9_barred 42 = .ok (.aload_n 0, 1) := by decide +kernel
theorem dX9_barred_43 : decode cX9_barred 43 = .ok (.iload_n 2, 1) := by decide +kernel
theorem dX9_barred_44 : decode cX9_barred 44 = .ok (.iload_n 3, 1) := by decide +kernel
theorem dX9_barred_45 : decode cX9_barred 45 = .ok (.invokevirtual 111, 3) := by decide +kernel
theorem dX9_barred_48 : decode cX9_barred 48 = .ok (.iadd, 1) := by decide +kernel
theorem dX9_barred_49 : decode cX9_barred 49 = .ok (.if_icmp .le 15, 3) := by decide +kernel
theorem dX9_barred_52 : decode cX9_barred 52 = .ok (.bipush 100, 2) := by decide +kernel
theorem dX9_barred_54 : decode cX9_barred 54 = .ok (.iload_n 1, 1) := by decide +kernel
theorem dX9_barred_55 : decode cX9_barred 55 = .ok (.imul, 1) := by decide +kernel
theorem dX9_barred_56 : decode cX9_barred 56 = .ok (.bipush 10, 2) := by decide +kernel
theorem dX9_barred_58 : decode cX9_barred 58 = .ok (.iload_n 2, 1) := by decide +kernel
theorem dX9_barred_59 : decode cX9_barred 59 = .ok (.imul, 1) := by decide +kernel
theorem dX9_barred_60 : decode cX9_barred 60 = .ok (.iadd, 1) := by decide +kernel
theorem dX9_barred_61 : decode cX9_barred 61 = .ok (.iload_n 3, 1) := by decide +kernel
theorem dX9_barred_62 : decode cX9_barred 62 = .ok (.iadd, 1) := by decide +kernel
theorem dX9_barred_63 : decode cX9_barred 63 = .ok (.ireturn, 1) := by decide +kernel
theorem dX9_barred_64 : decode cX9_barred 64 = .ok (.iinc 3 1, 3) := by decide +kernel
theorem dX9_barred_67 : decode cX9_barred 67 = .ok (.goto (-45), 3) := by decide +kernel
theorem dX9_barred_70 : decode cX9_barred 70 = .ok (.iinc 2 1, 3) := by decide +kernel
theorem dX9_barred_73 : decode cX9_barred 73 = .ok (.goto (-61), 3) := by decide +kernel
theorem dX9_barred_76 : decode cX9_barred 76 = .ok (.iinc 1 1, 3) := by decide +kernel
theorem dX9_barred_79 : decode cX9_barred 79 = .ok (.goto (-77), 3) := by decide +kernel
theorem dX9_barred_82 : decode cX9_barred 82 = .ok (.bipush (-5), 2) := by decide +kernel
theorem dX9_barred_84 : decode cX9_barred 84 = .ok (.ireturn, 1) := by decide +kernel
set_option maxRecDepth 20000 in
theorem ggX9_isFour_X9_d : GoodIn wsX9_isFour wsX9_d := goodIn_r _ [9, 10, 11, 12, 13, 14, 15, 16, 17, 18, 19, 20, 21, 22, 23, 24, 25, 26, 27, 28, 29, 30, 31, 32, 33, 34, 35, 36, 37, 38, 39, 40, 41, 42, 43, 44, 45] (by decide +kernel) (by decide +kernel)
set_option maxRecDepth 20000 in
theorem gX9_isFour_X9_d : GoodIn wsX9_isFour (wsV RX9 111 RX9 yX9_d wsX9_d) := goodIn_app (goodIn_of _ (by decide +kernel)) ggX9_isFour_X9_d
theorem dX9_isFour_0 : decode cX9_isFour 0 = .ok (.aload_n 0, 1) := by decide +kernel
theorem dX9_isFour_1 : decode cX9_isFour 1 = .ok (.iload_n 1, 1) := by decide +kernel
theorem dX9_isFour_2 : decode cX9_isFour 2 = .ok (.iload_n 2, 1) := by decide +kernel
theorem dX9_isFour_3 : decode cX9_isFour 3 = .ok (.invokevirtual 111, 3) := by decide +kernel
theorem dX9_isFour_6 : decode cX9_isFour 6 = .ok (.aload_n 0, 1) := by decide +kernel
theorem dX9_isFour_7 : decode cX9_isFour 7 = .ok (.iload_n 3, 1) := by decide +kernel
theorem dX9_isFour_8 : decode cX9_isFour 8 = .ok (.iload 4, 2) := by decide +kernel
theorem dX9_isFour_10 : decode cX9_isFour 10 = .ok (.invokevirtual 111, 3) := by decide +kernel
theorem dX9_isFour_13 : decode cX9_isFour 13 = .ok (.iadd, 1) := by decide +kernel
theorem dX9_isFour_14 : decode cX9_isFour 14 = .ok (.istore 5, 2) := by decide +kernel
theorem dX9_isFour_16 : decode cX9_isFour 16 = .ok (.aload_n 0, 1) := by decide +kernel
theorem dX9_isFour_17 : decode cX9_isFour 17 = .ok (.iload_n 1, 1) := by decide +kernel
theorem dX9_isFour_18 : decode cX9_isFour 18 = .ok (.iload_n 3, 1) := by decide +kernel
theorem dX9_isFour_19 : decode cX9_isFour 19 = .ok (.invokevirtual 111, 3) := by decide +kernel
theorem dX9_isFour_22 : decode cX9_isFour 22 = .ok (.aload_n 0, 1) := by decide +kernel
theorem dX9_isFour_23 : decode cX9_isFour 23 = .ok (.iload_n 2, 1) := by decide +kernel
theorem dX9_isFour_24 : decode cX9_isFour 24 = .ok (.iload 4, 2) := by decide +kernel
theorem dX9_isFour_26 : decode cX9_isFour 26 = .ok (.invokevirtual 111, 3) := by decide +kernel
theorem dX9_isFour_29 : decode cX9_isFour 29 = .ok (.iadd, 1) := by decide +kernel
theorem dX9_isFour_30 : decode cX9_isFour 30 = .ok (.istore 6, 2) := by decide +kernel
theorem dX9_isFour_32 : decode cX9_isFour 32 = .ok (.aload_n 0, 1) := by decide +kernel
theorem dX9_isFour_33 : decode cX9_isFour 33 = .ok (.iload_n 1, 1) := by decide +kernel
theorem dX9_isFour_34 : decode cX9_isFour 34 = .ok (.iload 4, 2) := by decide +kernel
theorem dX9_isFour_36 : decode cX9_isFour 36 = .ok (.invokevirtual 111, 3) := by decide +kernel
theorem dX9_isFour_39 : decode cX9_isFour 39 = .ok (.aload_n 0, 1) := by decide +kernel
theorem dX9_isFour_40 : decode cX9_isFour 40 = .ok (.iload_n 2, 1) := by decide +kernel
theorem dX9_isFour_41 : decode cX9_isFour 41 = .ok (.iload_n 3, 1) := by decide +kernel
theorem dX9_isFour_42 : decode cX9_isFour 42 = .ok (.invokevirtual 111, 3) := by decide +kernel
theorem dX9_isFour_45 : decode cX9_isFour 45 = .ok (.iadd, 1) := by decide +kernel
theorem dX9_isFour_46 : decode cX9_isFour 46 = .ok (.istore 7, 2) := by decide +kernel
theorem dX9_isFour_48 : decode cX9_isFour 48 = .ok (.iload 5, 2) := by decide +kernel
theorem dX9_isFour_50 : decode cX9_isFour 50 = .ok (.iload 6, 2) := by decide +kernel
theorem dX9_isFour_52 : decode cX9_isFour 52 = .ok (.iload 7, 2) := by decide +kernel
theorem dX9_isFour_54 : decode cX9_isFour 54 = .ok (.invokestatic 133, 3) := by decide +kernel
theorem dX9_isFour_57 : decode cX9_isFour 57 = .ok (.invokestatic 133, 3) := by decide +kernel
theorem dX9_isFour_60 : decode cX9_isFour 60 = .ok (.istore 8, 2) := by decide +kernel
theorem dX9_isFour_62 : decode cX9_isFour 62 = .ok (.iload 5, 2) := by decide +kernel
theorem dX9_isFour_64 : decode cX9_isFour 64 = .ok (.iload 8, 2) := by decide +kernel
theorem dX9_isFour_66 : decode cX9_isFour 66 = .ok (.if_icmp .ne 7, 3) := by decide +kernel
theorem dX9_isFour_69 : decode cX9_isFour 69 = .ok (.iconst 1, 1) := by decide +kernel
theorem dX9_isFour_70 : decode cX9_isFour 70 = .ok (.goto 4, 3) := by decide +kernel
theorem dX9_isFour_73 : decode cX9_isFour 73 = .ok (.iconst 0, 1) := by decide +kernel
theorem dX9_isFour_74 : decode cX9_isFour 74 = .ok (.iload 6, 2) := by decide +kernel
theorem dX9_isFour_76 : decode cX9_isFour 76 = .ok (.iload 8, 2) := by decide +kernel
theorem dX9_isFour_78 : decode cX9_isFour 78 = .ok (.if_icmp .ne 7, 3) := by decide +kernel
theorem dX9_isFour_81 : decode cX9_isFour 81 = .ok (.iconst 1, 1) := by decide +kernel
theorem dX9_isFour_82 : decode cX9_isFour 82 = .ok (.goto 4, 3) := by decide +kernel
theorem dX9_isFour_85 : decode cX9_isFour 85 = .ok (.iconst 0, 1) := by decide +kernel
theorem dX9_isFour_86 : decode cX9_isFour 86 = .ok (.iadd, 1) := by decide +kernel
theorem dX9_isFour_87 : decode cX9_isFour 87 = .ok (.iload 7, 2) := by decide +kernel
theorem dX9_isFour_89 : decode cX9_isFour 89 = .ok (.iload 8, 2) := by decide +kernel
theorem dX9_isFour_91 : decode cX9_isFour 91 = .ok (.if_icmp .ne 7, 3) := by decide +kernel
theorem dX9_isFour_94 : decode cX9_isFour 94 = .ok (.iconst 1, 1) := by decide +kernel
theorem dX9_isFour_95 : decode cX9_isFour 95 = .ok (.goto 4, 3) := by decide +kernel
theorem dX9_isFour_98 : decode cX9_isFour 98 = .ok (.iconst 0, 1) := by decide +kernel
theorem dX9_isFour_99 : decode cX9_isFour 99 = .ok (.iadd, 1) := by decide +kernel
theorem dX9_isFour_100 : decode cX9_isFour 100 = .ok (.iconst 1, 1) := by decide +kernel
theorem dX9_isFour_101 : decode cX9_isFour 101 = .ok (.if_icmp .le 7, 3) := by decide +kernel
theorem dX9_isFour_104 : decode cX9_isFour 104 = .ok (.iconst 1, 1) := by decide +kernel
theorem dX9_isFour_105 : decode cX9_isFour 105 = .ok (.goto 4, 3) := by decide +kernel
theorem dX9_isFour_108 : decode cX9_isFour 108 = .ok (.iconst 0, 1) := by decide +kernel
theorem dX9_isFour_109 : decode cX9_isFour 109 = .ok (.ireturn, 1) := by decide +kernel
set_option maxRecDepth 20000 in
theorem ggX9_isTree_X9_isFour : GoodIn wsX9_isTree wsX9_isFour := goodIn_r _ [6, 7, 8, 9, 10, 11, 12, 13, 5, 14, 15, 20, 21, 22, 23, 24, 25, 26, 27, 28, 29, 30, 31, 32, 33, 34, 35, 36, 37, 38, 39, 40, 41, 42, 43, 44, 45, 46, 47, 48, 49, 50, 51, 52, 53, 54] (by decide +kernel) (by decide +kernel)
set_option maxRecDepth 20000 in
theorem gX9_isTree_X9_isFour : GoodIn wsX9_isTree (wsV RX9 136 RX9 yX9_isFour wsX9_isFour) := goodIn_app (goodIn_of _ (by decide +kernel)) ggX9_isTree_X9_isFour
set_option maxRecDepth 20000 in
theorem ggX9_isTree_X9_barred : GoodIn wsX9_isTree wsX9_barred := goodIn_r _ [19, 1, 11, 12, 13, 5, 14, 15, 20, 21, 22, 23, 24, 25, 26, 27, 28, 29, 30, 31, 32, 33, 34, 35, 36, 37, 38, 39, 40, 41, 42, 43, 44, 45, 46, 47, 48, 49, 50, 51, 52, 53, 54] (by decide +kernel) (by decide +kernel)
set_option maxRecDepth 20000 in
theorem gX9_isTree_X9_barred : GoodIn wsX9_isTree (wsV RX9 124 RX9 yX9_barred wsX9_barred) := goodIn_app (goodIn_of _ (by decide +kernel)) ggX9_isTree_X9_barred
theorem dX9_isTree_0 : decode cX9_isTree 0 = .ok (.iconst 0, 1) := by decide +kernel
theorem dX9_isTree_1 : decode cX9_isTree 1 = .ok (.istore_n 1, 1) := by decide +kernel
theorem dX9_isTree_2 : decode cX9_isTree 2 = .ok (.iload_n 1, 1) := by decide +kernel
theorem dX9_isTree_3 : decode cX9_isTree 3 = .ok (.aload_n 0, 1) := by decide +kernel
theorem dX9_isTree_4 : decode cX9_isTree 4 = .ok (.getfield 9, 3) := by decide +kernel
theorem dX9_isTree_7 : decode cX9_isTree 7 = .ok (.if_icmp .ge 64, 3) := by decide +kernel
theorem dX9_isTree_10 : decode cX9_isTree 10 = .ok (.iconst 0, 1) := by decide +kernel
theorem dX9_isTree_11 : decode cX9_isTree 11 = .ok (.istore_n 2, 1) := by decide +kernel
theorem dX9_isTree_12 : decode cX9_isTree 12 = .ok (.iload_n 2, 1) := by decide +kernel
theorem dX9_isTree_13 : decode cX9_isTree 13 = .ok (.iload_n 1, 1) := by decide +kernel
theorem dX9_isTree_14 : decode cX9_isTree 14 = .ok (.if_icmp .ge 51, 3) := by decide +kernel
theorem dX9_isTree_17 : decode cX9_isTree 17 = .ok (.iconst 0, 1) := by decide +kernel
theorem dX9_isTree_18 : decode cX9_isTree 18 = .ok (.istore_n 3, 1) := by decide +kernel
theorem dX9_isTree_19 : decode cX9_isTree 19 = .ok (.iload_n 3, 1) := by decide +kernel
theorem dX9_isTree_20 : decode cX9_isTree 20 = .ok (.iload_n 2, 1) := by decide +kernel
theorem dX9_isTree_21 : decode cX9_isTree 21 = .ok (.if_icmp .ge 38, 3) := by decide +kernel
theorem dX9_isTree_24 : decode cX9_isTree 24 = .ok (.iconst 0, 1) := by decide +kernel
theorem dX9_isTree_25 : decode cX9_isTree 25 = .ok (.istore 4, 2) := by decide +kernel
theorem dX9_isTree_27 : decode cX9_isTree 27 = .ok (.iload 4, 2) := by decide +kernel
theorem dX9_isTree_29 : decode cX9_isTree 29 = .ok (.iload_n 3, 1) := by decide +kernel
theorem dX9_isTree_30 : decode cX9_isTree 30 = .ok (.if_icmp .ge 23, 3) := by decide +kernel
theorem dX9_isTree_33 : decode cX9_isTree 33 = .ok (.aload_n 0, 1) := by decide +kernel
theorem dX9_isTree_34 : decode cX9_isTree 34 = .ok (.iload_n 1, 1) := by decide +kernel
theorem dX9_isTree_35 : decode cX9_isTree 35 = .ok (.iload_n 2, 1) := by decide +kernel
theorem dX9_isTree_36 : decode cX9_isTree 36 = .ok (.iload_n 3, 1) := by decide +kernel
theorem dX9_isTree_37 : decode cX9_isTree 37 = .ok (.iload 4, 2) := by decide +kernel
theorem dX9_isTree_39 : decode cX9_isTree 39 = .ok (.invokevirtual 136, 3) := by decide +kernel
theorem dX9_isTree_42 : decode cX9_isTree 42 = .ok (.ifCond .ne 5, 3) := by decide +kernel
theorem dX9_isTree_45 : decode cX9_isTree 45 = .ok (.iconst 0, 1) := by decide +kernel
theorem dX9_isTree_46 : decode cX9_isTree 46 = .ok (.ireturn, 1) := by decide +kernel
theorem dX9_isTree_47 : decode cX9_isTree 47 = .ok (.iinc 4 1, 3) := by decide +kernel
theorem dX9_isTree_50 : decode cX9_isTree 50 = .ok (.goto (-23), 3) := by decide +kernel
theorem dX9_isTree_53 : decode cX9_isTree 53 = .ok (.iinc 3 1, 3) := by decide +kernel
theorem dX9_isTree_56 : decode cX9_isTree 56 = .ok (.goto (-37), 3) := by decide +kernel
theorem dX9_isTree_59 : decode cX9_isTree 59 = .ok (.iinc 2 1, 3) := by decide +kernel
theorem dX9_isTree_62 : decode cX9_isTree 62 = .ok (.goto (-50), 3) := by decide +kernel
theorem dX9_isTree_65 : decode cX9_isTree 65 = .ok (.iinc 1 1, 3) := by decide +kernel
theorem dX9_isTree_68 : decode cX9_isTree 68 = .ok (.goto (-66), 3) := by decide +kernel
theorem dX9_isTree_71 : decode cX9_isTree 71 = .ok (.aload_n 0, 1) := by decide +kernel
theorem dX9_isTree_72 : decode cX9_isTree 72 = .ok (.invokevirtual 124, 3) := by decide +kernel
theorem dX9_isTree_75 : decode cX9_isTree 75 = .ok (.ifCond .ge 7, 3) := by decide +kernel
theorem dX9_isTree_78 : decode cX9_isTree 78 = .ok (.iconst 1, 1) := by decide +kernel
theorem dX9_isTree_79 : decode cX9_isTree 79 = .ok (.goto 4, 3) := by decide +kernel
theorem dX9_isTree_82 : decode cX9_isTree 82 = .ok (.iconst 0, 1) := by decide +kernel
theorem dX9_isTree_83 : decode cX9_isTree 83 = .ok (.ireturn, 1) := by decide +kernel
set_option maxRecDepth 20000 in
theorem ggX9_girth_X9_d : GoodIn wsX9_girth wsX9_d := goodIn_r _ [6, 7, 8, 9, 10, 11, 12, 13, 14, 15, 16, 17, 18, 19, 20, 21, 22, 23, 24, 25, 26, 27, 28, 29, 30, 31, 32, 33, 34, 35, 36, 37, 38, 39, 40, 41, 42] (by decide +kernel) (by decide +kernel)
set_option maxRecDepth 20000 in
theorem gX9_girth_X9_d : GoodIn wsX9_girth (wsV RX9 111 RX9 yX9_d wsX9_d) := goodIn_app (goodIn_of _ (by decide +kernel)) ggX9_girth_X9_d
theorem dX9_girth_0 : decode cX9_girth 0 = .ok (.iconst 0, 1) := by decide +kernel
theorem dX9_girth_1 : decode cX9_girth 1 = .ok (.istore_n 1, 1) := by decide +kernel
theorem dX9_girth_2 : decode cX9_girth 2 = .ok (.iconst 0, 1) := by decide +kernel
theorem dX9_girth_3 : decode cX9_girth 3 = .ok (.istore_n 2, 1) := by decide +kernel
theorem dX9_girth_4 : decode cX9_girth 4 = .ok (.iload_n 2, 1) := by decide +kernel
theorem dX9_girth_5 : decode cX9_girth 5 = .ok (.aload_n 0, 1) := by decide +kernel
theorem dX9_girth_6 : decode cX9_girth 6 = .ok (.getfield 9, 3) := by decide +kernel
theorem dX9_girth_9 : decode cX9_girth 9 = .ok (.if_icmp .ge 31, 3) := by decide +kernel
theorem dX9_girth_12 : decode cX9_girth 12 = .ok (.iconst 0, 1) := by decide +kernel
theorem dX9_girth_13 : decode cX9_girth 13 = .ok (.istore_n 3, 1) := by decide +kernel
theorem dX9_girth_14 : decode cX9_girth 14 = .ok (.iload_n 3, 1) := by decide +kernel
theorem dX9_girth_15 : decode cX9_girth 15 = .ok (.iload_n 2, 1) := by decide +kernel
theorem dX9_girth_16 : decode cX9_girth 16 = .ok (.if_icmp .ge 18, 3) := by decide +kernel
theorem dX9_girth_19 : decode cX9_girth 19 = .ok (.iload_n 1, 1) := by decide +kernel
theorem dX9_girth_20 : decode cX9_girth 20 = .ok (.aload_n 0, 1) := by decide +kernel
theorem dX9_girth_21 : decode cX9_girth 21 = .ok (.iload_n 2, 1) := by decide +kernel
theorem dX9_girth_22 : decode cX9_girth 22 = .ok (.iload_n 3, 1) := by decide +kernel
theorem dX9_girth_23 : decode cX9_girth 23 = .ok (.invokevirtual 111, 3) := by decide +kernel
theorem dX9_girth_26 : decode cX9_girth 26 = .ok (.iadd, 1) := by decide +kernel
theorem dX9_girth_27 : decode cX9_girth 27 = .ok (.istore_n 1, 1) := by decide +kernel
theorem dX9_girth_28 : decode cX9_girth 28 = .ok (.iinc 3 1, 3) := by decide +kernel
theorem dX9_girth_31 : decode cX9_girth 31 = .ok (.goto (-17), 3) := by decide +kernel
theorem dX9_girth_34 : decode cX9_girth 34 = .ok (.iinc 2 1, 3) := by decide +kernel
theorem dX9_girth_37 : decode cX9_girth 37 = .ok (.goto (-33), 3) := by decide +kernel
theorem dX9_girth_40 : decode cX9_girth 40 = .ok (.iload_n 1, 1) := by decide +kernel
theorem dX9_girth_41 : decode cX9_girth 41 = .ok (.ireturn, 1) := by decide +kernel
set_option maxRecDepth 20000 in
theorem ggX9_span_X9_d : GoodIn wsX9_span wsX9_d := goodIn_r _ [10, 11, 12, 13, 14, 15, 16, 17, 18, 19, 20, 21, 22, 23, 24, 25, 26, 27, 28, 29, 30, 31, 32, 33, 34, 35, 36, 37, 38, 39, 40, 41, 42, 43, 44, 45, 46] (by decide +kernel) (by decide +kernel)
set_option maxRecDepth 20000 in
theorem gX9_span_X9_d : GoodIn wsX9_span (wsV RX9 111 RX9 yX9_d wsX9_d) := goodIn_app (goodIn_of _ (by decide +kernel)) ggX9_span_X9_d
theorem dX9_span_0 : decode cX9_span 0 = .ok (.iconst 0, 1) := by decide +kernel
theorem dX9_span_1 : decode cX9_span 1 = .ok (.istore_n 1, 1) := by decide +kernel
theorem dX9_span_2 : decode cX9_span 2 = .ok (.iconst 0, 1) := by decide +kernel
theorem dX9_span_3 : decode cX9_span 3 = .ok (.istore_n 2, 1) := by decide +kernel
theorem dX9_span_4 : decode cX9_span 4 = .ok (.iload_n 2, 1) := by decide +kernel
theorem dX9_span_5 : decode cX9_span 5 = .ok (.aload_n 0, 1) := by decide +kernel
theorem dX9_span_6 : decode cX9_span 6 = .ok (.getfield 9, 3) := by decide +kernel
theorem dX9_span_9 : decode cX9_span 9 = .ok (.if_icmp .ge 33, 3) := by decide +kernel
theorem dX9_span_12 : decode cX9_span 12 = .ok (.iconst 0, 1) := by decide +kernel
theorem dX9_span_13 : decode cX9_span 13 = .ok (.istore_n 3, 1) := by decide +kernel
theorem dX9_span_14 : decode cX9_span 14 = .ok (.iload_n 3, 1) := by decide +kernel
theorem dX9_span_15 : decode cX9_span 15 = .ok (.iload_n 2, 1) := by decide +kernel
theorem dX9_span_16 : decode cX9_span 16 = .ok (.if_icmp .ge 20, 3) := by decide +kernel
theorem dX9_span_19 : decode cX9_span 19 = .ok (.iload_n 1, 1) := by decide +kernel
theorem dX9_span_20 : decode cX9_span 20 = .ok (.aload_n 0, 1) := by decide +kernel
theorem dX9_span_21 : decode cX9_span 21 = .ok (.iload_n 2, 1) := by decide +kernel
theorem dX9_span_22 : decode cX9_span 22 = .ok (.iload_n 3, 1) := by decide +kernel
theorem dX9_span_23 : decode cX9_span 23 = .ok (.invokevirtual 111, 3) := by decide +kernel
theorem dX9_span_26 : decode cX9_span 26 = .ok (.invokestatic 133, 3) := by decide +kernel
theorem dX9_span_29 : decode cX9_span 29 = .ok (.istore_n 1, 1) := by decide +kernel
theorem dX9_span_30 : decode cX9_span 30 = .ok (.iinc 3 1, 3) := by decide +kernel
theorem dX9_span_33 : decode cX9_span 33 = .ok (.goto (-19), 3) := by decide +kernel
theorem dX9_span_36 : decode cX9_span 36 = .ok (.iinc 2 1, 3) := by decide +kernel
theorem dX9_span_39 : decode cX9_span 39 = .ok (.goto (-35), 3) := by decide +kernel
theorem dX9_span_42 : decode cX9_span 42 = .ok (.iload_n 1, 1) := by decide +kernel
theorem dX9_span_43 : decode cX9_span 43 = .ok (.ireturn, 1) := by decide +kernel
set_option maxRecDepth 20000 in
theorem ggX9_often_X9_d : GoodIn wsX9_often wsX9_d := goodIn_r _ [6, 7, 8, 9, 10, 11, 12, 13, 14, 15, 16, 17, 18, 19, 20, 21, 22, 23, 24, 25, 26, 27, 28, 29, 30, 31, 32, 33, 34, 35, 36, 37, 38, 39, 40, 41, 42] (by decide +kernel) (by decide +kernel)
set_option maxRecDepth 20000 in
theorem gX9_often_X9_d : GoodIn wsX9_often (wsV RX9 111 RX9 yX9_d wsX9_d) := goodIn_app (goodIn_of _ (by decide +kernel)) ggX9_often_X9_d
theorem dX9_often_0 : decode cX9_often 0 = .ok (.iconst 0, 1) := by decide +kernel
theorem dX9_often_1 : decode cX9_often 1 = .ok (.istore_n 2, 1) := by decide +kernel
theorem dX9_often_2 : decode cX9_often 2 = .ok (.iconst 0, 1) := by decide +kernel
theorem dX9_often_3 : decode cX9_often 3 = .ok (.istore_n 3, 1) := by decide +kernel
theorem dX9_often_4 : decode cX9_often 4 = .ok (.iload_n 3, 1) := by decide +kernel
theorem dX9_often_5 : decode cX9_often 5 = .ok (.aload_n 0, 1) := by decide +kernel
theorem dX9_often_6 : decode cX9_often 6 = .ok (.getfield 9, 3) := by decide +kernel
theorem dX9_often_9 : decode cX9_often 9 = .ok (.if_icmp .ge 43, 3) := by decide +kernel
theorem dX9_often_12 : decode cX9_often 12 = .ok (.iconst 0, 1) := by decide +kernel
theorem dX9_often_13 : decode cX9_often 13 = .ok (.istore 4, 2) := by decide +kernel
theorem dX9_often_15 : decode cX9_often 15 = .ok (.iload 4, 2) := by decide +kernel
theorem dX9_often_17 : decode cX9_often 17 = .ok (.iload_n 3, 1) := by decide +kernel
theorem dX9_often_18 : decode cX9_often 18 = .ok (.if_icmp .ge 28, 3) := by decide +kernel
theorem dX9_often_21 : decode cX9_often 21 = .ok (.iload_n 2, 1) := by decide +kernel
theorem dX9_often_22 : decode cX9_often 22 = .ok (.aload_n 0, 1) := by decide +kernel
theorem dX9_often_23 : decode cX9_often 23 = .ok (.iload_n 3, 1) := by decide +kernel
theorem dX9_often_24 : decode cX9_often 24 = .ok (.iload 4, 2) := by decide +kernel
theorem dX9_often_26 : decode cX9_often 26 = .ok (.invokevirtual 111, 3) := by decide +kernel
theorem dX9_often_29 : decode cX9_often 29 = .ok (.iload_n 1, 1) := by decide +kernel
theorem dX9_often_30 : decode cX9_often 30 = .ok (.if_icmp .ne 7, 3) := by decide +kernel
theorem dX9_often_33 : decode cX9_often 33 = .ok (.iconst 1, 1) := by decide +kernel
theorem dX9_often_34 : decode cX9_often 34 = .ok (.goto 4, 3) := by decide +kernel
theorem dX9_often_37 : decode cX9_often 37 = .ok (.iconst 0, 1) := by decide +kernel
theorem dX9_often_38 : decode cX9_often 38 = .ok (.iadd, 1) := by decide +kernel
theorem dX9_often_39 : decode cX9_often 39 = .ok (.istore_n 2, 1) := by decide +kernel
theorem dX9_often_40 : decode cX9_often 40 = .ok (.iinc 4 1, 3) := by decide +kernel
theorem dX9_often_43 : decode cX9_often 43 = .ok (.goto (-28), 3) := by decide +kernel
theorem dX9_often_46 : decode cX9_often 46 = .ok (.iinc 3 1, 3) := by decide +kernel
theorem dX9_often_49 : decode cX9_often 49 = .ok (.goto (-45), 3) := by decide +kernel
theorem dX9_often_52 : decode cX9_often 52 = .ok (.iload_n 2, 1) := by decide +kernel
theorem dX9_often_53 : decode cX9_often 53 = .ok (.ireturn, 1) := by decide +kernel
set_option maxRecDepth 20000 in
theorem ggX9_usual_X9_often : GoodIn wsX9_usual wsX9_often := goodIn_r _ [5, 6, 7, 8, 9, 4, 10, 11, 12, 13, 14, 15, 16, 17, 18, 19, 20, 21, 22, 23, 24, 25, 26, 27, 28, 29, 30, 31, 32, 33, 34, 35, 36, 37, 38, 39, 40, 41, 42, 43, 44, 45, 46] (by decide +kernel) (by decide +kernel)
set_option maxRecDepth 20000 in
theorem gX9_usual_X9_often : GoodIn wsX9_usual (wsV RX9 140 RX9 yX9_often wsX9_often) := goodIn_app (goodIn_of _ (by decide +kernel)) ggX9_usual_X9_often
theorem dX9_usual_0 : decode cX9_usual 0 = .ok (.iconst 0, 1) := by decide +kernel
theorem dX9_usual_1 : decode cX9_usual 1 = .ok (.istore_n 1, 1) := by decide +kernel
theorem dX9_usual_2 : decode cX9_usual 2 = .ok (.iconst 1, 1) := by decide +kernel
theorem dX9_usual_3 : decode cX9_usual 3 = .ok (.istore_n 2, 1) := by decide +kernel
theorem dX9_usual_4 : decode cX9_usual 4 = .ok (.iload_n 2, 1) := by decide +kernel
theorem dX9_usual_5 : decode cX9_usual 5 = .ok (.bipush 40, 2) := by decide +kernel
theorem dX9_usual_7 : decode cX9_usual 7 = .ok (.if_icmp .gt 28, 3) := by decide +kernel
theorem dX9_usual_10 : decode cX9_usual 10 = .ok (.aload_n 0, 1) := by decide +kernel
theorem dX9_usual_11 : decode cX9_usual 11 = .ok (.iload_n 2, 1) := by decide +kernel
theorem dX9_usual_12 : decode cX9_usual 12 = .ok (.invokevirtual 140, 3) := by decide +kernel
theorem dX9_usual_15 : decode cX9_usual 15 = .ok (.aload_n 0, 1) := by decide +kernel
theorem dX9_usual_16 : decode cX9_usual 16 = .ok (.iload_n 1, 1) := by decide +kernel
theorem dX9_usual_17 : decode cX9_usual 17 = .ok (.invokevirtual 140, 3) := by decide +kernel
theorem dX9_usual_20 : decode cX9_usual 20 = .ok (.if_icmp .le 7, 3) := by decide +kernel
theorem dX9_usual_23 : decode cX9_usual 23 = .ok (.iload_n 2, 1) := by decide +kernel
theorem dX9_usual_24 : decode cX9_usual 24 = .ok (.goto 4, 3) := by decide +kernel
theorem dX9_usual_27 : decode cX9_usual 27 = .ok (.iload_n 1, 1) := by decide +kernel
theorem dX9_usual_28 : decode cX9_usual 28 = .ok (.istore_n 1, 1) := by decide +kernel
theorem dX9_usual_29 : decode cX9_usual 29 = .ok (.iinc 2 1, 3) := by decide +kernel
theorem dX9_usual_32 : decode cX9_usual 32 = .ok (.goto (-28), 3) := by decide +kernel
theorem dX9_usual_35 : decode cX9_usual 35 = .ok (.iload_n 1, 1) := by decide +kernel
theorem dX9_usual_36 : decode cX9_usual 36 = .ok (.ireturn, 1) := by decide +kernel
theorem dX9_isOrder_0 : decode cX9_isOrder 0 = .ok (.iload_n 1, 1) := by decide +kernel
theorem dX9_isOrder_1 : decode cX9_isOrder 1 = .ok (.istore_n 2, 1) := by decide +kernel
theorem dX9_isOrder_2 : decode cX9_isOrder 2 = .ok (.iconst 0, 1) := by decide +kernel
theorem dX9_isOrder_3 : decode cX9_isOrder 3 = .ok (.istore_n 3, 1) := by decide +kernel
theorem dX9_isOrder_4 : decode cX9_isOrder 4 = .ok (.iconst 0, 1) := by decide +kernel
theorem dX9_isOrder_5 : decode cX9_isOrder 5 = .ok (.istore 4, 2) := by decide +kernel
theorem dX9_isOrder_7 : decode cX9_isOrder 7 = .ok (.iload 4, 2) := by decide +kernel
theorem dX9_isOrder_9 : decode cX9_isOrder 9 = .ok (.aload_n 0, 1) := by decide +kernel
theorem dX9_isOrder_10 : decode cX9_isOrder 10 = .ok (.getfield 9, 3) := by decide +kernel
theorem dX9_isOrder_13 : decode cX9_isOrder 13 = .ok (.if_icmp .ge 41, 3) := by decide +kernel
theorem dX9_isOrder_16 : decode cX9_isOrder 16 = .ok (.aload_n 0, 1) := by decide +kernel
theorem dX9_isOrder_17 : decode cX9_isOrder 17 = .ok (.getfield 68, 3) := by decide +kernel
theorem dX9_isOrder_20 : decode cX9_isOrder 20 = .ok (.iload 4, 2) := by decide +kernel
theorem dX9_isOrder_22 : decode cX9_isOrder 22 = .ok (.iload_n 2, 1) := by decide +kernel
theorem dX9_isOrder_23 : decode cX9_isOrder 23 = .ok (.aload_n 0, 1) := by decide +kernel
theorem dX9_isOrder_24 : decode cX9_isOrder 24 = .ok (.getfield 9, 3) := by decide +kernel
theorem dX9_isOrder_27 : decode cX9_isOrder 27 = .ok (.irem, 1) := by decide +kernel
theorem dX9_isOrder_28 : decode cX9_isOrder 28 = .ok (.iastore, 1) := by decide +kernel
theorem dX9_isOrder_29 : decode cX9_isOrder 29 = .ok (.iload_n 3, 1) := by decide +kernel
theorem dX9_isOrder_30 : decode cX9_isOrder 30 = .ok (.iconst 1, 1) := by decide +kernel
theorem dX9_isOrder_31 : decode cX9_isOrder 31 = .ok (.aload_n 0, 1) := by decide +kernel
theorem dX9_isOrder_32 : decode cX9_isOrder 32 = .ok (.getfield 68, 3) := by decide +kernel
theorem dX9_isOrder_35 : decode cX9_isOrder 35 = .ok (.iload 4, 2) := by decide +kernel
theorem dX9_isOrder_37 : decode cX9_isOrder 37 = .ok (.iaload, 1) := by decide +kernel
theorem dX9_isOrder_38 : decode cX9_isOrder 38 = .ok (.ishl, 1) := by decide +kernel
theorem dX9_isOrder_39 : decode cX9_isOrder 39 = .ok (.ior, 1) := by decide +kernel
theorem dX9_isOrder_40 : decode cX9_isOrder 40 = .ok (.istore_n 3, 1) := by decide +kernel
theorem dX9_isOrder_41 : decode cX9_isOrder 41 = .ok (.iload_n 2, 1) := by decide +kernel
theorem dX9_isOrder_42 : decode cX9_isOrder 42 = .ok (.aload_n 0, 1) := by decide +kernel
theorem dX9_isOrder_43 : decode cX9_isOrder 43 = .ok (.getfield 9, 3) := by decide +kernel
theorem dX9_isOrder_46 : decode cX9_isOrder 46 = .ok (.idiv, 1) := by decide +kernel
theorem dX9_isOrder_47 : decode cX9_isOrder 47 = .ok (.istore_n 2, 1) := by decide +kernel
theorem dX9_isOrder_48 : decode cX9_isOrder 48 = .ok (.iinc 4 1, 3) := by decide +kernel
theorem dX9_isOrder_51 : decode cX9_isOrder 51 = .ok (.goto (-44), 3) := by decide +kernel
theorem dX9_isOrder_54 : decode cX9_isOrder 54 = .ok (.iload_n 3, 1) := by decide +kernel
theorem dX9_isOrder_55 : decode cX9_isOrder 55 = .ok (.iconst 1, 1) := by decide +kernel
theorem dX9_isOrder_56 : decode cX9_isOrder 56 = .ok (.aload_n 0, 1) := by decide +kernel
theorem dX9_isOrder_57 : decode cX9_isOrder 57 = .ok (.getfield 9, 3) := by decide +kernel
theorem dX9_isOrder_60 : decode cX9_isOrder 60 = .ok (.ishl, 1) := by decide +kernel
theorem dX9_isOrder_61 : decode cX9_isOrder 61 = .ok (.iconst 1, 1) := by decide +kernel
theorem dX9_isOrder_62 : decode cX9_isOrder 62 = .ok (.isub, 1) := by decide +kernel
theorem dX9_isOrder_63 : decode cX9_isOrder 63 = .ok (.if_icmp .ne 7, 3) := by decide +kernel
theorem dX9_isOrder_66 : decode cX9_isOrder 66 = .ok (.iconst 1, 1) := by decide +kernel
theorem dX9_isOrder_67 : decode cX9_isOrder 67 = .ok (.goto 4, 3) := by decide +kernel
theorem dX9_isOrder_70 : decode cX9_isOrder 70 = .ok (.iconst 0, 1) := by decide +kernel
theorem dX9_isOrder_71 : decode cX9_isOrder 71 = .ok (.ireturn, 1) := by decide +kernel
theorem dX9_orders_0 : decode cX9_orders 0 = .ok (.iconst 1, 1) := by decide +kernel
theorem dX9_orders_1 : decode cX9_orders 1 = .ok (.istore_n 1, 1) := by decide +kernel
theorem dX9_orders_2 : decode cX9_orders 2 = .ok (.iconst 0, 1) := by decide +kernel
theorem dX9_orders_3 : decode cX9_orders 3 = .ok (.istore_n 2, 1) := by decide +kernel
theorem dX9_orders_4 : decode cX9_orders 4 = .ok (.iload_n 2, 1) := by decide +kernel
theorem dX9_orders_5 : decode cX9_orders 5 = .ok (.aload_n 0, 1) := by decide +kernel
theorem dX9_orders_6 : decode cX9_orders 6 = .ok (.getfield 9, 3) := by decide +kernel
theorem dX9_orders_9 : decode cX9_orders 9 = .ok (.if_icmp .ge 16, 3) := by decide +kernel
theorem dX9_orders_12 : decode cX9_orders 12 = .ok (.iload_n 1, 1) := by decide +kernel
theorem dX9_orders_13 : decode cX9_orders 13 = .ok (.aload_n 0, 1) := by decide +kernel
theorem dX9_orders_14 : decode cX9_orders 14 = .ok (.getfield 9, 3) := by decide +kernel
theorem dX9_orders_17 : decode cX9_orders 17 = .ok (.imul, 1) := by decide +kernel
theorem dX9_orders_18 : decode cX9_orders 18 = .ok (.istore_n 1, 1) := by decide +kernel
theorem dX9_orders_19 : decode cX9_orders 19 = .ok (.iinc 2 1, 3) := by decide +kernel
theorem dX9_orders_22 : decode cX9_orders 22 = .ok (.goto (-18), 3) := by decide +kernel
theorem dX9_orders_25 : decode cX9_orders 25 = .ok (.iload_n 1, 1) := by decide +kernel
theorem dX9_orders_26 : decode cX9_orders 26 = .ok (.ireturn, 1) := by decide +kernel
set_option maxRecDepth 20000 in
theorem ggX9_round_X9_orders : GoodIn wsX9_round wsX9_orders := goodIn_r _ [7, 2, 17, 18, 19, 20, 21, 22, 23, 24, 25, 26, 27, 28, 29, 30, 31, 32, 33, 34, 35, 36, 37, 38, 39, 40, 41, 42, 43, 44, 45, 46, 47, 48, 49, 50, 51] (by decide +kernel) (by decide +kernel)
set_option maxRecDepth 20000 in
theorem gX9_round_X9_orders : GoodIn wsX9_round (wsV RX9 144 RX9 yX9_orders wsX9_orders) := goodIn_app (goodIn_of _ (by decide +kernel)) ggX9_round_X9_orders
set_option maxRecDepth 20000 in
theorem ggX9_round_X9_isOrder : GoodIn wsX9_round wsX9_isOrder := goodIn_r _ [11, 2, 1, 17, 18, 19, 20, 21, 22, 23, 24, 25, 26, 27, 28, 29, 30, 31, 32, 33, 34, 35, 36, 37, 38, 39, 40, 41, 42, 43, 44, 45, 46, 47, 48, 49, 50, 51] (by decide +kernel) (by decide +kernel)
set_option maxRecDepth 20000 in
theorem gX9_round_X9_isOrder : GoodIn wsX9_round (wsV RX9 147 RX9 yX9_isOrder wsX9_isOrder) := goodIn_app (goodIn_of _ (by decide +kernel)) ggX9_round_X9_isOrder
set_option maxRecDepth 20000 in
theorem ggX9_round_X9_d : GoodIn wsX9_round wsX9_d := goodIn_r _ [15, 16, 17, 18, 19, 20, 21, 22, 23, 24, 25, 26, 27, 28, 29, 30, 31, 32, 33, 34, 35, 36, 37, 38, 39, 40, 41, 42, 43, 44, 45, 46, 47, 48, 49, 50, 51] (by decide +kernel) (by decide +kernel)
set_option maxRecDepth 20000 in
theorem gX9_round_X9_d : GoodIn wsX9_round (wsV RX9 111 RX9 yX9_d wsX9_d) := goodIn_app (goodIn_of _ (by decide +kernel)) ggX9_round_X9_d
theorem dX9_round_0 : decode cX9_round 0 = .ok (.iconst (-1), 1) := by decide +kernel
theorem dX9_round_1 : decode cX9_round 1 = .ok (.istore_n 1, 1) := by decide +kernel
theorem dX9_round_2 : decode cX9_round 2 = .ok (.iconst 0, 1) := by decide +kernel
theorem dX9_round_3 : decode cX9_round 3 = .ok (.istore_n 2, 1) := by decide +kernel
theorem dX9_round_4 : decode cX9_round 4 = .ok (.iload_n 2, 1) := by decide +kernel
theorem dX9_round_5 : decode cX9_round 5 = .ok (.aload_n 0, 1) := by decide +kernel
theorem dX9_round_6 : decode cX9_round 6 = .ok (.invokevirtual 144, 3) := by decide +kernel
theorem dX9_round_9 : decode cX9_round 9 = .ok (.if_icmp .ge 98, 3) := by decide +kernel
theorem dX9_round_12 : decode cX9_round 12 = .ok (.aload_n 0, 1) := by decide +kernel
theorem dX9_round_13 : decode cX9_round 13 = .ok (.iload_n 2, 1) := by decide +kernel
theorem dX9_round_14 : decode cX9_round 14 = .ok (.invokevirtual 147, 3) := by decide +kernel
theorem dX9_round_17 : decode cX9_round 17 = .ok (.ifCond .ne 6, 3) := by decide +kernel
theorem dX9_round_20 : decode cX9_round 20 = .ok (.goto 81, 3) := by decide +kernel
theorem dX9_round_23 : decode cX9_round 23 = .ok (.aload_n 0, 1) := by decide +kernel
theorem dX9_round_24 : decode cX9_round 24 = .ok (.aload_n 0, 1) := by decide +kernel
theorem dX9_round_25 : decode cX9_round 25 = .ok (.getfield 68, 3) := by decide +kernel
theorem dX9_round_28 : decode cX9_round 28 = .ok (.aload_n 0, 1) := by decide +kernel
theorem dX9_round_29 : decode cX9_round 29 = .ok (.getfield 9, 3) := by decide +kernel
theorem dX9_round_32 : decode cX9_round 32 = .ok (.iconst 1, 1) := by decide +kernel
theorem dX9_round_33 : decode cX9_round 33 = .ok (.isub, 1) := by decide +kernel
theorem dX9_round_34 : decode cX9_round 34 = .ok (.iaload, 1) := by decide +kernel
theorem dX9_round_35 : decode cX9_round 35 = .ok (.aload_n 0, 1) := by decide +kernel
theorem dX9_round_36 : decode cX9_round 36 = .ok (.getfield 68, 3) := by decide +kernel
theorem dX9_round_39 : decode cX9_round 39 = .ok (.iconst 0, 1) := by decide +kernel
theorem dX9_round_40 : decode cX9_round 40 = .ok (.iaload, 1) := by decide +kernel
theorem dX9_round_41 : decode cX9_round 41 = .ok (.invokevirtual 111, 3) := by decide +kernel
theorem dX9_round_44 : decode cX9_round 44 = .ok (.istore_n 3, 1) := by decide +kernel
theorem dX9_round_45 : decode cX9_round 45 = .ok (.iconst 1, 1) := by decide +kernel
theorem dX9_round_46 : decode cX9_round 46 = .ok (.istore 4, 2) := by decide +kernel
theorem dX9_round_48 : decode cX9_round 48 = .ok (.iload 4, 2) := by decide +kernel
theorem dX9_round_50 : decode cX9_round 50 = .ok (.aload_n 0, 1) := by decide +kernel
theorem dX9_round_51 : decode cX9_round 51 = .ok (.getfield 9, 3) := by decide +kernel
theorem dX9_round_54 : decode cX9_round 54 = .ok (.if_icmp .ge 32, 3) := by decide +kernel
theorem dX9_round_57 : decode cX9_round 57 = .ok (.iload_n 3, 1) := by decide +kernel
theorem dX9_round_58 : decode cX9_round 58 = .ok (.aload_n 0, 1) := by decide +kernel
theorem dX9_round_59 : decode cX9_round 59 = .ok (.aload_n 0, 1) := by decide +kernel
theorem dX9_round_60 : decode cX9_round 60 = .ok (.getfield 68, 3) := by decide +kernel
theorem dX9_round_63 : decode cX9_round 63 = .ok (.iload 4, 2) := by decide +kernel
theorem dX9_round_65 : decode cX9_round 65 = .ok (.iconst 1, 1) := by decide +kernel
theorem dX9_round_66 : decode cX9_round 66 = .ok (.isub, 1) := by decide +kernel
theorem dX9_round_67 : decode cX9_round 67 = .ok (.iaload, 1) := by decide +kernel
theorem dX9_round_68 : decode cX9_round 68 = .ok (.aload_n 0, 1) := by decide +kernel
theorem dX9_round_69 : decode cX9_round 69 = .ok (.getfield 68, 3) := by decide +kernel
theorem dX9_round_72 : decode cX9_round 72 = .ok (.iload 4, 2) := by decide +kernel
theorem dX9_round_74 : decode cX9_round 74 = .ok (.iaload, 1) := by decide +kernel
theorem dX9_round_75 : decode cX9_round 75 = .ok (.invokevirtual 111, 3) := by decide +kernel
theorem dX9_round_78 : decode cX9_round 78 = .ok (.iadd, 1) := by decide +kernel
theorem dX9_round_79 : decode cX9_round 79 = .ok (.istore_n 3, 1) := by decide +kernel
theorem dX9_round_80 : decode cX9_round 80 = .ok (.iinc 4 1, 3) := by decide +kernel
theorem dX9_round_83 : decode cX9_round 83 = .ok (.goto (-35), 3) := by decide +kernel
theorem dX9_round_86 : decode cX9_round 86 = .ok (.iload_n 1, 1) := by decide +kernel
theorem dX9_round_87 : decode cX9_round 87 = .ok (.ifCond .lt 8, 3) := by decide +kernel
theorem dX9_round_90 : decode cX9_round 90 = .ok (.iload_n 3, 1) := by decide +kernel
theorem dX9_round_91 : decode cX9_round 91 = .ok (.iload_n 1, 1) := by decide +kernel
theorem dX9_round_92 : decode cX9_round 92 = .ok (.if_icmp .ge 7, 3) := by decide +kernel
theorem dX9_round_95 : decode cX9_round 95 = .ok (.iload_n 3, 1) := by decide +kernel
theorem dX9_round_96 : decode cX9_round 96 = .ok (.goto 4, 3) := by decide +kernel
theorem dX9_round_99 : decode cX9_round 99 = .ok (.iload_n 1, 1) := by decide +kernel
theorem dX9_round_100 : decode cX9_round 100 = .ok (.istore_n 1, 1) := by decide +kernel
theorem dX9_round_101 : decode cX9_round 101 = .ok (.iinc 2 1, 3) := by decide +kernel
theorem dX9_round_104 : decode cX9_round 104 = .ok (.goto (-100), 3) := by decide +kernel
theorem dX9_round_107 : decode cX9_round 107 = .ok (.iload_n 1, 1) := by decide +kernel
theorem dX9_round_108 : decode cX9_round 108 = .ok (.ireturn, 1) := by decide +kernel
set_option maxRecDepth 20000 in
theorem ggX9_keepers_X9_orders : GoodIn wsX9_keepers wsX9_orders := goodIn_r _ [7, 1, 17, 18, 19, 20, 21, 22, 23, 24, 25, 26, 27, 28, 29, 30, 31, 32, 33, 34, 35, 36, 37, 38, 39, 40, 41, 42, 43, 44, 45, 46, 47, 48, 49, 50, 51] (by decide +kernel) (by decide +kernel)
set_option maxRecDepth 20000 in
theorem gX9_keepers_X9_orders : GoodIn wsX9_keepers (wsV RX9 144 RX9 yX9_orders wsX9_orders) := goodIn_app (goodIn_of _ (by decide +kernel)) ggX9_keepers_X9_orders
set_option maxRecDepth 20000 in
theorem ggX9_keepers_X9_isOrder : GoodIn wsX9_keepers wsX9_isOrder := goodIn_r _ [11, 1, 2, 17, 18, 19, 20, 21, 22, 23, 24, 25, 26, 27, 28, 29, 30, 31, 32, 33, 34, 35, 36, 37, 38, 39, 40, 41, 42, 43, 44, 45, 46, 47, 48, 49, 50, 51] (by decide +kernel) (by decide +kernel)
set_option maxRecDepth 20000 in
theorem gX9_keepers_X9_isOrder : GoodIn wsX9_keepers (wsV RX9 147 RX9 yX9_isOrder wsX9_isOrder) := goodIn_app (goodIn_of _ (by decide +kernel)) ggX9_keepers_X9_isOrder
set_option maxRecDepth 20000 in
theorem ggX9_keepers_X9_d : GoodIn wsX9_keepers wsX9_d := goodIn_r _ [15, 16, 17, 18, 19, 20, 21, 22, 23, 24, 25, 26, 27, 28, 29, 30, 31, 32, 33, 34, 35, 36, 37, 38, 39, 40, 41, 42, 43, 44, 45, 46, 47, 48, 49, 50, 51] (by decide +kernel) (by decide +kernel)
set_option maxRecDepth 20000 in
theorem gX9_keepers_X9_d : GoodIn wsX9_keepers (wsV RX9 111 RX9 yX9_d wsX9_d) := goodIn_app (goodIn_of _ (by decide +kernel)) ggX9_keepers_X9_d
theorem dX9_keepers_0 : decode cX9_keepers 0 = .ok (.iconst 0, 1) := by decide +kernel
theorem dX9_keepers_1 : decode cX9_keepers 1 = .ok (.istore_n 1, 1) := by decide +kernel
theorem dX9_keepers_2 : decode cX9_keepers 2 = .ok (.iconst 0, 1) := by decide +kernel
theorem dX9_keepers_3 : decode cX9_keepers 3 = .ok (.istore_n 2, 1) := by decide +kernel
theorem dX9_keepers_4 : decode cX9_keepers 4 = .ok (.iload_n 2, 1) := by decide +kernel
theorem dX9_keepers_5 : decode cX9_keepers 5 = .ok (.aload_n 0, 1) := by decide +kernel
theorem dX9_keepers_6 : decode cX9_keepers 6 = .ok (.invokevirtual 144, 3) := by decide +kernel
theorem dX9_keepers_9 : decode cX9_keepers 9 = .ok (.if_icmp .ge 104, 3) := by decide +kernel
theorem dX9_keepers_12 : decode cX9_keepers 12 = .ok (.aload_n 0, 1) := by decide +kernel
theorem dX9_keepers_13 : decode cX9_keepers 13 = .ok (.iload_n 2, 1) := by decide +kernel
theorem dX9_keepers_14 : decode cX9_keepers 14 = .ok (.invokevirtual 147, 3) := by decide +kernel
theorem dX9_keepers_17 : decode cX9_keepers 17 = .ok (.istore_n 3, 1) := by decide +kernel
theorem dX9_keepers_18 : decode cX9_keepers 18 = .ok (.iconst 0, 1) := by decide +kernel
theorem dX9_keepers_19 : decode cX9_keepers 19 = .ok (.istore 4, 2) := by decide +kernel
theorem dX9_keepers_21 : decode cX9_keepers 21 = .ok (.iload 4, 2) := by decide +kernel
theorem dX9_keepers_23 : decode cX9_keepers 23 = .ok (.aload_n 0, 1) := by decide +kernel
theorem dX9_keepers_24 : decode cX9_keepers 24 = .ok (.getfield 9, 3) := by decide +kernel
theorem dX9_keepers_27 : decode cX9_keepers 27 = .ok (.if_icmp .ge 68, 3) := by decide +kernel
theorem dX9_keepers_30 : decode cX9_keepers 30 = .ok (.iload_n 3, 1) := by decide +kernel
theorem dX9_keepers_31 : decode cX9_keepers 31 = .ok (.ifCond .eq 64, 3) := by decide +kernel
theorem dX9_keepers_34 : decode cX9_keepers 34 = .ok (.iconst 0, 1) := by decide +kernel
theorem dX9_keepers_35 : decode cX9_keepers 35 = .ok (.istore 5, 2) := by decide +kernel
theorem dX9_keepers_37 : decode cX9_keepers 37 = .ok (.iload 5, 2) := by decide +kernel
theorem dX9_keepers_39 : decode cX9_keepers 39 = .ok (.iload 4, 2) := by decide +kernel
theorem dX9_keepers_41 : decode cX9_keepers 41 = .ok (.if_icmp .ge 48, 3) := by decide +kernel
theorem dX9_keepers_44 : decode cX9_keepers 44 = .ok (.iload_n 3, 1) := by decide +kernel
theorem dX9_keepers_45 : decode cX9_keepers 45 = .ok (.ifCond .eq 36, 3) := by decide +kernel
theorem dX9_keepers_48 : decode cX9_keepers 48 = .ok (.aload_n 0, 1) := by decide +kernel
theorem dX9_keepers_49 : decode cX9_keepers 49 = .ok (.aload_n 0, 1) := by decide +kernel
theorem dX9_keepers_50 : decode cX9_keepers 50 = .ok (.getfield 68, 3) := by decide +kernel
theorem dX9_keepers_53 : decode cX9_keepers 53 = .ok (.iload 4, 2) := by decide +kernel
theorem dX9_keepers_55 : decode cX9_keepers 55 = .ok (.iaload, 1) := by decide +kernel
theorem dX9_keepers_56 : decode cX9_keepers 56 = .ok (.aload_n 0, 1) := by decide +kernel
theorem dX9_keepers_57 : decode cX9_keepers 57 = .ok (.getfield 68, 3) := by decide +kernel
theorem dX9_keepers_60 : decode cX9_keepers 60 = .ok (.iload 5, 2) := by decide +kernel
theorem dX9_keepers_62 : decode cX9_keepers 62 = .ok (.iaload, 1) := by decide +kernel
theorem dX9_keepers_63 : decode cX9_keepers 63 = .ok (.invokevirtual 111, 3) := by decide +kernel
theorem dX9_keepers_66 : decode cX9_keepers 66 = .ok (.aload_n 0, 1) := by decide +kernel
theorem dX9_keepers_67 : decode cX9_keepers 67 = .ok (.iload 4, 2) := by decide +kernel
theorem dX9_keepers_69 : decode cX9_keepers 69 = .ok (.iload 5, 2) := by decide +kernel
theorem dX9_keepers_71 : decode cX9_keepers 71 = .ok (.invokevirtual 111, 3) := by decide +kernel
theorem dX9_keepers_74 : decode cX9_keepers 74 = .ok (.if_icmp .ne 7, 3) := by decide +kernel
theorem dX9_keepers_77 : decode cX9_keepers 77 = .ok (.iconst 1, 1) := by decide +kernel
theorem dX9_keepers_78 : decode cX9_keepers 78 = .ok (.goto 4, 3) := by decide +kernel
theorem dX9_keepers_81 : decode cX9_keepers 81 = .ok (.iconst 0, 1) := by decide +kernel
theorem dX9_keepers_82 : decode cX9_keepers 82 = .ok (.istore_n 3, 1) := by decide +kernel
theorem dX9_keepers_83 : decode cX9_keepers 83 = .ok (.iinc 5 1, 3) := by decide +kernel
theorem dX9_keepers_86 : decode cX9_keepers 86 = .ok (.goto (-49), 3) := by decide +kernel
theorem dX9_keepers_89 : decode cX9_keepers 89 = .ok (.iinc 4 1, 3) := by decide +kernel
theorem dX9_keepers_92 : decode cX9_keepers 92 = .ok (.goto (-71), 3) := by decide +kernel
theorem dX9_keepers_95 : decode cX9_keepers 95 = .ok (.iload_n 1, 1) := by decide +kernel
theorem dX9_keepers_96 : decode cX9_keepers 96 = .ok (.iload_n 3, 1) := by decide +kernel
theorem dX9_keepers_97 : decode cX9_keepers 97 = .ok (.ifCond .eq 7, 3) := by decide +kernel
theorem dX9_keepers_100 : decode cX9_keepers 100 = .ok (.iconst 1, 1) := by decide +kernel
theorem dX9_keepers_101 : decode cX9_keepers 101 = .ok (.goto 4, 3) := by decide +kernel
theorem dX9_keepers_104 : decode cX9_keepers 104 = .ok (.iconst 0, 1) := by decide +kernel
theorem dX9_keepers_105 : decode cX9_keepers 105 = .ok (.iadd, 1) := by decide +kernel
theorem dX9_keepers_106 : decode cX9_keepers 106 = .ok (.istore_n 1, 1) := by decide +kernel
theorem dX9_keepers_107 : decode cX9_keepers 107 = .ok (.iinc 2 1, 3) := by decide +kernel
theorem dX9_keepers_110 : decode cX9_keepers 110 = .ok (.goto (-106), 3) := by decide +kernel
theorem dX9_keepers_113 : decode cX9_keepers 113 = .ok (.iload_n 1, 1) := by decide +kernel
theorem dX9_keepers_114 : decode cX9_keepers 114 = .ok (.ireturn, 1) := by decide +kernel
set_option maxRecDepth 20000 in
theorem ggX9_of_X9_isPoint : GoodIn wsX9_of wsX9_isPoint := goodIn_r _ [5, 6, 7, 8, 4, 9, 56, 57, 58, 59, 60, 61, 62, 63, 64, 65, 66, 67, 68, 69, 70, 71, 72, 73, 74, 75, 76, 77, 78, 79, 80, 81, 82, 83, 84, 85, 86, 87, 88, 89, 90] (by decide +kernel) (by decide +kernel)
set_option maxRecDepth 20000 in
theorem gX9_of_X9_isPoint : GoodIn wsX9_of (wsV RX9 99 RX9 yX9_isPoint wsX9_isPoint) := goodIn_app (goodIn_of _ (by decide +kernel)) ggX9_of_X9_isPoint
set_option maxRecDepth 20000 in
theorem ggX9_of_X9_in : GoodIn wsX9_of wsX9_in := goodIn_r _ [9] (by decide +kernel) (by decide +kernel)
set_option maxRecDepth 20000 in
theorem gX9_of_X9_in : GoodIn wsX9_of (va_wsS RX9 95 yX9_in wsX9_in) := goodIn_app (goodIn_of _ (by decide +kernel)) ggX9_of_X9_in
set_option maxRecDepth 20000 in
theorem ggX9_of_X9_laysAside : GoodIn wsX9_of wsX9_laysAside := goodIn_r _ [13, 14, 15, 56, 57, 58, 59, 60, 61, 62, 63, 64, 65, 66, 67, 68, 69, 70, 71, 72, 73, 74, 75, 76, 77, 78, 79, 80, 81, 82, 83, 84, 85, 86, 87, 88, 89, 90] (by decide +kernel) (by decide +kernel)
set_option maxRecDepth 20000 in
theorem gX9_of_X9_laysAside : GoodIn wsX9_of (wsV RX9 150 RX9 yX9_laysAside wsX9_laysAside) := goodIn_app (goodIn_of _ (by decide +kernel)) ggX9_of_X9_laysAside
set_option maxRecDepth 20000 in
theorem ggX9_of_X9_shortens : GoodIn wsX9_of wsX9_shortens := goodIn_r _ [19, 6, 20, 21, 22, 23, 24, 25, 26, 27, 4, 28, 15, 29, 30, 31, 32, 56, 57, 58, 59, 60, 61, 62, 63, 64, 65, 66, 67, 68, 69, 70, 71, 72, 73, 74, 75, 76, 77, 78, 79, 80, 81, 82, 83, 84, 85, 86, 87, 88, 89, 90] (by decide +kernel) (by decide +kernel)
set_option maxRecDepth 20000 in
theorem gX9_of_X9_shortens : GoodIn wsX9_of (wsV RX9 120 RX9 yX9_shortens wsX9_shortens) := goodIn_app (goodIn_of _ (by decide +kernel)) ggX9_of_X9_shortens
set_option maxRecDepth 20000 in
theorem ggX9_of_X9_d : GoodIn wsX9_of wsX9_d := goodIn_r _ [28, 15, 56, 57, 58, 59, 60, 61, 62, 63, 64, 65, 66, 67, 68, 69, 70, 71, 72, 73, 74, 75, 76, 77, 78, 79, 80, 81, 82, 83, 84, 85, 86, 87, 88, 89, 90] (by decide +kernel) (by decide +kernel)
set_option maxRecDepth 20000 in
theorem gX9_of_X9_d : GoodIn wsX9_of (wsV RX9 111 RX9 yX9_d wsX9_d) := goodIn_app (goodIn_of _ (by decide +kernel)) ggX9_of_X9_d
set_option maxRecDepth 20000 in
theorem ggX9_of_X9_laysBack : GoodIn wsX9_of wsX9_laysBack := goodIn_r _ [36, 15, 14, 56, 57, 58, 59, 60, 61, 62, 63, 64, 65, 66, 67, 68, 69, 70, 71, 72, 73, 74, 75, 76, 77, 78, 79, 80, 81, 82, 83, 84, 85, 86, 87, 88, 89, 90] (by decide +kernel) (by decide +kernel)
set_option maxRecDepth 20000 in
theorem gX9_of_X9_laysBack : GoodIn wsX9_of (wsV RX9 153 RX9 yX9_laysBack wsX9_laysBack) := goodIn_app (goodIn_of _ (by decide +kernel)) ggX9_of_X9_laysBack
set_option maxRecDepth 20000 in
theorem ggX9_of_X9_restOf : GoodIn wsX9_of wsX9_restOf := goodIn_r _ [40, 25, 26, 27, 4, 28, 15, 41, 42, 43, 44, 6, 7, 8, 9, 45, 46, 47, 48, 49, 50, 23, 51, 21, 22, 24, 52, 53, 54, 55, 56, 57, 58, 59, 60, 61, 62, 63, 64, 65, 66, 67, 68, 69, 70, 71, 72, 73, 74, 75, 76, 77, 78, 79, 80, 81, 82, 83, 84, 85, 86, 87, 88, 89, 90] (by decide +kernel) (by decide +kernel)
set_option maxRecDepth 20000 in
theorem gX9_of_X9_restOf : GoodIn wsX9_of (wsV RX9 156 RX9 yX9_restOf wsX9_restOf) := goodIn_app (goodIn_of _ (by decide +kernel)) ggX9_of_X9_restOf
theorem dX9_of_0 : decode cX9_of 0 = .ok (.aload_n 0, 1) := by decide +kernel
theorem dX9_of_1 : decode cX9_of 1 = .ok (.iload_n 1, 1) := by decide +kernel
theorem dX9_of_2 : decode cX9_of 2 = .ok (.invokevirtual 99, 3) := by decide +kernel
theorem dX9_of_5 : decode cX9_of 5 = .ok (.ifCond .eq 20, 3) := by decide +kernel
theorem dX9_of_8 : decode cX9_of 8 = .ok (.aload_n 0, 1) := by decide +kernel
theorem dX9_of_9 : decode cX9_of 9 = .ok (.iload_n 2, 1) := by decide +kernel
theorem dX9_of_10 : decode cX9_of 10 = .ok (.invokevirtual 99, 3) := by decide +kernel
theorem dX9_of_13 : decode cX9_of 13 = .ok (.ifCond .eq 12, 3) := by decide +kernel
theorem dX9_of_16 : decode cX9_of 16 = .ok (.iload_n 3, 1) := by decide +kernel
theorem dX9_of_17 : decode cX9_of 17 = .ok (.iconst 0, 1) := by decide +kernel
theorem dX9_of_18 : decode cX9_of 18 = .ok (.iconst 2, 1) := by decide +kernel
theorem dX9_of_19 : decode cX9_of 19 = .ok (.invokestatic 95, 3) := by decide +kernel
theorem dX9_of_22 : decode cX9_of 22 = .ok (.ifCond .ne 5, 3) := by decide +kernel
theorem dX9_of_25 : decode cX9_of 25 = .ok (.iconst (-1), 1) := by decide +kernel
theorem dX9_of_26 : decode cX9_of 26 = .ok (.ireturn, 1) := by decide +kernel
theorem dX9_of_27 : decode cX9_of 27 = .ok (.iload_n 3, 1) := by decide +kernel
theorem dX9_of_28 : decode cX9_of 28 = .ok (.iconst 1, 1) := by decide +kernel
theorem dX9_of_29 : decode cX9_of 29 = .ok (.if_icmp .ne 28, 3) := by decide +kernel
theorem dX9_of_32 : decode cX9_of 32 = .ok (.aload_n 0, 1) := by decide +kernel
theorem dX9_of_33 : decode cX9_of 33 = .ok (.invokevirtual 150, 3) := by decide +kernel
theorem dX9_of_36 : decode cX9_of 36 = .ok (.aload_n 0, 1) := by decide +kernel
theorem dX9_of_37 : decode cX9_of 37 = .ok (.invokevirtual 120, 3) := by decide +kernel
theorem dX9_of_40 : decode cX9_of 40 = .ok (.istore 4, 2) := by decide +kernel
theorem dX9_of_42 : decode cX9_of 42 = .ok (.aload_n 0, 1) := by decide +kernel
theorem dX9_of_43 : decode cX9_of 43 = .ok (.iload_n 1, 1) := by decide +kernel
theorem dX9_of_44 : decode cX9_of 44 = .ok (.iload_n 2, 1) := by decide +kernel
theorem dX9_of_45 : decode cX9_of 45 = .ok (.invokevirtual 111, 3) := by decide +kernel
theorem dX9_of_48 : decode cX9_of 48 = .ok (.istore 5, 2) := by decide +kernel
theorem dX9_of_50 : decode cX9_of 50 = .ok (.aload_n 0, 1) := by decide +kernel
theorem dX9_of_51 : decode cX9_of 51 = .ok (.invokevirtual 153, 3) := by decide +kernel
theorem dX9_of_54 : decode cX9_of 54 = .ok (.iload 5, 2) := by decide +kernel
theorem dX9_of_56 : decode cX9_of 56 = .ok (.ireturn, 1) := by decide +kernel
theorem dX9_of_57 : decode cX9_of 57 = .ok (.iload_n 3, 1) := by decide +kernel
theorem dX9_of_58 : decode cX9_of 58 = .ok (.ifCond .ne 12, 3) := by decide +kernel
theorem dX9_of_61 : decode cX9_of 61 = .ok (.aload_n 0, 1) := by decide +kernel
theorem dX9_of_62 : decode cX9_of 62 = .ok (.iload_n 1, 1) := by decide +kernel
theorem dX9_of_63 : decode cX9_of 63 = .ok (.iload_n 2, 1) := by decide +kernel
theorem dX9_of_64 : decode cX9_of 64 = .ok (.invokevirtual 111, 3) := by decide +kernel
theorem dX9_of_67 : decode cX9_of 67 = .ok (.goto 9, 3) := by decide +kernel
theorem dX9_of_70 : decode cX9_of 70 = .ok (.aload_n 0, 1) := by decide +kernel
theorem dX9_of_71 : decode cX9_of 71 = .ok (.iload_n 1, 1) := by decide +kernel
theorem dX9_of_72 : decode cX9_of 72 = .ok (.iload_n 2, 1) := by decide +kernel
theorem dX9_of_73 : decode cX9_of 73 = .ok (.invokevirtual 156, 3) := by decide +kernel
theorem dX9_of_76 : decode cX9_of 76 = .ok (.ireturn, 1) := by decide +kernel
set_option maxRecDepth 20000 in
theorem ggX9_told_X9_barred : GoodIn wsX9_told wsX9_barred := goodIn_r _ [6, 1, 7, 8, 9, 5, 10, 11, 79, 80, 81, 82, 83, 84, 85, 86, 87, 88, 89, 90, 91, 92, 93, 94, 95, 96, 97, 98, 99, 100, 101, 102, 103, 104, 105, 106, 107, 108, 109, 110, 111, 112, 113] (by decide +kernel) (by decide +kernel)
set_option maxRecDepth 20000 in
theorem gX9_told_X9_barred : GoodIn wsX9_told (wsV RX9 124 RX9 yX9_barred wsX9_barred) := goodIn_app (goodIn_of _ (by decide +kernel)) ggX9_told_X9_barred
set_option maxRecDepth 20000 in
theorem ggX9_told_X9_counting : GoodIn wsX9_told wsX9_counting := goodIn_r _ [15, 16, 17, 18, 5, 19, 1, 20, 21, 22, 23, 24, 25, 26, 27, 28, 29, 30, 31, 32, 33, 34, 35, 36, 37, 7, 8, 9, 10, 11, 79, 80, 81, 82, 83, 84, 85, 86, 87, 88, 89, 90, 91, 92, 93, 94, 95, 96, 97, 98, 99, 100, 101, 102, 103, 104, 105, 106, 107, 108, 109, 110, 111, 112, 113] (by decide +kernel) (by decide +kernel)
set_option maxRecDepth 20000 in
theorem gX9_told_X9_counting : GoodIn wsX9_told (wsV RX9 159 RX9 yX9_counting wsX9_counting) := goodIn_app (goodIn_of _ (by decide +kernel)) ggX9_told_X9_counting
set_option maxRecDepth 20000 in
theorem ggX9_told_X9_isTree : GoodIn wsX9_told wsX9_isTree := goodIn_r _ [41, 1, 42, 43, 44, 5, 45, 27, 28, 29, 30, 7, 8, 9, 10, 11, 2, 3, 4, 6, 79, 80, 81, 82, 83, 84, 85, 86, 87, 88, 89, 90, 91, 92, 93, 94, 95, 96, 97, 98, 99, 100, 101, 102, 103, 104, 105, 106, 107, 108, 109, 110, 111, 112, 113] (by decide +kernel) (by decide +kernel)
set_option maxRecDepth 20000 in
theorem gX9_told_X9_isTree : GoodIn wsX9_told (wsV RX9 162 RX9 yX9_isTree wsX9_isTree) := goodIn_app (goodIn_of _ (by decide +kernel)) ggX9_told_X9_isTree
set_option maxRecDepth 20000 in
theorem ggX9_told_X9_span : GoodIn wsX9_told wsX9_span := goodIn_r _ [49, 1, 27, 28, 29, 30, 7, 8, 9, 5, 10, 11, 79, 80, 81, 82, 83, 84, 85, 86, 87, 88, 89, 90, 91, 92, 93, 94, 95, 96, 97, 98, 99, 100, 101, 102, 103, 104, 105, 106, 107, 108, 109, 110, 111, 112, 113] (by decide +kernel) (by decide +kernel)
set_option maxRecDepth 20000 in
theorem gX9_told_X9_span : GoodIn wsX9_told (wsV RX9 166 RX9 yX9_span wsX9_span) := goodIn_app (goodIn_of _ (by decide +kernel)) ggX9_told_X9_span
set_option maxRecDepth 20000 in
theorem ggX9_told_X9_girth : GoodIn wsX9_told wsX9_girth := goodIn_r _ [53, 1, 7, 8, 9, 5, 10, 11, 79, 80, 81, 82, 83, 84, 85, 86, 87, 88, 89, 90, 91, 92, 93, 94, 95, 96, 97, 98, 99, 100, 101, 102, 103, 104, 105, 106, 107, 108, 109, 110, 111, 112, 113] (by decide +kernel) (by decide +kernel)
set_option maxRecDepth 20000 in
theorem gX9_told_X9_girth : GoodIn wsX9_told (wsV RX9 169 RX9 yX9_girth wsX9_girth) := goodIn_app (goodIn_of _ (by decide +kernel)) ggX9_told_X9_girth
set_option maxRecDepth 20000 in
theorem ggX9_told_X9_usual : GoodIn wsX9_told wsX9_usual := goodIn_r _ [57, 58, 59, 60, 5, 61, 1, 7, 8, 9, 10, 11, 79, 80, 81, 82, 83, 84, 85, 86, 87, 88, 89, 90, 91, 92, 93, 94, 95, 96, 97, 98, 99, 100, 101, 102, 103, 104, 105, 106, 107, 108, 109, 110, 111, 112, 113] (by decide +kernel) (by decide +kernel)
set_option maxRecDepth 20000 in
theorem gX9_told_X9_usual : GoodIn wsX9_told (wsV RX9 172 RX9 yX9_usual wsX9_usual) := goodIn_app (goodIn_of _ (by decide +kernel)) ggX9_told_X9_usual
set_option maxRecDepth 20000 in
theorem ggX9_told_X9_round : GoodIn wsX9_told wsX9_round := goodIn_r _ [65, 66, 1, 67, 68, 69, 5, 70, 71, 72, 73, 74, 7, 8, 9, 10, 11, 79, 80, 81, 82, 83, 84, 85, 86, 87, 88, 89, 90, 91, 92, 93, 94, 95, 96, 97, 98, 99, 100, 101, 102, 103, 104, 105, 106, 107, 108, 109, 110, 111, 112, 113] (by decide +kernel) (by decide +kernel)
set_option maxRecDepth 20000 in
theorem gX9_told_X9_round : GoodIn wsX9_told (wsV RX9 175 RX9 yX9_round wsX9_round) := goodIn_app (goodIn_of _ (by decide +kernel)) ggX9_told_X9_round
set_option maxRecDepth 20000 in
theorem ggX9_told_X9_keepers : GoodIn wsX9_told wsX9_keepers := goodIn_r _ [78, 1, 66, 67, 68, 69, 5, 70, 71, 72, 73, 74, 7, 8, 9, 10, 11, 79, 80, 81, 82, 83, 84, 85, 86, 87, 88, 89, 90, 91, 92, 93, 94, 95, 96, 97, 98, 99, 100, 101, 102, 103, 104, 105, 106, 107, 108, 109, 110, 111, 112, 113] (by decide +kernel) (by decide +kernel)
set_option maxRecDepth 20000 in
theorem gX9_told_X9_keepers : GoodIn wsX9_told (wsV RX9 178 RX9 yX9_keepers wsX9_keepers) := goodIn_app (goodIn_of _ (by decide +kernel)) ggX9_told_X9_keepers
theorem dX9_told_0 : decode cX9_told 0 = .ok (.iload_n 1, 1) := by decide +kernel
theorem dX9_told_1 : decode cX9_told 1 = .ok (.tableswitch 121 0 9 #[55, 60, 73, 78, 83, 96, 101, 106, 111, 116], 55) := by decide +kernel
theorem dX9_told_56 : decode cX9_told 56 = .ok (.aload_n 0, 1) := by decide +kernel
theorem dX9_told_57 : decode cX9_told 57 = .ok (.getfield 9, 3) := by decide +kernel
theorem dX9_told_60 : decode cX9_told 60 = .ok (.ireturn, 1) := by decide +kernel
theorem dX9_told_61 : decode cX9_told 61 = .ok (.aload_n 0, 1) := by decide +kernel
theorem dX9_told_62 : decode cX9_told 62 = .ok (.invokevirtual 124, 3) := by decide +kernel
theorem dX9_told_65 : decode cX9_told 65 = .ok (.ifCond .ge 7, 3) := by decide +kernel
theorem dX9_told_68 : decode cX9_told 68 = .ok (.iconst 1, 1) := by decide +kernel
theorem dX9_told_69 : decode cX9_told 69 = .ok (.goto 4, 3) := by decide +kernel
theorem dX9_told_72 : decode cX9_told 72 = .ok (.iconst 0, 1) := by decide +kernel
theorem dX9_told_73 : decode cX9_told 73 = .ok (.ireturn, 1) := by decide +kernel
theorem dX9_told_74 : decode cX9_told 74 = .ok (.aload_n 0, 1) := by decide +kernel
theorem dX9_told_75 : decode cX9_told 75 = .ok (.invokevirtual 124, 3) := by decide +kernel
theorem dX9_told_78 : decode cX9_told 78 = .ok (.ireturn, 1) := by decide +kernel
theorem dX9_told_79 : decode cX9_told 79 = .ok (.aload_n 0, 1) := by decide +kernel
theorem dX9_told_80 : decode cX9_told 80 = .ok (.invokevirtual 159, 3) := by decide +kernel
theorem dX9_told_83 : decode cX9_told 83 = .ok (.ireturn, 1) := by decide +kernel
theorem dX9_told_84 : decode cX9_told 84 = .ok (.aload_n 0, 1) := by decide +kernel
theorem dX9_told_85 : decode cX9_told 85 = .ok (.invokevirtual 162, 3) := by decide +kernel
theorem dX9_told_88 : decode cX9_told 88 = .ok (.ifCond .eq 7, 3) := by decide +kernel
theorem dX9_told_91 : decode cX9_told 91 = .ok (.iconst 1, 1) := by decide +kernel
theorem dX9_told_92 : decode cX9_told 92 = .ok (.goto 4, 3) := by decide +kernel
theorem dX9_told_95 : decode cX9_told 95 = .ok (.iconst 0, 1) := by decide +kernel
theorem dX9_told_96 : decode cX9_told 96 = .ok (.ireturn, 1) := by decide +kernel
theorem dX9_told_97 : decode cX9_told 97 = .ok (.aload_n 0, 1) := by decide +kernel
theorem dX9_told_98 : decode cX9_told 98 = .ok (.invokevirtual 166, 3) := by decide +kernel
theorem dX9_told_101 : decode cX9_told 101 = .ok (.ireturn, 1) := by decide +kernel
theorem dX9_told_102 : decode cX9_told 102 = .ok (.aload_n 0, 1) := by decide +kernel
theorem dX9_told_103 : decode cX9_told 103 = .ok (.invokevirtual 169, 3) := by decide +kernel
theorem dX9_told_106 : decode cX9_told 106 = .ok (.ireturn, 1) := by decide +kernel
theorem dX9_told_107 : decode cX9_told 107 = .ok (.aload_n 0, 1) := by decide +kernel
theorem dX9_told_108 : decode cX9_told 108 = .ok (.invokevirtual 172, 3) := by decide +kernel
theorem dX9_told_111 : decode cX9_told 111 = .ok (.ireturn, 1) := by decide +kernel
theorem dX9_told_112 : decode cX9_told 112 = .ok (.aload_n 0, 1) := by decide +kernel
theorem dX9_told_113 : decode cX9_told 113 = .ok (.invokevirtual 175, 3) := by decide +kernel
theorem dX9_told_116 : decode cX9_told 116 = .ok (.ireturn, 1) := by decide +kernel
theorem dX9_told_117 : decode cX9_told 117 = .ok (.aload_n 0, 1) := by decide +kernel
theorem dX9_told_118 : decode cX9_told 118 = .ok (.invokevirtual 178, 3) := by decide +kernel
theorem dX9_told_121 : decode cX9_told 121 = .ok (.ireturn, 1) := by decide +kernel
theorem dX9_told_122 : decode cX9_told 122 = .ok (.iconst (-1), 1) := by decide +kernel
theorem dX9_told_123 : decode cX9_told 123 = .ok (.ireturn, 1) := by decide +kernel
set_option maxRecDepth 20000 in
theorem ggX9_isTight_X9_d : GoodIn wsX9_isTight wsX9_d := goodIn_r _ [5, 6, 7, 8, 9, 10, 11, 12, 13, 14, 15, 16, 17, 18, 19, 20, 21, 22, 23, 24, 25, 26, 27, 28, 29, 30, 31, 32, 33, 34, 35, 36, 37, 38, 39, 40, 41] (by decide +kernel) (by decide +kernel)
set_option maxRecDepth 20000 in
theorem gX9_isTight_X9_d : GoodIn wsX9_isTight (wsV RX9 111 RX9 yX9_d wsX9_d) := goodIn_app (goodIn_of _ (by decide +kernel)) ggX9_isTight_X9_d
theorem dX9_isTight_0 : decode cX9_isTight 0 = .ok (.iload_n 3, 1) := by decide +kernel
theorem dX9_isTight_1 : decode cX9_isTight 1 = .ok (.iload 4, 2) := by decide +kernel
theorem dX9_isTight_3 : decode cX9_isTight 3 = .ok (.if_icmp .ne 19, 3) := by decide +kernel
theorem dX9_isTight_6 : decode cX9_isTight 6 = .ok (.aload_n 1, 1) := by decide +kernel
theorem dX9_isTight_7 : decode cX9_isTight 7 = .ok (.iload_n 2, 1) := by decide +kernel
theorem dX9_isTight_8 : decode cX9_isTight 8 = .ok (.iload_n 3, 1) := by decide +kernel
theorem dX9_isTight_9 : decode cX9_isTight 9 = .ok (.iadd, 1) := by decide +kernel
theorem dX9_isTight_10 : decode cX9_isTight 10 = .ok (.iaload, 1) := by decide +kernel
theorem dX9_isTight_11 : decode cX9_isTight 11 = .ok (.ifCond .ne 7, 3) := by decide +kernel
theorem dX9_isTight_14 : decode cX9_isTight 14 = .ok (.iconst 1, 1) := by decide +kernel
theorem dX9_isTight_15 : decode cX9_isTight 15 = .ok (.goto 36, 3) := by decide +kernel
theorem dX9_isTight_18 : decode cX9_isTight 18 = .ok (.iconst 0, 1) := by decide +kernel
theorem dX9_isTight_19 : decode cX9_isTight 19 = .ok (.goto 32, 3) := by decide +kernel
theorem dX9_isTight_22 : decode cX9_isTight 22 = .ok (.aload_n 1, 1) := by decide +kernel
theorem dX9_isTight_23 : decode cX9_isTight 23 = .ok (.iload_n 2, 1) := by decide +kernel
theorem dX9_isTight_24 : decode cX9_isTight 24 = .ok (.iload_n 3, 1) := by decide +kernel
theorem dX9_isTight_25 : decode cX9_isTight 25 = .ok (.iadd, 1) := by decide +kernel
theorem dX9_isTight_26 : decode cX9_isTight 26 = .ok (.iaload, 1) := by decide +kernel
theorem dX9_isTight_27 : decode cX9_isTight 27 = .ok (.aload_n 1, 1) := by decide +kernel
theorem dX9_isTight_28 : decode cX9_isTight 28 = .ok (.iload_n 2, 1) := by decide +kernel
theorem dX9_isTight_29 : decode cX9_isTight 29 = .ok (.iload 4, 2) := by decide +kernel
theorem dX9_isTight_31 : decode cX9_isTight 31 = .ok (.iadd, 1) := by decide +kernel
theorem dX9_isTight_32 : decode cX9_isTight 32 = .ok (.iaload, 1) := by decide +kernel
theorem dX9_isTight_33 : decode cX9_isTight 33 = .ok (.iadd, 1) := by decide +kernel
theorem dX9_isTight_34 : decode cX9_isTight 34 = .ok (.iconst 2, 1) := by decide +kernel
theorem dX9_isTight_35 : decode cX9_isTight 35 = .ok (.aload_n 0, 1) := by decide +kernel
theorem dX9_isTight_36 : decode cX9_isTight 36 = .ok (.iload_n 3, 1) := by decide +kernel
theorem dX9_isTight_37 : decode cX9_isTight 37 = .ok (.iload 4, 2) := by decide +kernel
theorem dX9_isTight_39 : decode cX9_isTight 39 = .ok (.invokevirtual 111, 3) := by decide +kernel
theorem dX9_isTight_42 : decode cX9_isTight 42 = .ok (.imul, 1) := by decide +kernel
theorem dX9_isTight_43 : decode cX9_isTight 43 = .ok (.if_icmp .ne 7, 3) := by decide +kernel
theorem dX9_isTight_46 : decode cX9_isTight 46 = .ok (.iconst 1, 1) := by decide +kernel
theorem dX9_isTight_47 : decode cX9_isTight 47 = .ok (.goto 4, 3) := by decide +kernel
theorem dX9_isTight_50 : decode cX9_isTight 50 = .ok (.iconst 0, 1) := by decide +kernel
theorem dX9_isTight_51 : decode cX9_isTight 51 = .ok (.ireturn, 1) := by decide +kernel
set_option maxRecDepth 20000 in
theorem ggX9_keeps_X9_d : GoodIn wsX9_keeps wsX9_d := goodIn_r _ [6, 7, 8, 9, 10, 11, 12, 13, 14, 15, 16, 17, 18, 19, 20, 21, 22, 23, 24, 25, 26, 27, 28, 29, 30, 31, 32, 33, 34, 35, 36, 37, 38, 39, 40, 41, 42] (by decide +kernel) (by decide +kernel)
set_option maxRecDepth 20000 in
theorem gX9_keeps_X9_d : GoodIn wsX9_keeps (wsV RX9 111 RX9 yX9_d wsX9_d) := goodIn_app (goodIn_of _ (by decide +kernel)) ggX9_keeps_X9_d
theorem dX9_keeps_0 : decode cX9_keeps 0 = .ok (.iconst 0, 1) := by decide +kernel
theorem dX9_keeps_1 : decode cX9_keeps 1 = .ok (.istore_n 3, 1) := by decide +kernel
theorem dX9_keeps_2 : decode cX9_keeps 2 = .ok (.iload_n 3, 1) := by decide +kernel
theorem dX9_keeps_3 : decode cX9_keeps 3 = .ok (.aload_n 0, 1) := by decide +kernel
theorem dX9_keeps_4 : decode cX9_keeps 4 = .ok (.getfield 9, 3) := by decide +kernel
theorem dX9_keeps_7 : decode cX9_keeps 7 = .ok (.if_icmp .ge 50, 3) := by decide +kernel
theorem dX9_keeps_10 : decode cX9_keeps 10 = .ok (.iconst 0, 1) := by decide +kernel
theorem dX9_keeps_11 : decode cX9_keeps 11 = .ok (.istore 4, 2) := by decide +kernel
theorem dX9_keeps_13 : decode cX9_keeps 13 = .ok (.iload 4, 2) := by decide +kernel
theorem dX9_keeps_15 : decode cX9_keeps 15 = .ok (.iload_n 3, 1) := by decide +kernel
theorem dX9_keeps_16 : decode cX9_keeps 16 = .ok (.if_icmp .ge 35, 3) := by decide +kernel
theorem dX9_keeps_19 : decode cX9_keeps 19 = .ok (.aload_n 1, 1) := by decide +kernel
theorem dX9_keeps_20 : decode cX9_keeps 20 = .ok (.iload_n 2, 1) := by decide +kernel
theorem dX9_keeps_21 : decode cX9_keeps 21 = .ok (.iload_n 3, 1) := by decide +kernel
theorem dX9_keeps_22 : decode cX9_keeps 22 = .ok (.iadd, 1) := by decide +kernel
theorem dX9_keeps_23 : decode cX9_keeps 23 = .ok (.iaload, 1) := by decide +kernel
theorem dX9_keeps_24 : decode cX9_keeps 24 = .ok (.aload_n 1, 1) := by decide +kernel
theorem dX9_keeps_25 : decode cX9_keeps 25 = .ok (.iload_n 2, 1) := by decide +kernel
theorem dX9_keeps_26 : decode cX9_keeps 26 = .ok (.iload 4, 2) := by decide +kernel
theorem dX9_keeps_28 : decode cX9_keeps 28 = .ok (.iadd, 1) := by decide +kernel
theorem dX9_keeps_29 : decode cX9_keeps 29 = .ok (.iaload, 1) := by decide +kernel
theorem dX9_keeps_30 : decode cX9_keeps 30 = .ok (.iadd, 1) := by decide +kernel
theorem dX9_keeps_31 : decode cX9_keeps 31 = .ok (.iconst 2, 1) := by decide +kernel
theorem dX9_keeps_32 : decode cX9_keeps 32 = .ok (.aload_n 0, 1) := by decide +kernel
theorem dX9_keeps_33 : decode cX9_keeps 33 = .ok (.iload_n 3, 1) := by decide +kernel
theorem dX9_keeps_34 : decode cX9_keeps 34 = .ok (.iload 4, 2) := by decide +kernel
theorem dX9_keeps_36 : decode cX9_keeps 36 = .ok (.invokevirtual 111, 3) := by decide +kernel
theorem dX9_keeps_39 : decode cX9_keeps 39 = .ok (.imul, 1) := by decide +kernel
theorem dX9_keeps_40 : decode cX9_keeps 40 = .ok (.if_icmp .ge 5, 3) := by decide +kernel
theorem dX9_keeps_43 : decode cX9_keeps 43 = .ok (.iconst 0, 1) := by decide +kernel
theorem dX9_keeps_44 : decode cX9_keeps 44 = .ok (.ireturn, 1) := by decide +kernel
theorem dX9_keeps_45 : decode cX9_keeps 45 = .ok (.iinc 4 1, 3) := by decide +kernel
theorem dX9_keeps_48 : decode cX9_keeps 48 = .ok (.goto (-35), 3) := by decide +kernel
theorem dX9_keeps_51 : decode cX9_keeps 51 = .ok (.iinc 3 1, 3) := by decide +kernel
theorem dX9_keeps_54 : decode cX9_keeps 54 = .ok (.goto (-52), 3) := by decide +kernel
theorem dX9_keeps_57 : decode cX9_keeps 57 = .ok (.iconst 1, 1) := by decide +kernel
theorem dX9_keeps_58 : decode cX9_keeps 58 = .ok (.ireturn, 1) := by decide +kernel
set_option maxRecDepth 20000 in
theorem ggX9_isLeast_X9_isTight : GoodIn wsX9_isLeast wsX9_isTight := goodIn_r _ [6, 7, 8, 9, 5, 10, 11, 16, 17, 18, 19, 20, 21, 22, 23, 24, 25, 26, 27, 28, 29, 30, 31, 32, 33, 34, 35, 36, 37, 38, 39, 40, 41, 42, 43, 44, 45, 46, 47, 48, 49, 50] (by decide +kernel) (by decide +kernel)
set_option maxRecDepth 20000 in
theorem gX9_isLeast_X9_isTight : GoodIn wsX9_isLeast (wsV RX9 181 RX9 yX9_isTight wsX9_isTight) := goodIn_app (goodIn_of _ (by decide +kernel)) ggX9_isLeast_X9_isTight
set_option maxRecDepth 20000 in
theorem ggX9_isLeast_X9_keeps : GoodIn wsX9_isLeast wsX9_keeps := goodIn_r _ [15, 1, 7, 8, 9, 5, 10, 11, 16, 17, 18, 19, 20, 21, 22, 23, 24, 25, 26, 27, 28, 29, 30, 31, 32, 33, 34, 35, 36, 37, 38, 39, 40, 41, 42, 43, 44, 45, 46, 47, 48, 49, 50] (by decide +kernel) (by decide +kernel)
set_option maxRecDepth 20000 in
theorem gX9_isLeast_X9_keeps : GoodIn wsX9_isLeast (wsV RX9 185 RX9 yX9_keeps wsX9_keeps) := goodIn_app (goodIn_of _ (by decide +kernel)) ggX9_isLeast_X9_keeps
theorem dX9_isLeast_0 : decode cX9_isLeast 0 = .ok (.iconst 0, 1) := by decide +kernel
theorem dX9_isLeast_1 : decode cX9_isLeast 1 = .ok (.istore_n 3, 1) := by decide +kernel
theorem dX9_isLeast_2 : decode cX9_isLeast 2 = .ok (.iload_n 3, 1) := by decide +kernel
theorem dX9_isLeast_3 : decode cX9_isLeast 3 = .ok (.aload_n 0, 1) := by decide +kernel
theorem dX9_isLeast_4 : decode cX9_isLeast 4 = .ok (.getfield 9, 3) := by decide +kernel
theorem dX9_isLeast_7 : decode cX9_isLeast 7 = .ok (.if_icmp .ge 61, 3) := by decide +kernel
theorem dX9_isLeast_10 : decode cX9_isLeast 10 = .ok (.iconst 0, 1) := by decide +kernel
theorem dX9_isLeast_11 : decode cX9_isLeast 11 = .ok (.istore 4, 2) := by decide +kernel
theorem dX9_isLeast_13 : decode cX9_isLeast 13 = .ok (.iconst 0, 1) := by decide +kernel
theorem dX9_isLeast_14 : decode cX9_isLeast 14 = .ok (.istore 5, 2) := by decide +kernel
theorem dX9_isLeast_16 : decode cX9_isLeast 16 = .ok (.iload 5, 2) := by decide +kernel
theorem dX9_isLeast_18 : decode cX9_isLeast 18 = .ok (.aload_n 0, 1) := by decide +kernel
theorem dX9_isLeast_19 : decode cX9_isLeast 19 = .ok (.getfield 9, 3) := by decide +kernel
theorem dX9_isLeast_22 : decode cX9_isLeast 22 = .ok (.if_icmp .ge 33, 3) := by decide +kernel
theorem dX9_isLeast_25 : decode cX9_isLeast 25 = .ok (.iload 4, 2) := by decide +kernel
theorem dX9_isLeast_27 : decode cX9_isLeast 27 = .ok (.ifCond .ne 15, 3) := by decide +kernel
theorem dX9_isLeast_30 : decode cX9_isLeast 30 = .ok (.aload_n 0, 1) := by decide +kernel
theorem dX9_isLeast_31 : decode cX9_isLeast 31 = .ok (.aload_n 1, 1) := by decide +kernel
theorem dX9_isLeast_32 : decode cX9_isLeast 32 = .ok (.iload_n 2, 1) := by decide +kernel
theorem dX9_isLeast_33 : decode cX9_isLeast 33 = .ok (.iload_n 3, 1) := by decide +kernel
theorem dX9_isLeast_34 : decode cX9_isLeast 34 = .ok (.iload 5, 2) := by decide +kernel
theorem dX9_isLeast_36 : decode cX9_isLeast 36 = .ok (.invokevirtual 181, 3) := by decide +kernel
theorem dX9_isLeast_39 : decode cX9_isLeast 39 = .ok (.ifCond .eq 7, 3) := by decide +kernel
theorem dX9_isLeast_42 : decode cX9_isLeast 42 = .ok (.iconst 1, 1) := by decide +kernel
theorem dX9_isLeast_43 : decode cX9_isLeast 43 = .ok (.goto 4, 3) := by decide +kernel
theorem dX9_isLeast_46 : decode cX9_isLeast 46 = .ok (.iconst 0, 1) := by decide +kernel
theorem dX9_isLeast_47 : decode cX9_isLeast 47 = .ok (.istore 4, 2) := by decide +kernel
theorem dX9_isLeast_49 : decode cX9_isLeast 49 = .ok (.iinc 5 1, 3) := by decide +kernel
theorem dX9_isLeast_52 : decode cX9_isLeast 52 = .ok (.goto (-36), 3) := by decide +kernel
theorem dX9_isLeast_55 : decode cX9_isLeast 55 = .ok (.iload 4, 2) := by decide +kernel
theorem dX9_isLeast_57 : decode cX9_isLeast 57 = .ok (.ifCond .ne 5, 3) := by decide +kernel
theorem dX9_isLeast_60 : decode cX9_isLeast 60 = .ok (.iconst 0, 1) := by decide +kernel
theorem dX9_isLeast_61 : decode cX9_isLeast 61 = .ok (.ireturn, 1) := by decide +kernel
theorem dX9_isLeast_62 : decode cX9_isLeast 62 = .ok (.iinc 3 1, 3) := by decide +kernel
theorem dX9_isLeast_65 : decode cX9_isLeast 65 = .ok (.goto (-63), 3) := by decide +kernel
theorem dX9_isLeast_68 : decode cX9_isLeast 68 = .ok (.aload_n 0, 1) := by decide +kernel
theorem dX9_isLeast_69 : decode cX9_isLeast 69 = .ok (.aload_n 1, 1) := by decide +kernel
theorem dX9_isLeast_70 : decode cX9_isLeast 70 = .ok (.iload_n 2, 1) := by decide +kernel
theorem dX9_isLeast_71 : decode cX9_isLeast 71 = .ok (.invokevirtual 185, 3) := by decide +kernel
theorem dX9_isLeast_74 : decode cX9_isLeast 74 = .ok (.ireturn, 1) := by decide +kernel
set_option maxRecDepth 20000 in
theorem ggX9_reached_X9_isTight : GoodIn wsX9_reached wsX9_isTight := goodIn_r _ [6, 7, 8, 9, 5, 10, 11, 12, 13, 14, 15, 16, 17, 18, 19, 20, 21, 22, 23, 24, 25, 26, 27, 28, 29, 30, 31, 32, 33, 34, 35, 36, 37, 38, 39, 40, 41, 42, 43, 44, 45, 46] (by decide +kernel) (by decide +kernel)
set_option maxRecDepth 20000 in
theorem gX9_reached_X9_isTight : GoodIn wsX9_reached (wsV RX9 181 RX9 yX9_isTight wsX9_isTight) := goodIn_app (goodIn_of _ (by decide +kernel)) ggX9_reached_X9_isTight
theorem dX9_reached_0 : decode cX9_reached 0 = .ok (.iconst 1, 1) := by decide +kernel
theorem dX9_reached_1 : decode cX9_reached 1 = .ok (.iload_n 3, 1) := by decide +kernel
theorem dX9_reached_2 : decode cX9_reached 2 = .ok (.ishl, 1) := by decide +kernel
theorem dX9_reached_3 : decode cX9_reached 3 = .ok (.istore 5, 2) := by decide +kernel
theorem dX9_reached_5 : decode cX9_reached 5 = .ok (.iconst 0, 1) := by decide +kernel
theorem dX9_reached_6 : decode cX9_reached 6 = .ok (.istore 6, 2) := by decide +kernel
theorem dX9_reached_8 : decode cX9_reached 8 = .ok (.iconst 0, 1) := by decide +kernel
theorem dX9_reached_9 : decode cX9_reached 9 = .ok (.istore 7, 2) := by decide +kernel
theorem dX9_reached_11 : decode cX9_reached 11 = .ok (.iload 7, 2) := by decide +kernel
theorem dX9_reached_13 : decode cX9_reached 13 = .ok (.bipush 10, 2) := by decide +kernel
theorem dX9_reached_15 : decode cX9_reached 15 = .ok (.if_icmp .ge 88, 3) := by decide +kernel
theorem dX9_reached_18 : decode cX9_reached 18 = .ok (.iconst 0, 1) := by decide +kernel
theorem dX9_reached_19 : decode cX9_reached 19 = .ok (.istore 8, 2) := by decide +kernel
theorem dX9_reached_21 : decode cX9_reached 21 = .ok (.iload 8, 2) := by decide +kernel
theorem dX9_reached_23 : decode cX9_reached 23 = .ok (.aload_n 0, 1) := by decide +kernel
theorem dX9_reached_24 : decode cX9_reached 24 = .ok (.getfield 9, 3) := by decide +kernel
theorem dX9_reached_27 : decode cX9_reached 27 = .ok (.if_icmp .ge 70, 3) := by decide +kernel
theorem dX9_reached_30 : decode cX9_reached 30 = .ok (.iconst 0, 1) := by decide +kernel
theorem dX9_reached_31 : decode cX9_reached 31 = .ok (.istore 9, 2) := by decide +kernel
theorem dX9_reached_33 : decode cX9_reached 33 = .ok (.iload 9, 2) := by decide +kernel
theorem dX9_reached_35 : decode cX9_reached 35 = .ok (.aload_n 0, 1) := by decide +kernel
theorem dX9_reached_36 : decode cX9_reached 36 = .ok (.getfield 9, 3) := by decide +kernel
theorem dX9_reached_39 : decode cX9_reached 39 = .ok (.if_icmp .ge 52, 3) := by decide +kernel
theorem dX9_reached_42 : decode cX9_reached 42 = .ok (.aload_n 0, 1) := by decide +kernel
theorem dX9_reached_43 : decode cX9_reached 43 = .ok (.aload_n 1, 1) := by decide +kernel
theorem dX9_reached_44 : decode cX9_reached 44 = .ok (.iload_n 2, 1) := by decide +kernel
theorem dX9_reached_45 : decode cX9_reached 45 = .ok (.iload 8, 2) := by decide +kernel
theorem dX9_reached_47 : decode cX9_reached 47 = .ok (.iload 9, 2) := by decide +kernel
theorem dX9_reached_49 : decode cX9_reached 49 = .ok (.invokevirtual 181, 3) := by decide +kernel
theorem dX9_reached_52 : decode cX9_reached 52 = .ok (.ifCond .eq 33, 3) := by decide +kernel
theorem dX9_reached_55 : decode cX9_reached 55 = .ok (.iload 6, 2) := by decide +kernel
theorem dX9_reached_57 : decode cX9_reached 57 = .ok (.iload 5, 2) := by decide +kernel
theorem dX9_reached_59 : decode cX9_reached 59 = .ok (.iload 8, 2) := by decide +kernel
theorem dX9_reached_61 : decode cX9_reached 61 = .ok (.ishr, 1) := by decide +kernel
theorem dX9_reached_62 : decode cX9_reached 62 = .ok (.iconst 1, 1) := by decide +kernel
theorem dX9_reached_63 : decode cX9_reached 63 = .ok (.iand, 1) := by decide +kernel
theorem dX9_reached_64 : decode cX9_reached 64 = .ok (.iload 9, 2) := by decide +kernel
theorem dX9_reached_66 : decode cX9_reached 66 = .ok (.ishl, 1) := by decide +kernel
theorem dX9_reached_67 : decode cX9_reached 67 = .ok (.ior, 1) := by decide +kernel
theorem dX9_reached_68 : decode cX9_reached 68 = .ok (.istore 6, 2) := by decide +kernel
theorem dX9_reached_70 : decode cX9_reached 70 = .ok (.iload 5, 2) := by decide +kernel
theorem dX9_reached_72 : decode cX9_reached 72 = .ok (.iload 6, 2) := by decide +kernel
theorem dX9_reached_74 : decode cX9_reached 74 = .ok (.iload 8, 2) := by decide +kernel
theorem dX9_reached_76 : decode cX9_reached 76 = .ok (.ishr, 1) := by decide +kernel
theorem dX9_reached_77 : decode cX9_reached 77 = .ok (.iconst 1, 1) := by decide +kernel
theorem dX9_reached_78 : decode cX9_reached 78 = .ok (.iand, 1) := by decide +kernel
theorem dX9_reached_79 : decode cX9_reached 79 = .ok (.iload 9, 2) := by decide +kernel
theorem dX9_reached_81 : decode cX9_reached 81 = .ok (.ishl, 1) := by decide +kernel
theorem dX9_reached_82 : decode cX9_reached 82 = .ok (.ior, 1) := by decide +kernel
theorem dX9_reached_83 : decode cX9_reached 83 = .ok (.istore 5, 2) := by decide +kernel
theorem dX9_reached_85 : decode cX9_reached 85 = .ok (.iinc 9 1, 3) := by decide +kernel
theorem dX9_reached_88 : decode cX9_reached 88 = .ok (.goto (-55), 3) := by decide +kernel
theorem dX9_reached_91 : decode cX9_reached 91 = .ok (.iinc 8 1, 3) := by decide +kernel
theorem dX9_reached_94 : decode cX9_reached 94 = .ok (.goto (-73), 3) := by decide +kernel
theorem dX9_reached_97 : decode cX9_reached 97 = .ok (.iinc 7 1, 3) := by decide +kernel
theorem dX9_reached_100 : decode cX9_reached 100 = .ok (.goto (-89), 3) := by decide +kernel
theorem dX9_reached_103 : decode cX9_reached 103 = .ok (.iload 4, 2) := by decide +kernel
theorem dX9_reached_105 : decode cX9_reached 105 = .ok (.iconst 1, 1) := by decide +kernel
theorem dX9_reached_106 : decode cX9_reached 106 = .ok (.if_icmp .ne 8, 3) := by decide +kernel
theorem dX9_reached_109 : decode cX9_reached 109 = .ok (.iload 6, 2) := by decide +kernel
theorem dX9_reached_111 : decode cX9_reached 111 = .ok (.goto 5, 3) := by decide +kernel
theorem dX9_reached_114 : decode cX9_reached 114 = .ok (.iload 5, 2) := by decide +kernel
theorem dX9_reached_116 : decode cX9_reached 116 = .ok (.ireturn, 1) := by decide +kernel
set_option maxRecDepth 20000 in
theorem ggX9_depth_X9_reached : GoodIn wsX9_depth wsX9_reached := goodIn_r _ [6, 1, 7, 8, 9, 5, 10, 11, 12, 13, 14, 15, 16, 17, 18, 19, 20, 21, 22, 23, 24, 25, 26, 27, 28, 29, 30, 31, 32, 33, 34, 35, 36, 37, 38, 39, 40, 41, 42, 43, 44, 45, 46, 47, 48, 49, 50] (by decide +kernel) (by decide +kernel)
set_option maxRecDepth 20000 in
theorem gX9_depth_X9_reached : GoodIn wsX9_depth (wsV RX9 189 RX9 yX9_reached wsX9_reached) := goodIn_app (goodIn_of _ (by decide +kernel)) ggX9_depth_X9_reached
theorem dX9_depth_0 : decode cX9_depth 0 = .ok (.iconst 0, 1) := by decide +kernel
theorem dX9_depth_1 : decode cX9_depth 1 = .ok (.istore_n 3, 1) := by decide +kernel
theorem dX9_depth_2 : decode cX9_depth 2 = .ok (.iconst 0, 1) := by decide +kernel
theorem dX9_depth_3 : decode cX9_depth 3 = .ok (.istore 4, 2) := by decide +kernel
theorem dX9_depth_5 : decode cX9_depth 5 = .ok (.iconst 0, 1) := by decide +kernel
theorem dX9_depth_6 : decode cX9_depth 6 = .ok (.istore 5, 2) := by decide +kernel
theorem dX9_depth_8 : decode cX9_depth 8 = .ok (.iconst 0, 1) := by decide +kernel
theorem dX9_depth_9 : decode cX9_depth 9 = .ok (.istore 6, 2) := by decide +kernel
theorem dX9_depth_11 : decode cX9_depth 11 = .ok (.iload 6, 2) := by decide +kernel
theorem dX9_depth_13 : decode cX9_depth 13 = .ok (.aload_n 0, 1) := by decide +kernel
theorem dX9_depth_14 : decode cX9_depth 14 = .ok (.getfield 9, 3) := by decide +kernel
theorem dX9_depth_17 : decode cX9_depth 17 = .ok (.if_icmp .ge 79, 3) := by decide +kernel
theorem dX9_depth_20 : decode cX9_depth 20 = .ok (.iload 5, 2) := by decide +kernel
theorem dX9_depth_22 : decode cX9_depth 22 = .ok (.iload 6, 2) := by decide +kernel
theorem dX9_depth_24 : decode cX9_depth 24 = .ok (.ishr, 1) := by decide +kernel
theorem dX9_depth_25 : decode cX9_depth 25 = .ok (.iconst 1, 1) := by decide +kernel
theorem dX9_depth_26 : decode cX9_depth 26 = .ok (.iand, 1) := by decide +kernel
theorem dX9_depth_27 : decode cX9_depth 27 = .ok (.iconst 1, 1) := by decide +kernel
theorem dX9_depth_28 : decode cX9_depth 28 = .ok (.if_icmp .ne 6, 3) := by decide +kernel
theorem dX9_depth_31 : decode cX9_depth 31 = .ok (.goto 59, 3) := by decide +kernel
theorem dX9_depth_34 : decode cX9_depth 34 = .ok (.aload_n 0, 1) := by decide +kernel
theorem dX9_depth_35 : decode cX9_depth 35 = .ok (.aload_n 1, 1) := by decide +kernel
theorem dX9_depth_36 : decode cX9_depth 36 = .ok (.iload_n 2, 1) := by decide +kernel
theorem dX9_depth_37 : decode cX9_depth 37 = .ok (.iload 6, 2) := by decide +kernel
theorem dX9_depth_39 : decode cX9_depth 39 = .ok (.iconst 0, 1) := by decide +kernel
theorem dX9_depth_40 : decode cX9_depth 40 = .ok (.invokevirtual 189, 3) := by decide +kernel
theorem dX9_depth_43 : decode cX9_depth 43 = .ok (.istore 7, 2) := by decide +kernel
theorem dX9_depth_45 : decode cX9_depth 45 = .ok (.aload_n 0, 1) := by decide +kernel
theorem dX9_depth_46 : decode cX9_depth 46 = .ok (.aload_n 1, 1) := by decide +kernel
theorem dX9_depth_47 : decode cX9_depth 47 = .ok (.iload_n 2, 1) := by decide +kernel
theorem dX9_depth_48 : decode cX9_depth 48 = .ok (.iload 6, 2) := by decide +kernel
theorem dX9_depth_50 : decode cX9_depth 50 = .ok (.iconst 1, 1) := by decide +kernel
theorem dX9_depth_51 : decode cX9_depth 51 = .ok (.invokevirtual 189, 3) := by decide +kernel
theorem dX9_depth_54 : decode cX9_depth 54 = .ok (.istore 8, 2) := by decide +kernel
theorem dX9_depth_56 : decode cX9_depth 56 = .ok (.iload 5, 2) := by decide +kernel
theorem dX9_depth_58 : decode cX9_depth 58 = .ok (.iload 7, 2) := by decide +kernel
theorem dX9_depth_60 : decode cX9_depth 60 = .ok (.iload 8, 2) := by decide +kernel
theorem dX9_depth_62 : decode cX9_depth 62 = .ok (.ior, 1) := by decide +kernel
theorem dX9_depth_63 : decode cX9_depth 63 = .ok (.ior, 1) := by decide +kernel
theorem dX9_depth_64 : decode cX9_depth 64 = .ok (.istore 5, 2) := by decide +kernel
theorem dX9_depth_66 : decode cX9_depth 66 = .ok (.iinc 3 1, 3) := by decide +kernel
theorem dX9_depth_69 : decode cX9_depth 69 = .ok (.iload 4, 2) := by decide +kernel
theorem dX9_depth_71 : decode cX9_depth 71 = .ok (.iload 8, 2) := by decide +kernel
theorem dX9_depth_73 : decode cX9_depth 73 = .ok (.iload 6, 2) := by decide +kernel
theorem dX9_depth_75 : decode cX9_depth 75 = .ok (.ishr, 1) := by decide +kernel
theorem dX9_depth_76 : decode cX9_depth 76 = .ok (.iconst 1, 1) := by decide +kernel
theorem dX9_depth_77 : decode cX9_depth 77 = .ok (.iand, 1) := by decide +kernel
theorem dX9_depth_78 : decode cX9_depth 78 = .ok (.iconst 1, 1) := by decide +kernel
theorem dX9_depth_79 : decode cX9_depth 79 = .ok (.if_icmp .ne 7, 3) := by decide +kernel
theorem dX9_depth_82 : decode cX9_depth 82 = .ok (.iconst 1, 1) := by decide +kernel
theorem dX9_depth_83 : decode cX9_depth 83 = .ok (.goto 4, 3) := by decide +kernel
theorem dX9_depth_86 : decode cX9_depth 86 = .ok (.iconst 0, 1) := by decide +kernel
theorem dX9_depth_87 : decode cX9_depth 87 = .ok (.iadd, 1) := by decide +kernel
theorem dX9_depth_88 : decode cX9_depth 88 = .ok (.istore 4, 2) := by decide +kernel
theorem dX9_depth_90 : decode cX9_depth 90 = .ok (.iinc 6 1, 3) := by decide +kernel
theorem dX9_depth_93 : decode cX9_depth 93 = .ok (.goto (-82), 3) := by decide +kernel
theorem dX9_depth_96 : decode cX9_depth 96 = .ok (.iload_n 3, 1) := by decide +kernel
theorem dX9_depth_97 : decode cX9_depth 97 = .ok (.iload 4, 2) := by decide +kernel
theorem dX9_depth_99 : decode cX9_depth 99 = .ok (.isub, 1) := by decide +kernel
theorem dX9_depth_100 : decode cX9_depth 100 = .ok (.ireturn, 1) := by decide +kernel
set_option maxRecDepth 20000 in
theorem ggX9_functionOf_X9_isPoint : GoodIn wsX9_functionOf wsX9_isPoint := goodIn_r _ [6, 7, 8, 9, 5, 10, 36, 37, 38, 39, 40, 41, 42, 43, 44, 45, 46, 47, 48, 49, 50, 51, 52, 53, 54, 55, 56, 57, 58, 59, 60, 61, 62, 63, 64, 65, 66, 67, 68, 69, 70] (by decide +kernel) (by decide +kernel)
set_option maxRecDepth 20000 in
theorem gX9_functionOf_X9_isPoint : GoodIn wsX9_functionOf (wsV RX9 99 RX9 yX9_isPoint wsX9_isPoint) := goodIn_app (goodIn_of _ (by decide +kernel)) ggX9_functionOf_X9_isPoint
set_option maxRecDepth 20000 in
theorem ggX9_functionOf_X9_keeps : GoodIn wsX9_functionOf wsX9_keeps := goodIn_r _ [14, 7, 15, 16, 17, 5, 18, 19, 36, 37, 38, 39, 40, 41, 42, 43, 44, 45, 46, 47, 48, 49, 50, 51, 52, 53, 54, 55, 56, 57, 58, 59, 60, 61, 62, 63, 64, 65, 66, 67, 68, 69, 70] (by decide +kernel) (by decide +kernel)
set_option maxRecDepth 20000 in
theorem gX9_functionOf_X9_keeps : GoodIn wsX9_functionOf (wsV RX9 185 RX9 yX9_keeps wsX9_keeps) := goodIn_app (goodIn_of _ (by decide +kernel)) ggX9_functionOf_X9_keeps
set_option maxRecDepth 20000 in
theorem ggX9_functionOf_X9_isLeast : GoodIn wsX9_functionOf wsX9_isLeast := goodIn_r _ [23, 7, 24, 25, 26, 5, 27, 15, 16, 17, 18, 19, 11, 12, 13, 14, 36, 37, 38, 39, 40, 41, 42, 43, 44, 45, 46, 47, 48, 49, 50, 51, 52, 53, 54, 55, 56, 57, 58, 59, 60, 61, 62, 63, 64, 65, 66, 67, 68, 69, 70] (by decide +kernel) (by decide +kernel)
set_option maxRecDepth 20000 in
theorem gX9_functionOf_X9_isLeast : GoodIn wsX9_functionOf (wsV RX9 193 RX9 yX9_isLeast wsX9_isLeast) := goodIn_app (goodIn_of _ (by decide +kernel)) ggX9_functionOf_X9_isLeast
set_option maxRecDepth 20000 in
theorem ggX9_functionOf_X9_depth : GoodIn wsX9_functionOf wsX9_depth := goodIn_r _ [31, 7, 32, 33, 34, 5, 35, 24, 25, 26, 27, 15, 16, 17, 18, 19, 36, 37, 38, 39, 40, 41, 42, 43, 44, 45, 46, 47, 48, 49, 50, 51, 52, 53, 54, 55, 56, 57, 58, 59, 60, 61, 62, 63, 64, 65, 66, 67, 68, 69, 70] (by decide +kernel) (by decide +kernel)
set_option maxRecDepth 20000 in
theorem gX9_functionOf_X9_depth : GoodIn wsX9_functionOf (wsV RX9 196 RX9 yX9_depth wsX9_depth) := goodIn_app (goodIn_of _ (by decide +kernel)) ggX9_functionOf_X9_depth
theorem dX9_functionOf_0 : decode cX9_functionOf 0 = .ok (.aload_n 0, 1) := by decide +kernel
theorem dX9_functionOf_1 : decode cX9_functionOf 1 = .ok (.iload_n 1, 1) := by decide +kernel
theorem dX9_functionOf_2 : decode cX9_functionOf 2 = .ok (.invokevirtual 99, 3) := by decide +kernel
theorem dX9_functionOf_5 : decode cX9_functionOf 5 = .ok (.ifCond .eq 10, 3) := by decide +kernel
theorem dX9_functionOf_8 : decode cX9_functionOf 8 = .ok (.aload_n 0, 1) := by decide +kernel
theorem dX9_functionOf_9 : decode cX9_functionOf 9 = .ok (.getfield 19, 3) := by decide +kernel
theorem dX9_functionOf_12 : decode cX9_functionOf 12 = .ok (.iload_n 1, 1) := by decide +kernel
theorem dX9_functionOf_13 : decode cX9_functionOf 13 = .ok (.iaload, 1) := by decide +kernel
theorem dX9_functionOf_14 : decode cX9_functionOf 14 = .ok (.ireturn, 1) := by decide +kernel
theorem dX9_functionOf_15 : decode cX9_functionOf 15 = .ok (.iload_n 1, 1) := by decide +kernel
theorem dX9_functionOf_16 : decode cX9_functionOf 16 = .ok (.tableswitch 91 10 12 #[28, 46, 64], 28) := by decide +kernel
theorem dX9_functionOf_44 : decode cX9_functionOf 44 = .ok (.aload_n 0, 1) := by decide +kernel
theorem dX9_functionOf_45 : decode cX9_functionOf 45 = .ok (.aload_n 0, 1) := by decide +kernel
theorem dX9_functionOf_46 : decode cX9_functionOf 46 = .ok (.getfield 19, 3) := by decide +kernel
theorem dX9_functionOf_49 : decode cX9_functionOf 49 = .ok (.iconst 0, 1) := by decide +kernel
theorem dX9_functionOf_50 : decode cX9_functionOf 50 = .ok (.invokevirtual 185, 3) := by decide +kernel
theorem dX9_functionOf_53 : decode cX9_functionOf 53 = .ok (.ifCond .eq 7, 3) := by decide +kernel
theorem dX9_functionOf_56 : decode cX9_functionOf 56 = .ok (.iconst 1, 1) := by decide +kernel
theorem dX9_functionOf_57 : decode cX9_functionOf 57 = .ok (.goto 4, 3) := by decide +kernel
theorem dX9_functionOf_60 : decode cX9_functionOf 60 = .ok (.iconst 0, 1) := by decide +kernel
theorem dX9_functionOf_61 : decode cX9_functionOf 61 = .ok (.ireturn, 1) := by decide +kernel
theorem dX9_functionOf_62 : decode cX9_functionOf 62 = .ok (.aload_n 0, 1) := by decide +kernel
theorem dX9_functionOf_63 : decode cX9_functionOf 63 = .ok (.aload_n 0, 1) := by decide +kernel
theorem dX9_functionOf_64 : decode cX9_functionOf 64 = .ok (.getfield 19, 3) := by decide +kernel
theorem dX9_functionOf_67 : decode cX9_functionOf 67 = .ok (.iconst 0, 1) := by decide +kernel
theorem dX9_functionOf_68 : decode cX9_functionOf 68 = .ok (.invokevirtual 193, 3) := by decide +kernel
theorem dX9_functionOf_71 : decode cX9_functionOf 71 = .ok (.ifCond .eq 7, 3) := by decide +kernel
theorem dX9_functionOf_74 : decode cX9_functionOf 74 = .ok (.iconst 1, 1) := by decide +kernel
theorem dX9_functionOf_75 : decode cX9_functionOf 75 = .ok (.goto 4, 3) := by decide +kernel
theorem dX9_functionOf_78 : decode cX9_functionOf 78 = .ok (.iconst 0, 1) := by decide +kernel
theorem dX9_functionOf_79 : decode cX9_functionOf 79 = .ok (.ireturn, 1) := by decide +kernel
theorem dX9_functionOf_80 : decode cX9_functionOf 80 = .ok (.aload_n 0, 1) := by decide +kernel
theorem dX9_functionOf_81 : decode cX9_functionOf 81 = .ok (.aload_n 0, 1) := by decide +kernel
theorem dX9_functionOf_82 : decode cX9_functionOf 82 = .ok (.getfield 19, 3) := by decide +kernel
theorem dX9_functionOf_85 : decode cX9_functionOf 85 = .ok (.iconst 0, 1) := by decide +kernel
theorem dX9_functionOf_86 : decode cX9_functionOf 86 = .ok (.invokevirtual 193, 3) := by decide +kernel
theorem dX9_functionOf_89 : decode cX9_functionOf 89 = .ok (.ifCond .eq 15, 3) := by decide +kernel
theorem dX9_functionOf_92 : decode cX9_functionOf 92 = .ok (.aload_n 0, 1) := by decide +kernel
theorem dX9_functionOf_93 : decode cX9_functionOf 93 = .ok (.aload_n 0, 1) := by decide +kernel
theorem dX9_functionOf_94 : decode cX9_functionOf 94 = .ok (.getfield 19, 3) := by decide +kernel
theorem dX9_functionOf_97 : decode cX9_functionOf 97 = .ok (.iconst 0, 1) := by decide +kernel
theorem dX9_functionOf_98 : decode cX9_functionOf 98 = .ok (.invokevirtual 196, 3) := by decide +kernel
theorem dX9_functionOf_101 : decode cX9_functionOf 101 = .ok (.goto 5, 3) := by decide +kernel
theorem dX9_functionOf_104 : decode cX9_functionOf 104 = .ok (.bipush (-5), 2) := by decide +kernel
theorem dX9_functionOf_106 : decode cX9_functionOf 106 = .ok (.ireturn, 1) := by decide +kernel
theorem dX9_functionOf_107 : decode cX9_functionOf 107 = .ok (.iconst (-1), 1) := by decide +kernel
theorem dX9_functionOf_108 : decode cX9_functionOf 108 = .ok (.ireturn, 1) := by decide +kernel
set_option maxRecDepth 20000 in
theorem ggX9_mapOf_X9_isPoint : GoodIn wsX9_mapOf wsX9_isPoint := goodIn_r _ [7, 2, 8, 9, 6, 10, 16, 17, 18, 19, 20, 21, 22, 23, 24, 25, 26, 27, 28, 29, 30, 31, 32, 33, 34, 35, 36, 37, 38, 39, 40, 41, 42, 43, 44, 45, 46, 47, 48, 49, 50] (by decide +kernel) (by decide +kernel)
set_option maxRecDepth 20000 in
theorem gX9_mapOf_X9_isPoint : GoodIn wsX9_mapOf (wsV RX9 99 RX9 yX9_isPoint wsX9_isPoint) := goodIn_app (goodIn_of _ (by decide +kernel)) ggX9_mapOf_X9_isPoint
set_option maxRecDepth 20000 in
theorem ggX9_mapOf_X9_in : GoodIn wsX9_mapOf wsX9_in := goodIn_r _ [10] (by decide +kernel) (by decide +kernel)
set_option maxRecDepth 20000 in
theorem gX9_mapOf_X9_in : GoodIn wsX9_mapOf (va_wsS RX9 95 yX9_in wsX9_in) := goodIn_app (goodIn_of _ (by decide +kernel)) ggX9_mapOf_X9_in
set_option maxRecDepth 20000 in
theorem ggX9_mapOf_X9_d : GoodIn wsX9_mapOf wsX9_d := goodIn_r _ [14, 15, 16, 17, 18, 19, 20, 21, 22, 23, 24, 25, 26, 27, 28, 29, 30, 31, 32, 33, 34, 35, 36, 37, 38, 39, 40, 41, 42, 43, 44, 45, 46, 47, 48, 49, 50] (by decide +kernel) (by decide +kernel)
set_option maxRecDepth 20000 in
theorem gX9_mapOf_X9_d : GoodIn wsX9_mapOf (wsV RX9 111 RX9 yX9_d wsX9_d) := goodIn_app (goodIn_of _ (by decide +kernel)) ggX9_mapOf_X9_d
theorem dX9_mapOf_0 : decode cX9_mapOf 0 = .ok (.aload_n 0, 1) := by decide +kernel
theorem dX9_mapOf_1 : decode cX9_mapOf 1 = .ok (.iload_n 1, 1) := by decide +kernel
theorem dX9_mapOf_2 : decode cX9_mapOf 2 = .ok (.invokevirtual 99, 3) := by decide +kernel
theorem dX9_mapOf_5 : decode cX9_mapOf 5 = .ok (.ifCond .eq 10, 3) := by decide +kernel
theorem dX9_mapOf_8 : decode cX9_mapOf 8 = .ok (.aload_n 0, 1) := by decide +kernel
theorem dX9_mapOf_9 : decode cX9_mapOf 9 = .ok (.getfield 22, 3) := by decide +kernel
theorem dX9_mapOf_12 : decode cX9_mapOf 12 = .ok (.iload_n 1, 1) := by decide +kernel
theorem dX9_mapOf_13 : decode cX9_mapOf 13 = .ok (.iaload, 1) := by decide +kernel
theorem dX9_mapOf_14 : decode cX9_mapOf 14 = .ok (.ireturn, 1) := by decide +kernel
theorem dX9_mapOf_15 : decode cX9_mapOf 15 = .ok (.iload_n 1, 1) := by decide +kernel
theorem dX9_mapOf_16 : decode cX9_mapOf 16 = .ok (.bipush 10, 2) := by decide +kernel
theorem dX9_mapOf_18 : decode cX9_mapOf 18 = .ok (.bipush 11, 2) := by decide +kernel
theorem dX9_mapOf_20 : decode cX9_mapOf 20 = .ok (.invokestatic 95, 3) := by decide +kernel
theorem dX9_mapOf_23 : decode cX9_mapOf 23 = .ok (.ifCond .ne 5, 3) := by decide +kernel
theorem dX9_mapOf_26 : decode cX9_mapOf 26 = .ok (.iconst (-1), 1) := by decide +kernel
theorem dX9_mapOf_27 : decode cX9_mapOf 27 = .ok (.ireturn, 1) := by decide +kernel
theorem dX9_mapOf_28 : decode cX9_mapOf 28 = .ok (.iconst 0, 1) := by decide +kernel
theorem dX9_mapOf_29 : decode cX9_mapOf 29 = .ok (.istore_n 2, 1) := by decide +kernel
theorem dX9_mapOf_30 : decode cX9_mapOf 30 = .ok (.iload_n 2, 1) := by decide +kernel
theorem dX9_mapOf_31 : decode cX9_mapOf 31 = .ok (.aload_n 0, 1) := by decide +kernel
theorem dX9_mapOf_32 : decode cX9_mapOf 32 = .ok (.getfield 9, 3) := by decide +kernel
theorem dX9_mapOf_35 : decode cX9_mapOf 35 = .ok (.if_icmp .ge 73, 3) := by decide +kernel
theorem dX9_mapOf_38 : decode cX9_mapOf 38 = .ok (.iconst 0, 1) := by decide +kernel
theorem dX9_mapOf_39 : decode cX9_mapOf 39 = .ok (.istore_n 3, 1) := by decide +kernel
theorem dX9_mapOf_40 : decode cX9_mapOf 40 = .ok (.iload_n 3, 1) := by decide +kernel
theorem dX9_mapOf_41 : decode cX9_mapOf 41 = .ok (.iload_n 2, 1) := by decide +kernel
theorem dX9_mapOf_42 : decode cX9_mapOf 42 = .ok (.if_icmp .ge 60, 3) := by decide +kernel
theorem dX9_mapOf_45 : decode cX9_mapOf 45 = .ok (.aload_n 0, 1) := by decide +kernel
theorem dX9_mapOf_46 : decode cX9_mapOf 46 = .ok (.aload_n 0, 1) := by decide +kernel
theorem dX9_mapOf_47 : decode cX9_mapOf 47 = .ok (.getfield 22, 3) := by decide +kernel
theorem dX9_mapOf_50 : decode cX9_mapOf 50 = .ok (.iload_n 2, 1) := by decide +kernel
theorem dX9_mapOf_51 : decode cX9_mapOf 51 = .ok (.iaload, 1) := by decide +kernel
theorem dX9_mapOf_52 : decode cX9_mapOf 52 = .ok (.aload_n 0, 1) := by decide +kernel
theorem dX9_mapOf_53 : decode cX9_mapOf 53 = .ok (.getfield 22, 3) := by decide +kernel
theorem dX9_mapOf_56 : decode cX9_mapOf 56 = .ok (.iload_n 3, 1) := by decide +kernel
theorem dX9_mapOf_57 : decode cX9_mapOf 57 = .ok (.iaload, 1) := by decide +kernel
theorem dX9_mapOf_58 : decode cX9_mapOf 58 = .ok (.invokevirtual 111, 3) := by decide +kernel
theorem dX9_mapOf_61 : decode cX9_mapOf 61 = .ok (.istore 4, 2) := by decide +kernel
theorem dX9_mapOf_63 : decode cX9_mapOf 63 = .ok (.iload_n 1, 1) := by decide +kernel
theorem dX9_mapOf_64 : decode cX9_mapOf 64 = .ok (.bipush 10, 2) := by decide +kernel
theorem dX9_mapOf_66 : decode cX9_mapOf 66 = .ok (.if_icmp .ne 17, 3) := by decide +kernel
theorem dX9_mapOf_69 : decode cX9_mapOf 69 = .ok (.iload 4, 2) := by decide +kernel
theorem dX9_mapOf_71 : decode cX9_mapOf 71 = .ok (.aload_n 0, 1) := by decide +kernel
theorem dX9_mapOf_72 : decode cX9_mapOf 72 = .ok (.iload_n 2, 1) := by decide +kernel
theorem dX9_mapOf_73 : decode cX9_mapOf 73 = .ok (.iload_n 3, 1) := by decide +kernel
theorem dX9_mapOf_74 : decode cX9_mapOf 74 = .ok (.invokevirtual 111, 3) := by decide +kernel
theorem dX9_mapOf_77 : decode cX9_mapOf 77 = .ok (.if_icmp .eq 19, 3) := by decide +kernel
theorem dX9_mapOf_80 : decode cX9_mapOf 80 = .ok (.goto 14, 3) := by decide +kernel
theorem dX9_mapOf_83 : decode cX9_mapOf 83 = .ok (.iload 4, 2) := by decide +kernel
theorem dX9_mapOf_85 : decode cX9_mapOf 85 = .ok (.aload_n 0, 1) := by decide +kernel
theorem dX9_mapOf_86 : decode cX9_mapOf 86 = .ok (.iload_n 2, 1) := by decide +kernel
theorem dX9_mapOf_87 : decode cX9_mapOf 87 = .ok (.iload_n 3, 1) := by decide +kernel
theorem dX9_mapOf_88 : decode cX9_mapOf 88 = .ok (.invokevirtual 111, 3) := by decide +kernel
theorem dX9_mapOf_91 : decode cX9_mapOf 91 = .ok (.if_icmp .le 5, 3) := by decide +kernel
theorem dX9_mapOf_94 : decode cX9_mapOf 94 = .ok (.iconst 0, 1) := by decide +kernel
theorem dX9_mapOf_95 : decode cX9_mapOf 95 = .ok (.ireturn, 1) := by decide +kernel
theorem dX9_mapOf_96 : decode cX9_mapOf 96 = .ok (.iinc 3 1, 3) := by decide +kernel
theorem dX9_mapOf_99 : decode cX9_mapOf 99 = .ok (.goto (-59), 3) := by decide +kernel
theorem dX9_mapOf_102 : decode cX9_mapOf 102 = .ok (.iinc 2 1, 3) := by decide +kernel
theorem dX9_mapOf_105 : decode cX9_mapOf 105 = .ok (.goto (-75), 3) := by decide +kernel
theorem dX9_mapOf_108 : decode cX9_mapOf 108 = .ok (.iconst 1, 1) := by decide +kernel
theorem dX9_mapOf_109 : decode cX9_mapOf 109 = .ok (.ireturn, 1) := by decide +kernel
set_option maxRecDepth 20000 in
theorem ggX9_middle_X9_isPoint : GoodIn wsX9_middle wsX9_isPoint := goodIn_r _ [5, 6, 7, 8, 4, 9, 15, 16, 17, 18, 19, 20, 21, 22, 23, 24, 25, 26, 27, 28, 29, 30, 31, 32, 33, 34, 35, 36, 37, 38, 39, 40, 41, 42, 43, 44, 45, 46, 47, 48, 49] (by decide +kernel) (by decide +kernel)
set_option maxRecDepth 20000 in
theorem gX9_middle_X9_isPoint : GoodIn wsX9_middle (wsV RX9 99 RX9 yX9_isPoint wsX9_isPoint) := goodIn_app (goodIn_of _ (by decide +kernel)) ggX9_middle_X9_isPoint
set_option maxRecDepth 20000 in
theorem ggX9_middle_X9_d : GoodIn wsX9_middle wsX9_d := goodIn_r _ [13, 14, 15, 16, 17, 18, 19, 20, 21, 22, 23, 24, 25, 26, 27, 28, 29, 30, 31, 32, 33, 34, 35, 36, 37, 38, 39, 40, 41, 42, 43, 44, 45, 46, 47, 48, 49] (by decide +kernel) (by decide +kernel)
set_option maxRecDepth 20000 in
theorem gX9_middle_X9_d : GoodIn wsX9_middle (wsV RX9 111 RX9 yX9_d wsX9_d) := goodIn_app (goodIn_of _ (by decide +kernel)) ggX9_middle_X9_d
theorem dX9_middle_0 : decode cX9_middle 0 = .ok (.aload_n 0, 1) := by decide +kernel
theorem dX9_middle_1 : decode cX9_middle 1 = .ok (.iload_n 1, 1) := by decide +kernel
theorem dX9_middle_2 : decode cX9_middle 2 = .ok (.invokevirtual 99, 3) := by decide +kernel
theorem dX9_middle_5 : decode cX9_middle 5 = .ok (.ifCond .eq 42, 3) := by decide +kernel
theorem dX9_middle_8 : decode cX9_middle 8 = .ok (.aload_n 0, 1) := by decide +kernel
theorem dX9_middle_9 : decode cX9_middle 9 = .ok (.iload_n 2, 1) := by decide +kernel
theorem dX9_middle_10 : decode cX9_middle 10 = .ok (.invokevirtual 99, 3) := by decide +kernel
theorem dX9_middle_13 : decode cX9_middle 13 = .ok (.ifCond .eq 34, 3) := by decide +kernel
theorem dX9_middle_16 : decode cX9_middle 16 = .ok (.aload_n 0, 1) := by decide +kernel
theorem dX9_middle_17 : decode cX9_middle 17 = .ok (.iload_n 3, 1) := by decide +kernel
theorem dX9_middle_18 : decode cX9_middle 18 = .ok (.invokevirtual 99, 3) := by decide +kernel
theorem dX9_middle_21 : decode cX9_middle 21 = .ok (.ifCond .eq 26, 3) := by decide +kernel
theorem dX9_middle_24 : decode cX9_middle 24 = .ok (.aload_n 0, 1) := by decide +kernel
theorem dX9_middle_25 : decode cX9_middle 25 = .ok (.iload_n 1, 1) := by decide +kernel
theorem dX9_middle_26 : decode cX9_middle 26 = .ok (.iload_n 2, 1) := by decide +kernel
theorem dX9_middle_27 : decode cX9_middle 27 = .ok (.invokevirtual 111, 3) := by decide +kernel
theorem dX9_middle_30 : decode cX9_middle 30 = .ok (.aload_n 0, 1) := by decide +kernel
theorem dX9_middle_31 : decode cX9_middle 31 = .ok (.iload_n 1, 1) := by decide +kernel
theorem dX9_middle_32 : decode cX9_middle 32 = .ok (.iload_n 3, 1) := by decide +kernel
theorem dX9_middle_33 : decode cX9_middle 33 = .ok (.invokevirtual 111, 3) := by decide +kernel
theorem dX9_middle_36 : decode cX9_middle 36 = .ok (.iadd, 1) := by decide +kernel
theorem dX9_middle_37 : decode cX9_middle 37 = .ok (.aload_n 0, 1) := by decide +kernel
theorem dX9_middle_38 : decode cX9_middle 38 = .ok (.iload_n 2, 1) := by decide +kernel
theorem dX9_middle_39 : decode cX9_middle 39 = .ok (.iload_n 3, 1) := by decide +kernel
theorem dX9_middle_40 : decode cX9_middle 40 = .ok (.invokevirtual 111, 3) := by decide +kernel
theorem dX9_middle_43 : decode cX9_middle 43 = .ok (.isub, 1) := by decide +kernel
theorem dX9_middle_44 : decode cX9_middle 44 = .ok (.goto 4, 3) := by decide +kernel
theorem dX9_middle_47 : decode cX9_middle 47 = .ok (.iconst (-1), 1) := by decide +kernel
theorem dX9_middle_48 : decode cX9_middle 48 = .ok (.ireturn, 1) := by decide +kernel
set_option maxRecDepth 20000 in
theorem ggX9_tries_X9_d : GoodIn wsX9_tries wsX9_d := goodIn_r _ [8, 9, 14, 15, 16, 17, 18, 19, 20, 21, 22, 23, 24, 25, 26, 27, 28, 29, 30, 31, 32, 33, 34, 35, 36, 37, 38, 39, 40, 41, 42, 43, 44, 45, 46, 47, 48] (by decide +kernel) (by decide +kernel)
set_option maxRecDepth 20000 in
theorem gX9_tries_X9_d : GoodIn wsX9_tries (wsV RX9 111 RX9 yX9_d wsX9_d) := goodIn_app (goodIn_of _ (by decide +kernel)) ggX9_tries_X9_d
set_option maxRecDepth 20000 in
theorem ggX9_tries_X9_keeps : GoodIn wsX9_tries wsX9_keeps := goodIn_r _ [13, 1, 4, 5, 6, 7, 8, 9, 14, 15, 16, 17, 18, 19, 20, 21, 22, 23, 24, 25, 26, 27, 28, 29, 30, 31, 32, 33, 34, 35, 36, 37, 38, 39, 40, 41, 42, 43, 44, 45, 46, 47, 48] (by decide +kernel) (by decide +kernel)
set_option maxRecDepth 20000 in
theorem gX9_tries_X9_keeps : GoodIn wsX9_tries (wsV RX9 185 RX9 yX9_keeps wsX9_keeps) := goodIn_app (goodIn_of _ (by decide +kernel)) ggX9_tries_X9_keeps
theorem dX9_tries_0 : decode cX9_tries 0 = .ok (.iconst 0, 1) := by decide +kernel
theorem dX9_tries_1 : decode cX9_tries 1 = .ok (.istore_n 1, 1) := by decide +kernel
theorem dX9_tries_2 : decode cX9_tries 2 = .ok (.iload_n 1, 1) := by decide +kernel
theorem dX9_tries_3 : decode cX9_tries 3 = .ok (.aload_n 0, 1) := by decide +kernel
theorem dX9_tries_4 : decode cX9_tries 4 = .ok (.getfield 9, 3) := by decide +kernel
theorem dX9_tries_7 : decode cX9_tries 7 = .ok (.if_icmp .ge 16, 3) := by decide +kernel
theorem dX9_tries_10 : decode cX9_tries 10 = .ok (.aload_n 0, 1) := by decide +kernel
theorem dX9_tries_11 : decode cX9_tries 11 = .ok (.getfield 77, 3) := by decide +kernel
theorem dX9_tries_14 : decode cX9_tries 14 = .ok (.iload_n 1, 1) := by decide +kernel
theorem dX9_tries_15 : decode cX9_tries 15 = .ok (.iconst (-1), 1) := by decide +kernel
theorem dX9_tries_16 : decode cX9_tries 16 = .ok (.iastore, 1) := by decide +kernel
theorem dX9_tries_17 : decode cX9_tries 17 = .ok (.iinc 1 1, 3) := by decide +kernel
theorem dX9_tries_20 : decode cX9_tries 20 = .ok (.goto (-18), 3) := by decide +kernel
theorem dX9_tries_23 : decode cX9_tries 23 = .ok (.iconst 0, 1) := by decide +kernel
theorem dX9_tries_24 : decode cX9_tries 24 = .ok (.istore_n 1, 1) := by decide +kernel
theorem dX9_tries_25 : decode cX9_tries 25 = .ok (.iload_n 1, 1) := by decide +kernel
theorem dX9_tries_26 : decode cX9_tries 26 = .ok (.aload_n 0, 1) := by decide +kernel
theorem dX9_tries_27 : decode cX9_tries 27 = .ok (.getfield 9, 3) := by decide +kernel
theorem dX9_tries_30 : decode cX9_tries 30 = .ok (.if_icmp .ge 130, 3) := by decide +kernel
theorem dX9_tries_33 : decode cX9_tries 33 = .ok (.iload_n 1, 1) := by decide +kernel
theorem dX9_tries_34 : decode cX9_tries 34 = .ok (.istore_n 2, 1) := by decide +kernel
theorem dX9_tries_35 : decode cX9_tries 35 = .ok (.iconst 0, 1) := by decide +kernel
theorem dX9_tries_36 : decode cX9_tries 36 = .ok (.istore_n 3, 1) := by decide +kernel
theorem dX9_tries_37 : decode cX9_tries 37 = .ok (.iload_n 3, 1) := by decide +kernel
theorem dX9_tries_38 : decode cX9_tries 38 = .ok (.aload_n 0, 1) := by decide +kernel
theorem dX9_tries_39 : decode cX9_tries 39 = .ok (.getfield 9, 3) := by decide +kernel
theorem dX9_tries_42 : decode cX9_tries 42 = .ok (.if_icmp .ge 16, 3) := by decide +kernel
theorem dX9_tries_45 : decode cX9_tries 45 = .ok (.aload_n 0, 1) := by decide +kernel
theorem dX9_tries_46 : decode cX9_tries 46 = .ok (.getfield 74, 3) := by decide +kernel
theorem dX9_tries_49 : decode cX9_tries 49 = .ok (.iload_n 2, 1) := by decide +kernel
theorem dX9_tries_50 : decode cX9_tries 50 = .ok (.iaload, 1) := by decide +kernel
theorem dX9_tries_51 : decode cX9_tries 51 = .ok (.istore_n 2, 1) := by decide +kernel
theorem dX9_tries_52 : decode cX9_tries 52 = .ok (.iinc 3 1, 3) := by decide +kernel
theorem dX9_tries_55 : decode cX9_tries 55 = .ok (.goto (-18), 3) := by decide +kernel
theorem dX9_tries_58 : decode cX9_tries 58 = .ok (.iconst 1, 1) := by decide +kernel
theorem dX9_tries_59 : decode cX9_tries 59 = .ok (.istore_n 3, 1) := by decide +kernel
theorem dX9_tries_60 : decode cX9_tries 60 = .ok (.iconst 2, 1) := by decide +kernel
theorem dX9_tries_61 : decode cX9_tries 61 = .ok (.aload_n 0, 1) := by decide +kernel
theorem dX9_tries_62 : decode cX9_tries 62 = .ok (.iload_n 2, 1) := by decide +kernel
theorem dX9_tries_63 : decode cX9_tries 63 = .ok (.aload_n 0, 1) := by decide +kernel
theorem dX9_tries_64 : decode cX9_tries 64 = .ok (.getfield 74, 3) := by decide +kernel
theorem dX9_tries_67 : decode cX9_tries 67 = .ok (.iload_n 2, 1) := by decide +kernel
theorem dX9_tries_68 : decode cX9_tries 68 = .ok (.iaload, 1) := by decide +kernel
theorem dX9_tries_69 : decode cX9_tries 69 = .ok (.invokevirtual 111, 3) := by decide +kernel
theorem dX9_tries_72 : decode cX9_tries 72 = .ok (.imul, 1) := by decide +kernel
theorem dX9_tries_73 : decode cX9_tries 73 = .ok (.istore 4, 2) := by decide +kernel
theorem dX9_tries_75 : decode cX9_tries 75 = .ok (.aload_n 0, 1) := by decide +kernel
theorem dX9_tries_76 : decode cX9_tries 76 = .ok (.getfield 74, 3) := by decide +kernel
theorem dX9_tries_79 : decode cX9_tries 79 = .ok (.iload_n 2, 1) := by decide +kernel
theorem dX9_tries_80 : decode cX9_tries 80 = .ok (.iaload, 1) := by decide +kernel
theorem dX9_tries_81 : decode cX9_tries 81 = .ok (.istore 5, 2) := by decide +kernel
theorem dX9_tries_83 : decode cX9_tries 83 = .ok (.iload 5, 2) := by decide +kernel
theorem dX9_tries_85 : decode cX9_tries 85 = .ok (.iload_n 2, 1) := by decide +kernel
theorem dX9_tries_86 : decode cX9_tries 86 = .ok (.if_icmp .eq 50, 3) := by decide +kernel
theorem dX9_tries_89 : decode cX9_tries 89 = .ok (.iinc 3 1, 3) := by decide +kernel
theorem dX9_tries_92 : decode cX9_tries 92 = .ok (.iload 4, 2) := by decide +kernel
theorem dX9_tries_94 : decode cX9_tries 94 = .ok (.iload_n 3, 1) := by decide +kernel
theorem dX9_tries_95 : decode cX9_tries 95 = .ok (.iconst 2, 1) := by decide +kernel
theorem dX9_tries_96 : decode cX9_tries 96 = .ok (.irem, 1) := by decide +kernel
theorem dX9_tries_97 : decode cX9_tries 97 = .ok (.iconst 1, 1) := by decide +kernel
theorem dX9_tries_98 : decode cX9_tries 98 = .ok (.if_icmp .ne 7, 3) := by decide +kernel
theorem dX9_tries_101 : decode cX9_tries 101 = .ok (.iconst 2, 1) := by decide +kernel
theorem dX9_tries_102 : decode cX9_tries 102 = .ok (.goto 5, 3) := by decide +kernel
theorem dX9_tries_105 : decode cX9_tries 105 = .ok (.bipush (-2), 2) := by decide +kernel
theorem dX9_tries_107 : decode cX9_tries 107 = .ok (.aload_n 0, 1) := by decide +kernel
theorem dX9_tries_108 : decode cX9_tries 108 = .ok (.iload 5, 2) := by decide +kernel
theorem dX9_tries_110 : decode cX9_tries 110 = .ok (.aload_n 0, 1) := by decide +kernel
theorem dX9_tries_111 : decode cX9_tries 111 = .ok (.getfield 74, 3) := by decide +kernel
theorem dX9_tries_114 : decode cX9_tries 114 = .ok (.iload 5, 2) := by decide +kernel
theorem dX9_tries_116 : decode cX9_tries 116 = .ok (.iaload, 1) := by decide +kernel
theorem dX9_tries_117 : decode cX9_tries 117 = .ok (.invokevirtual 111, 3) := by decide +kernel
theorem dX9_tries_120 : decode cX9_tries 120 = .ok (.imul, 1) := by decide +kernel
theorem dX9_tries_121 : decode cX9_tries 121 = .ok (.iadd, 1) := by decide +kernel
theorem dX9_tries_122 : decode cX9_tries 122 = .ok (.istore 4, 2) := by decide +kernel
theorem dX9_tries_124 : decode cX9_tries 124 = .ok (.aload_n 0, 1) := by decide +kernel
theorem dX9_tries_125 : decode cX9_tries 125 = .ok (.getfield 74, 3) := by decide +kernel
theorem dX9_tries_128 : decode cX9_tries 128 = .ok (.iload 5, 2) := by decide +kernel
theorem dX9_tries_130 : decode cX9_tries 130 = .ok (.iaload, 1) := by decide +kernel
theorem dX9_tries_131 : decode cX9_tries 131 = .ok (.istore 5, 2) := by decide +kernel
theorem dX9_tries_133 : decode cX9_tries 133 = .ok (.goto (-50), 3) := by decide +kernel
theorem dX9_tries_136 : decode cX9_tries 136 = .ok (.iload_n 3, 1) := by decide +kernel
theorem dX9_tries_137 : decode cX9_tries 137 = .ok (.iconst 2, 1) := by decide +kernel
theorem dX9_tries_138 : decode cX9_tries 138 = .ok (.irem, 1) := by decide +kernel
theorem dX9_tries_139 : decode cX9_tries 139 = .ok (.ifCond .ne 5, 3) := by decide +kernel
theorem dX9_tries_142 : decode cX9_tries 142 = .ok (.iconst 0, 1) := by decide +kernel
theorem dX9_tries_143 : decode cX9_tries 143 = .ok (.ireturn, 1) := by decide +kernel
theorem dX9_tries_144 : decode cX9_tries 144 = .ok (.aload_n 0, 1) := by decide +kernel
theorem dX9_tries_145 : decode cX9_tries 145 = .ok (.getfield 77, 3) := by decide +kernel
theorem dX9_tries_148 : decode cX9_tries 148 = .ok (.iload_n 2, 1) := by decide +kernel
theorem dX9_tries_149 : decode cX9_tries 149 = .ok (.iload 4, 2) := by decide +kernel
theorem dX9_tries_151 : decode cX9_tries 151 = .ok (.iconst 2, 1) := by decide +kernel
theorem dX9_tries_152 : decode cX9_tries 152 = .ok (.idiv, 1) := by decide +kernel
theorem dX9_tries_153 : decode cX9_tries 153 = .ok (.iastore, 1) := by decide +kernel
theorem dX9_tries_154 : decode cX9_tries 154 = .ok (.iinc 1 1, 3) := by decide +kernel
theorem dX9_tries_157 : decode cX9_tries 157 = .ok (.goto (-132), 3) := by decide +kernel
theorem dX9_tries_160 : decode cX9_tries 160 = .ok (.iconst 0, 1) := by decide +kernel
theorem dX9_tries_161 : decode cX9_tries 161 = .ok (.istore_n 1, 1) := by decide +kernel
theorem dX9_tries_162 : decode cX9_tries 162 = .ok (.iload_n 1, 1) := by decide +kernel
theorem dX9_tries_163 : decode cX9_tries 163 = .ok (.aload_n 0, 1) := by decide +kernel
theorem dX9_tries_164 : decode cX9_tries 164 = .ok (.getfield 9, 3) := by decide +kernel
theorem dX9_tries_167 : decode cX9_tries 167 = .ok (.if_icmp .ge 88, 3) := by decide +kernel
theorem dX9_tries_170 : decode cX9_tries 170 = .ok (.iconst 0, 1) := by decide +kernel
theorem dX9_tries_171 : decode cX9_tries 171 = .ok (.istore_n 2, 1) := by decide +kernel
theorem dX9_tries_172 : decode cX9_tries 172 = .ok (.iload_n 2, 1) := by decide +kernel
theorem dX9_tries_173 : decode cX9_tries 173 = .ok (.aload_n 0, 1) := by decide +kernel
theorem dX9_tries_174 : decode cX9_tries 174 = .ok (.getfield 9, 3) := by decide +kernel
theorem dX9_tries_177 : decode cX9_tries 177 = .ok (.if_icmp .ge 72, 3) := by decide +kernel
theorem dX9_tries_180 : decode cX9_tries 180 = .ok (.aload_n 0, 1) := by decide +kernel
theorem dX9_tries_181 : decode cX9_tries 181 = .ok (.getfield 77, 3) := by decide +kernel
theorem dX9_tries_184 : decode cX9_tries 184 = .ok (.iload_n 2, 1) := by decide +kernel
theorem dX9_tries_185 : decode cX9_tries 185 = .ok (.aload_n 0, 1) := by decide +kernel
theorem dX9_tries_186 : decode cX9_tries 186 = .ok (.getfield 77, 3) := by decide +kernel
theorem dX9_tries_189 : decode cX9_tries 189 = .ok (.iload_n 2, 1) := by decide +kernel
theorem dX9_tries_190 : decode cX9_tries 190 = .ok (.iaload, 1) := by decide +kernel
theorem dX9_tries_191 : decode cX9_tries 191 = .ok (.ifCond .ge 45, 3) := by decide +kernel
theorem dX9_tries_194 : decode cX9_tries 194 = .ok (.aload_n 0, 1) := by decide +kernel
theorem dX9_tries_195 : decode cX9_tries 195 = .ok (.getfield 77, 3) := by decide +kernel
theorem dX9_tries_198 : decode cX9_tries 198 = .ok (.aload_n 0, 1) := by decide +kernel
theorem dX9_tries_199 : decode cX9_tries 199 = .ok (.getfield 74, 3) := by decide +kernel
theorem dX9_tries_202 : decode cX9_tries 202 = .ok (.iload_n 2, 1) := by decide +kernel
theorem dX9_tries_203 : decode cX9_tries 203 = .ok (.iaload, 1) := by decide +kernel
theorem dX9_tries_204 : decode cX9_tries 204 = .ok (.iaload, 1) := by decide +kernel
theorem dX9_tries_205 : decode cX9_tries 205 = .ok (.ifCond .lt 31, 3) := by decide +kernel
theorem dX9_tries_208 : decode cX9_tries 208 = .ok (.iconst 2, 1) := by decide +kernel
theorem dX9_tries_209 : decode cX9_tries 209 = .ok (.aload_n 0, 1) := by decide +kernel
theorem dX9_tries_210 : decode cX9_tries 210 = .ok (.iload_n 2, 1) := by decide +kernel
theorem dX9_tries_211 : decode cX9_tries 211 = .ok (.aload_n 0, 1) := by decide +kernel
theorem dX9_tries_212 : decode cX9_tries 212 = .ok (.getfield 74, 3) := by decide +kernel
theorem dX9_tries_215 : decode cX9_tries 215 = .ok (.iload_n 2, 1) := by decide +kernel
theorem dX9_tries_216 : decode cX9_tries 216 = .ok (.iaload, 1) := by decide +kernel
theorem dX9_tries_217 : decode cX9_tries 217 = .ok (.invokevirtual 111, 3) := by decide +kernel
theorem dX9_tries_220 : decode cX9_tries 220 = .ok (.imul, 1) := by decide +kernel
theorem dX9_tries_221 : decode cX9_tries 221 = .ok (.aload_n 0, 1) := by decide +kernel
theorem dX9_tries_222 : decode cX9_tries 222 = .ok (.getfield 77, 3) := by decide +kernel
theorem dX9_tries_225 : decode cX9_tries 225 = .ok (.aload_n 0, 1) := by decide +kernel
theorem dX9_tries_226 : decode cX9_tries 226 = .ok (.getfield 74, 3) := by decide +kernel
theorem dX9_tries_229 : decode cX9_tries 229 = .ok (.iload_n 2, 1) := by decide +kernel
theorem dX9_tries_230 : decode cX9_tries 230 = .ok (.iaload, 1) := by decide +kernel
theorem dX9_tries_231 : decode cX9_tries 231 = .ok (.iaload, 1) := by decide +kernel
theorem dX9_tries_232 : decode cX9_tries 232 = .ok (.isub, 1) := by decide +kernel
theorem dX9_tries_233 : decode cX9_tries 233 = .ok (.goto 9, 3) := by decide +kernel
theorem dX9_tries_236 : decode cX9_tries 236 = .ok (.aload_n 0, 1) := by decide +kernel
theorem dX9_tries_237 : decode cX9_tries 237 = .ok (.getfield 77, 3) := by decide +kernel
theorem dX9_tries_240 : decode cX9_tries 240 = .ok (.iload_n 2, 1) := by decide +kernel
theorem dX9_tries_241 : decode cX9_tries 241 = .ok (.iaload, 1) := by decide +kernel
theorem dX9_tries_242 : decode cX9_tries 242 = .ok (.iastore, 1) := by decide +kernel
theorem dX9_tries_243 : decode cX9_tries 243 = .ok (.iinc 2 1, 3) := by decide +kernel
theorem dX9_tries_246 : decode cX9_tries 246 = .ok (.goto (-74), 3) := by decide +kernel
theorem dX9_tries_249 : decode cX9_tries 249 = .ok (.iinc 1 1, 3) := by decide +kernel
theorem dX9_tries_252 : decode cX9_tries 252 = .ok (.goto (-90), 3) := by decide +kernel
theorem dX9_tries_255 : decode cX9_tries 255 = .ok (.iconst 0, 1) := by decide +kernel
theorem dX9_tries_256 : decode cX9_tries 256 = .ok (.istore_n 1, 1) := by decide +kernel
theorem dX9_tries_257 : decode cX9_tries 257 = .ok (.iload_n 1, 1) := by decide +kernel
theorem dX9_tries_258 : decode cX9_tries 258 = .ok (.aload_n 0, 1) := by decide +kernel
theorem dX9_tries_259 : decode cX9_tries 259 = .ok (.getfield 9, 3) := by decide +kernel
theorem dX9_tries_262 : decode cX9_tries 262 = .ok (.if_icmp .ge 54, 3) := by decide +kernel
theorem dX9_tries_265 : decode cX9_tries 265 = .ok (.aload_n 0, 1) := by decide +kernel
theorem dX9_tries_266 : decode cX9_tries 266 = .ok (.getfield 77, 3) := by decide +kernel
theorem dX9_tries_269 : decode cX9_tries 269 = .ok (.iload_n 1, 1) := by decide +kernel
theorem dX9_tries_270 : decode cX9_tries 270 = .ok (.iaload, 1) := by decide +kernel
theorem dX9_tries_271 : decode cX9_tries 271 = .ok (.ifCond .lt 37, 3) := by decide +kernel
theorem dX9_tries_274 : decode cX9_tries 274 = .ok (.aload_n 0, 1) := by decide +kernel
theorem dX9_tries_275 : decode cX9_tries 275 = .ok (.getfield 77, 3) := by decide +kernel
theorem dX9_tries_278 : decode cX9_tries 278 = .ok (.iload_n 1, 1) := by decide +kernel
theorem dX9_tries_279 : decode cX9_tries 279 = .ok (.iaload, 1) := by decide +kernel
theorem dX9_tries_280 : decode cX9_tries 280 = .ok (.aload_n 0, 1) := by decide +kernel
theorem dX9_tries_281 : decode cX9_tries 281 = .ok (.getfield 77, 3) := by decide +kernel
theorem dX9_tries_284 : decode cX9_tries 284 = .ok (.aload_n 0, 1) := by decide +kernel
theorem dX9_tries_285 : decode cX9_tries 285 = .ok (.getfield 74, 3) := by decide +kernel
theorem dX9_tries_288 : decode cX9_tries 288 = .ok (.iload_n 1, 1) := by decide +kernel
theorem dX9_tries_289 : decode cX9_tries 289 = .ok (.iaload, 1) := by decide +kernel
theorem dX9_tries_290 : decode cX9_tries 290 = .ok (.iaload, 1) := by decide +kernel
theorem dX9_tries_291 : decode cX9_tries 291 = .ok (.iadd, 1) := by decide +kernel
theorem dX9_tries_292 : decode cX9_tries 292 = .ok (.iconst 2, 1) := by decide +kernel
theorem dX9_tries_293 : decode cX9_tries 293 = .ok (.aload_n 0, 1) := by decide +kernel
theorem dX9_tries_294 : decode cX9_tries 294 = .ok (.iload_n 1, 1) := by decide +kernel
theorem dX9_tries_295 : decode cX9_tries 295 = .ok (.aload_n 0, 1) := by decide +kernel
theorem dX9_tries_296 : decode cX9_tries 296 = .ok (.getfield 74, 3) := by decide +kernel
theorem dX9_tries_299 : decode cX9_tries 299 = .ok (.iload_n 1, 1) := by decide +kernel
theorem dX9_tries_300 : decode cX9_tries 300 = .ok (.iaload, 1) := by decide +kernel
theorem dX9_tries_301 : decode cX9_tries 301 = .ok (.invokevirtual 111, 3) := by decide +kernel
theorem dX9_tries_304 : decode cX9_tries 304 = .ok (.imul, 1) := by decide +kernel
theorem dX9_tries_305 : decode cX9_tries 305 = .ok (.if_icmp .eq 5, 3) := by decide +kernel
theorem dX9_tries_308 : decode cX9_tries 308 = .ok (.iconst 0, 1) := by decide +kernel
theorem dX9_tries_309 : decode cX9_tries 309 = .ok (.ireturn, 1) := by decide +kernel
