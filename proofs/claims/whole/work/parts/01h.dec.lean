theorem dX12_cake_117 : decode cX12_cake 117 = .ok (.getfield 24, 3) := by decide +kernel
theorem dX12_cake_120 : decode cX12_cake 120 = .ok (.iload_n 2, 1) := by decide +kernel
theorem dX12_cake_121 : decode cX12_cake 121 = .ok (.iaload, 1) := by decide +kernel
theorem dX12_cake_122 : decode cX12_cake 122 = .ok (.iastore, 1) := by decide +kernel
theorem dX12_cake_123 : decode cX12_cake 123 = .ok (.iinc 2 1, 3) := by decide +kernel
theorem dX12_cake_126 : decode cX12_cake 126 = .ok (.goto (-43), 3) := by decide +kernel
theorem dX12_cake_129 : decode cX12_cake 129 = .ok (.iinc 1 1, 3) := by decide +kernel
theorem dX12_cake_132 : decode cX12_cake 132 = .ok (.goto (-85), 3) := by decide +kernel
theorem dX12_cake_135 : decode cX12_cake 135 = .ok (.iconst 0, 1) := by decide +kernel
theorem dX12_cake_136 : decode cX12_cake 136 = .ok (.istore_n 1, 1) := by decide +kernel
theorem dX12_cake_137 : decode cX12_cake 137 = .ok (.iload_n 1, 1) := by decide +kernel
theorem dX12_cake_138 : decode cX12_cake 138 = .ok (.sipush 171, 3) := by decide +kernel
theorem dX12_cake_141 : decode cX12_cake 141 = .ok (.if_icmp .ge 16, 3) := by decide +kernel
theorem dX12_cake_144 : decode cX12_cake 144 = .ok (.aload_n 0, 1) := by decide +kernel
theorem dX12_cake_145 : decode cX12_cake 145 = .ok (.getfield 91, 3) := by decide +kernel
theorem dX12_cake_148 : decode cX12_cake 148 = .ok (.iload_n 1, 1) := by decide +kernel
theorem dX12_cake_149 : decode cX12_cake 149 = .ok (.iconst 0, 1) := by decide +kernel
theorem dX12_cake_150 : decode cX12_cake 150 = .ok (.iastore, 1) := by decide +kernel
theorem dX12_cake_151 : decode cX12_cake 151 = .ok (.iinc 1 1, 3) := by decide +kernel
theorem dX12_cake_154 : decode cX12_cake 154 = .ok (.goto (-17), 3) := by decide +kernel
theorem dX12_cake_157 : decode cX12_cake 157 = .ok (.iconst 0, 1) := by decide +kernel
theorem dX12_cake_158 : decode cX12_cake 158 = .ok (.istore_n 1, 1) := by decide +kernel
theorem dX12_cake_159 : decode cX12_cake 159 = .ok (.iload_n 1, 1) := by decide +kernel
theorem dX12_cake_160 : decode cX12_cake 160 = .ok (.aload_n 0, 1) := by decide +kernel
theorem dX12_cake_161 : decode cX12_cake 161 = .ok (.getfield 350, 3) := by decide +kernel
theorem dX12_cake_164 : decode cX12_cake 164 = .ok (.if_icmp .ge 102, 3) := by decide +kernel
theorem dX12_cake_167 : decode cX12_cake 167 = .ok (.aload_n 0, 1) := by decide +kernel
theorem dX12_cake_168 : decode cX12_cake 168 = .ok (.getfield 61, 3) := by decide +kernel
theorem dX12_cake_171 : decode cX12_cake 171 = .ok (.iload_n 1, 1) := by decide +kernel
theorem dX12_cake_172 : decode cX12_cake 172 = .ok (.aload_n 0, 1) := by decide +kernel
theorem dX12_cake_173 : decode cX12_cake 173 = .ok (.getfield 52, 3) := by decide +kernel
theorem dX12_cake_176 : decode cX12_cake 176 = .ok (.iload_n 1, 1) := by decide +kernel
theorem dX12_cake_177 : decode cX12_cake 177 = .ok (.iaload, 1) := by decide +kernel
theorem dX12_cake_178 : decode cX12_cake 178 = .ok (.iastore, 1) := by decide +kernel
theorem dX12_cake_179 : decode cX12_cake 179 = .ok (.aload_n 0, 1) := by decide +kernel
theorem dX12_cake_180 : decode cX12_cake 180 = .ok (.getfield 64, 3) := by decide +kernel
theorem dX12_cake_183 : decode cX12_cake 183 = .ok (.iload_n 1, 1) := by decide +kernel
theorem dX12_cake_184 : decode cX12_cake 184 = .ok (.aload_n 0, 1) := by decide +kernel
theorem dX12_cake_185 : decode cX12_cake 185 = .ok (.getfield 55, 3) := by decide +kernel
theorem dX12_cake_188 : decode cX12_cake 188 = .ok (.iload_n 1, 1) := by decide +kernel
theorem dX12_cake_189 : decode cX12_cake 189 = .ok (.iaload, 1) := by decide +kernel
theorem dX12_cake_190 : decode cX12_cake 190 = .ok (.iastore, 1) := by decide +kernel
theorem dX12_cake_191 : decode cX12_cake 191 = .ok (.aload_n 0, 1) := by decide +kernel
theorem dX12_cake_192 : decode cX12_cake 192 = .ok (.getfield 67, 3) := by decide +kernel
theorem dX12_cake_195 : decode cX12_cake 195 = .ok (.iload_n 1, 1) := by decide +kernel
theorem dX12_cake_196 : decode cX12_cake 196 = .ok (.aload_n 0, 1) := by decide +kernel
theorem dX12_cake_197 : decode cX12_cake 197 = .ok (.getfield 58, 3) := by decide +kernel
theorem dX12_cake_200 : decode cX12_cake 200 = .ok (.iload_n 1, 1) := by decide +kernel
theorem dX12_cake_201 : decode cX12_cake 201 = .ok (.iaload, 1) := by decide +kernel
theorem dX12_cake_202 : decode cX12_cake 202 = .ok (.iastore, 1) := by decide +kernel
theorem dX12_cake_203 : decode cX12_cake 203 = .ok (.aload_n 0, 1) := by decide +kernel
theorem dX12_cake_204 : decode cX12_cake 204 = .ok (.getfield 91, 3) := by decide +kernel
theorem dX12_cake_207 : decode cX12_cake 207 = .ok (.bipush 7, 2) := by decide +kernel
theorem dX12_cake_209 : decode cX12_cake 209 = .ok (.iload_n 1, 1) := by decide +kernel
theorem dX12_cake_210 : decode cX12_cake 210 = .ok (.imul, 1) := by decide +kernel
theorem dX12_cake_211 : decode cX12_cake 211 = .ok (.iload_n 1, 1) := by decide +kernel
theorem dX12_cake_212 : decode cX12_cake 212 = .ok (.iastore, 1) := by decide +kernel
theorem dX12_cake_213 : decode cX12_cake 213 = .ok (.aload_n 0, 1) := by decide +kernel
theorem dX12_cake_214 : decode cX12_cake 214 = .ok (.getfield 91, 3) := by decide +kernel
theorem dX12_cake_217 : decode cX12_cake 217 = .ok (.bipush 7, 2) := by decide +kernel
theorem dX12_cake_219 : decode cX12_cake 219 = .ok (.iload_n 1, 1) := by decide +kernel
theorem dX12_cake_220 : decode cX12_cake 220 = .ok (.imul, 1) := by decide +kernel
theorem dX12_cake_221 : decode cX12_cake 221 = .ok (.iconst 3, 1) := by decide +kernel
theorem dX12_cake_222 : decode cX12_cake 222 = .ok (.iadd, 1) := by decide +kernel
theorem dX12_cake_223 : decode cX12_cake 223 = .ok (.aload_n 0, 1) := by decide +kernel
theorem dX12_cake_224 : decode cX12_cake 224 = .ok (.getfield 61, 3) := by decide +kernel
theorem dX12_cake_227 : decode cX12_cake 227 = .ok (.iload_n 1, 1) := by decide +kernel
theorem dX12_cake_228 : decode cX12_cake 228 = .ok (.iaload, 1) := by decide +kernel
theorem dX12_cake_229 : decode cX12_cake 229 = .ok (.iastore, 1) := by decide +kernel
theorem dX12_cake_230 : decode cX12_cake 230 = .ok (.aload_n 0, 1) := by decide +kernel
theorem dX12_cake_231 : decode cX12_cake 231 = .ok (.getfield 91, 3) := by decide +kernel
theorem dX12_cake_234 : decode cX12_cake 234 = .ok (.bipush 7, 2) := by decide +kernel
theorem dX12_cake_236 : decode cX12_cake 236 = .ok (.iload_n 1, 1) := by decide +kernel
theorem dX12_cake_237 : decode cX12_cake 237 = .ok (.imul, 1) := by decide +kernel
theorem dX12_cake_238 : decode cX12_cake 238 = .ok (.iconst 4, 1) := by decide +kernel
theorem dX12_cake_239 : decode cX12_cake 239 = .ok (.iadd, 1) := by decide +kernel
theorem dX12_cake_240 : decode cX12_cake 240 = .ok (.aload_n 0, 1) := by decide +kernel
theorem dX12_cake_241 : decode cX12_cake 241 = .ok (.getfield 64, 3) := by decide +kernel
theorem dX12_cake_244 : decode cX12_cake 244 = .ok (.iload_n 1, 1) := by decide +kernel
theorem dX12_cake_245 : decode cX12_cake 245 = .ok (.iaload, 1) := by decide +kernel
theorem dX12_cake_246 : decode cX12_cake 246 = .ok (.iastore, 1) := by decide +kernel
theorem dX12_cake_247 : decode cX12_cake 247 = .ok (.aload_n 0, 1) := by decide +kernel
theorem dX12_cake_248 : decode cX12_cake 248 = .ok (.getfield 91, 3) := by decide +kernel
theorem dX12_cake_251 : decode cX12_cake 251 = .ok (.bipush 7, 2) := by decide +kernel
theorem dX12_cake_253 : decode cX12_cake 253 = .ok (.iload_n 1, 1) := by decide +kernel
theorem dX12_cake_254 : decode cX12_cake 254 = .ok (.imul, 1) := by decide +kernel
theorem dX12_cake_255 : decode cX12_cake 255 = .ok (.bipush 6, 2) := by decide +kernel
theorem dX12_cake_257 : decode cX12_cake 257 = .ok (.iadd, 1) := by decide +kernel
theorem dX12_cake_258 : decode cX12_cake 258 = .ok (.iconst (-1), 1) := by decide +kernel
theorem dX12_cake_259 : decode cX12_cake 259 = .ok (.iastore, 1) := by decide +kernel
theorem dX12_cake_260 : decode cX12_cake 260 = .ok (.iinc 1 1, 3) := by decide +kernel
theorem dX12_cake_263 : decode cX12_cake 263 = .ok (.goto (-104), 3) := by decide +kernel
theorem dX12_cake_266 : decode cX12_cake 266 = .ok (.iconst 0, 1) := by decide +kernel
theorem dX12_cake_267 : decode cX12_cake 267 = .ok (.istore_n 1, 1) := by decide +kernel
theorem dX12_cake_268 : decode cX12_cake 268 = .ok (.iload_n 1, 1) := by decide +kernel
theorem dX12_cake_269 : decode cX12_cake 269 = .ok (.aload_n 0, 1) := by decide +kernel
theorem dX12_cake_270 : decode cX12_cake 270 = .ok (.getfield 353, 3) := by decide +kernel
theorem dX12_cake_273 : decode cX12_cake 273 = .ok (.if_icmp .ge 45, 3) := by decide +kernel
theorem dX12_cake_276 : decode cX12_cake 276 = .ok (.aload_n 0, 1) := by decide +kernel
theorem dX12_cake_277 : decode cX12_cake 277 = .ok (.getfield 79, 3) := by decide +kernel
theorem dX12_cake_280 : decode cX12_cake 280 = .ok (.iload_n 1, 1) := by decide +kernel
theorem dX12_cake_281 : decode cX12_cake 281 = .ok (.aload_n 0, 1) := by decide +kernel
theorem dX12_cake_282 : decode cX12_cake 282 = .ok (.getfield 70, 3) := by decide +kernel
theorem dX12_cake_285 : decode cX12_cake 285 = .ok (.iload_n 1, 1) := by decide +kernel
theorem dX12_cake_286 : decode cX12_cake 286 = .ok (.iaload, 1) := by decide +kernel
theorem dX12_cake_287 : decode cX12_cake 287 = .ok (.iastore, 1) := by decide +kernel
theorem dX12_cake_288 : decode cX12_cake 288 = .ok (.aload_n 0, 1) := by decide +kernel
theorem dX12_cake_289 : decode cX12_cake 289 = .ok (.getfield 82, 3) := by decide +kernel
theorem dX12_cake_292 : decode cX12_cake 292 = .ok (.iload_n 1, 1) := by decide +kernel
theorem dX12_cake_293 : decode cX12_cake 293 = .ok (.aload_n 0, 1) := by decide +kernel
theorem dX12_cake_294 : decode cX12_cake 294 = .ok (.getfield 73, 3) := by decide +kernel
theorem dX12_cake_297 : decode cX12_cake 297 = .ok (.iload_n 1, 1) := by decide +kernel
theorem dX12_cake_298 : decode cX12_cake 298 = .ok (.iaload, 1) := by decide +kernel
theorem dX12_cake_299 : decode cX12_cake 299 = .ok (.iastore, 1) := by decide +kernel
theorem dX12_cake_300 : decode cX12_cake 300 = .ok (.aload_n 0, 1) := by decide +kernel
theorem dX12_cake_301 : decode cX12_cake 301 = .ok (.getfield 85, 3) := by decide +kernel
theorem dX12_cake_304 : decode cX12_cake 304 = .ok (.iload_n 1, 1) := by decide +kernel
theorem dX12_cake_305 : decode cX12_cake 305 = .ok (.aload_n 0, 1) := by decide +kernel
theorem dX12_cake_306 : decode cX12_cake 306 = .ok (.getfield 76, 3) := by decide +kernel
theorem dX12_cake_309 : decode cX12_cake 309 = .ok (.iload_n 1, 1) := by decide +kernel
theorem dX12_cake_310 : decode cX12_cake 310 = .ok (.iaload, 1) := by decide +kernel
theorem dX12_cake_311 : decode cX12_cake 311 = .ok (.iastore, 1) := by decide +kernel
theorem dX12_cake_312 : decode cX12_cake 312 = .ok (.iinc 1 1, 3) := by decide +kernel
theorem dX12_cake_315 : decode cX12_cake 315 = .ok (.goto (-47), 3) := by decide +kernel
theorem dX12_cake_318 : decode cX12_cake 318 = .ok (.aload_n 0, 1) := by decide +kernel
theorem dX12_cake_319 : decode cX12_cake 319 = .ok (.getfield 91, 3) := by decide +kernel
theorem dX12_cake_322 : decode cX12_cake 322 = .ok (.sipush 168, 3) := by decide +kernel
theorem dX12_cake_325 : decode cX12_cake 325 = .ok (.aload_n 0, 1) := by decide +kernel
theorem dX12_cake_326 : decode cX12_cake 326 = .ok (.getfield 350, 3) := by decide +kernel
theorem dX12_cake_329 : decode cX12_cake 329 = .ok (.iastore, 1) := by decide +kernel
theorem dX12_cake_330 : decode cX12_cake 330 = .ok (.aload_n 0, 1) := by decide +kernel
theorem dX12_cake_331 : decode cX12_cake 331 = .ok (.getfield 91, 3) := by decide +kernel
theorem dX12_cake_334 : decode cX12_cake 334 = .ok (.sipush 170, 3) := by decide +kernel
theorem dX12_cake_337 : decode cX12_cake 337 = .ok (.aload_n 0, 1) := by decide +kernel
theorem dX12_cake_338 : decode cX12_cake 338 = .ok (.getfield 341, 3) := by decide +kernel
theorem dX12_cake_341 : decode cX12_cake 341 = .ok (.iastore, 1) := by decide +kernel
theorem dX12_cake_342 : decode cX12_cake 342 = .ok (.aload_n 0, 1) := by decide +kernel
theorem dX12_cake_343 : decode cX12_cake 343 = .ok (.iconst 0, 1) := by decide +kernel
theorem dX12_cake_344 : decode cX12_cake 344 = .ok (.putfield 359, 3) := by decide +kernel
theorem dX12_cake_347 : decode cX12_cake 347 = .ok (.aload_n 0, 1) := by decide +kernel
theorem dX12_cake_348 : decode cX12_cake 348 = .ok (.iconst 0, 1) := by decide +kernel
theorem dX12_cake_349 : decode cX12_cake 349 = .ok (.putfield 362, 3) := by decide +kernel
theorem dX12_cake_352 : decode cX12_cake 352 = .ok (.aload_n 0, 1) := by decide +kernel
theorem dX12_cake_353 : decode cX12_cake 353 = .ok (.iconst 0, 1) := by decide +kernel
theorem dX12_cake_354 : decode cX12_cake 354 = .ok (.putfield 365, 3) := by decide +kernel
theorem dX12_cake_357 : decode cX12_cake 357 = .ok (.aload_n 0, 1) := by decide +kernel
theorem dX12_cake_358 : decode cX12_cake 358 = .ok (.iconst 0, 1) := by decide +kernel
theorem dX12_cake_359 : decode cX12_cake 359 = .ok (.putfield 368, 3) := by decide +kernel
theorem dX12_cake_362 : decode cX12_cake 362 = .ok (.iconst 0, 1) := by decide +kernel
theorem dX12_cake_363 : decode cX12_cake 363 = .ok (.istore_n 1, 1) := by decide +kernel
theorem dX12_cake_364 : decode cX12_cake 364 = .ok (.iload_n 1, 1) := by decide +kernel
theorem dX12_cake_365 : decode cX12_cake 365 = .ok (.iconst 3, 1) := by decide +kernel
theorem dX12_cake_366 : decode cX12_cake 366 = .ok (.if_icmp .ge 16, 3) := by decide +kernel
theorem dX12_cake_369 : decode cX12_cake 369 = .ok (.aload_n 0, 1) := by decide +kernel
theorem dX12_cake_370 : decode cX12_cake 370 = .ok (.getfield 133, 3) := by decide +kernel
theorem dX12_cake_373 : decode cX12_cake 373 = .ok (.iload_n 1, 1) := by decide +kernel
theorem dX12_cake_374 : decode cX12_cake 374 = .ok (.iconst 0, 1) := by decide +kernel
theorem dX12_cake_375 : decode cX12_cake 375 = .ok (.bastore, 1) := by decide +kernel
theorem dX12_cake_376 : decode cX12_cake 376 = .ok (.iinc 1 1, 3) := by decide +kernel
theorem dX12_cake_379 : decode cX12_cake 379 = .ok (.goto (-15), 3) := by decide +kernel
theorem dX12_cake_382 : decode cX12_cake 382 = .ok (.aload_n 0, 1) := by decide +kernel
theorem dX12_cake_383 : decode cX12_cake 383 = .ok (.getfield 350, 3) := by decide +kernel
theorem dX12_cake_386 : decode cX12_cake 386 = .ok (.ireturn, 1) := by decide +kernel
theorem dX12_fault_0 : decode cX12_fault 0 = .ok (.iload_n 1, 1) := by decide +kernel
theorem dX12_fault_1 : decode cX12_fault 1 = .ok (.ifCond .ne 10, 3) := by decide +kernel
theorem dX12_fault_4 : decode cX12_fault 4 = .ok (.aload_n 0, 1) := by decide +kernel
theorem dX12_fault_5 : decode cX12_fault 5 = .ok (.getfield 179, 3) := by decide +kernel
theorem dX12_fault_8 : decode cX12_fault 8 = .ok (.goto 16, 3) := by decide +kernel
theorem dX12_fault_11 : decode cX12_fault 11 = .ok (.iload_n 1, 1) := by decide +kernel
theorem dX12_fault_12 : decode cX12_fault 12 = .ok (.iconst 1, 1) := by decide +kernel
theorem dX12_fault_13 : decode cX12_fault 13 = .ok (.if_icmp .ne 10, 3) := by decide +kernel
theorem dX12_fault_16 : decode cX12_fault 16 = .ok (.aload_n 0, 1) := by decide +kernel
theorem dX12_fault_17 : decode cX12_fault 17 = .ok (.getfield 13, 3) := by decide +kernel
theorem dX12_fault_20 : decode cX12_fault 20 = .ok (.goto 4, 3) := by decide +kernel
theorem dX12_fault_23 : decode cX12_fault 23 = .ok (.iconst (-1), 1) := by decide +kernel
theorem dX12_fault_24 : decode cX12_fault 24 = .ok (.ireturn, 1) := by decide +kernel
theorem dX12_isIn_0 : decode cX12_isIn 0 = .ok (.iload_n 0, 1) := by decide +kernel
theorem dX12_isIn_1 : decode cX12_isIn 1 = .ok (.iload_n 1, 1) := by decide +kernel
theorem dX12_isIn_2 : decode cX12_isIn 2 = .ok (.if_icmp .lt 12, 3) := by decide +kernel
theorem dX12_isIn_5 : decode cX12_isIn 5 = .ok (.iload_n 0, 1) := by decide +kernel
theorem dX12_isIn_6 : decode cX12_isIn 6 = .ok (.iload_n 2, 1) := by decide +kernel
theorem dX12_isIn_7 : decode cX12_isIn 7 = .ok (.if_icmp .gt 7, 3) := by decide +kernel
theorem dX12_isIn_10 : decode cX12_isIn 10 = .ok (.iconst 1, 1) := by decide +kernel
theorem dX12_isIn_11 : decode cX12_isIn 11 = .ok (.goto 4, 3) := by decide +kernel
theorem dX12_isIn_14 : decode cX12_isIn 14 = .ok (.iconst 0, 1) := by decide +kernel
theorem dX12_isIn_15 : decode cX12_isIn 15 = .ok (.ireturn, 1) := by decide +kernel
set_option maxRecDepth 20000 in
theorem ggX12_isTier_X12_isIn : GoodIn wsX12_isTier wsX12_isIn := goodIn_r _ [5] (by decide +kernel) (by decide +kernel)
set_option maxRecDepth 20000 in
theorem gX12_isTier_X12_isIn : GoodIn wsX12_isTier (va_wsS RX12 371 yX12_isIn wsX12_isIn) := goodIn_app (goodIn_of _ (by decide +kernel)) ggX12_isTier_X12_isIn
theorem dX12_isTier_0 : decode cX12_isTier 0 = .ok (.iload_n 1, 1) := by decide +kernel
theorem dX12_isTier_1 : decode cX12_isTier 1 = .ok (.iconst 0, 1) := by decide +kernel
theorem dX12_isTier_2 : decode cX12_isTier 2 = .ok (.aload_n 0, 1) := by decide +kernel
theorem dX12_isTier_3 : decode cX12_isTier 3 = .ok (.getfield 350, 3) := by decide +kernel
theorem dX12_isTier_6 : decode cX12_isTier 6 = .ok (.iconst 1, 1) := by decide +kernel
theorem dX12_isTier_7 : decode cX12_isTier 7 = .ok (.isub, 1) := by decide +kernel
theorem dX12_isTier_8 : decode cX12_isTier 8 = .ok (.invokestatic 371, 3) := by decide +kernel
theorem dX12_isTier_11 : decode cX12_isTier 11 = .ok (.ireturn, 1) := by decide +kernel
set_option maxRecDepth 20000 in
theorem ggX12_isGuest_X12_isIn : GoodIn wsX12_isGuest wsX12_isIn := goodIn_r _ [5] (by decide +kernel) (by decide +kernel)
set_option maxRecDepth 20000 in
theorem gX12_isGuest_X12_isIn : GoodIn wsX12_isGuest (va_wsS RX12 371 yX12_isIn wsX12_isIn) := goodIn_app (goodIn_of _ (by decide +kernel)) ggX12_isGuest_X12_isIn
theorem dX12_isGuest_0 : decode cX12_isGuest 0 = .ok (.iload_n 1, 1) := by decide +kernel
theorem dX12_isGuest_1 : decode cX12_isGuest 1 = .ok (.iconst 0, 1) := by decide +kernel
theorem dX12_isGuest_2 : decode cX12_isGuest 2 = .ok (.aload_n 0, 1) := by decide +kernel
theorem dX12_isGuest_3 : decode cX12_isGuest 3 = .ok (.getfield 353, 3) := by decide +kernel
theorem dX12_isGuest_6 : decode cX12_isGuest 6 = .ok (.iconst 1, 1) := by decide +kernel
theorem dX12_isGuest_7 : decode cX12_isGuest 7 = .ok (.isub, 1) := by decide +kernel
theorem dX12_isGuest_8 : decode cX12_isGuest 8 = .ok (.invokestatic 371, 3) := by decide +kernel
theorem dX12_isGuest_11 : decode cX12_isGuest 11 = .ok (.ireturn, 1) := by decide +kernel
set_option maxRecDepth 20000 in
theorem ggX12_isPiece_X12_isIn : GoodIn wsX12_isPiece wsX12_isIn := goodIn_r _ [5] (by decide +kernel) (by decide +kernel)
set_option maxRecDepth 20000 in
theorem gX12_isPiece_X12_isIn : GoodIn wsX12_isPiece (va_wsS RX12 371 yX12_isIn wsX12_isIn) := goodIn_app (goodIn_of _ (by decide +kernel)) ggX12_isPiece_X12_isIn
theorem dX12_isPiece_0 : decode cX12_isPiece 0 = .ok (.iload_n 1, 1) := by decide +kernel
theorem dX12_isPiece_1 : decode cX12_isPiece 1 = .ok (.iconst 0, 1) := by decide +kernel
theorem dX12_isPiece_2 : decode cX12_isPiece 2 = .ok (.aload_n 0, 1) := by decide +kernel
theorem dX12_isPiece_3 : decode cX12_isPiece 3 = .ok (.getfield 91, 3) := by decide +kernel
theorem dX12_isPiece_6 : decode cX12_isPiece 6 = .ok (.sipush 168, 3) := by decide +kernel
theorem dX12_isPiece_9 : decode cX12_isPiece 9 = .ok (.iaload, 1) := by decide +kernel
theorem dX12_isPiece_10 : decode cX12_isPiece 10 = .ok (.iconst 1, 1) := by decide +kernel
theorem dX12_isPiece_11 : decode cX12_isPiece 11 = .ok (.isub, 1) := by decide +kernel
theorem dX12_isPiece_12 : decode cX12_isPiece 12 = .ok (.invokestatic 371, 3) := by decide +kernel
theorem dX12_isPiece_15 : decode cX12_isPiece 15 = .ok (.ireturn, 1) := by decide +kernel
theorem dX12_load_0 : decode cX12_load 0 = .ok (.iconst 0, 1) := by decide +kernel
theorem dX12_load_1 : decode cX12_load 1 = .ok (.istore_n 1, 1) := by decide +kernel
theorem dX12_load_2 : decode cX12_load 2 = .ok (.iload_n 1, 1) := by decide +kernel
theorem dX12_load_3 : decode cX12_load 3 = .ok (.sipush 171, 3) := by decide +kernel
theorem dX12_load_6 : decode cX12_load 6 = .ok (.if_icmp .ge 21, 3) := by decide +kernel
theorem dX12_load_9 : decode cX12_load 9 = .ok (.aload_n 0, 1) := by decide +kernel
theorem dX12_load_10 : decode cX12_load 10 = .ok (.getfield 94, 3) := by decide +kernel
theorem dX12_load_13 : decode cX12_load 13 = .ok (.iload_n 1, 1) := by decide +kernel
theorem dX12_load_14 : decode cX12_load 14 = .ok (.aload_n 0, 1) := by decide +kernel
theorem dX12_load_15 : decode cX12_load 15 = .ok (.getfield 91, 3) := by decide +kernel
theorem dX12_load_18 : decode cX12_load 18 = .ok (.iload_n 1, 1) := by decide +kernel
theorem dX12_load_19 : decode cX12_load 19 = .ok (.iaload, 1) := by decide +kernel
theorem dX12_load_20 : decode cX12_load 20 = .ok (.iastore, 1) := by decide +kernel
theorem dX12_load_21 : decode cX12_load 21 = .ok (.iinc 1 1, 3) := by decide +kernel
theorem dX12_load_24 : decode cX12_load 24 = .ok (.goto (-22), 3) := by decide +kernel
theorem dX12_load_27 : decode cX12_load 27 = .ok (.return_, 1) := by decide +kernel
theorem dX12_areaOf_0 : decode cX12_areaOf 0 = .ok (.aload_n 0, 1) := by decide +kernel
theorem dX12_areaOf_1 : decode cX12_areaOf 1 = .ok (.getfield 94, 3) := by decide +kernel
theorem dX12_areaOf_4 : decode cX12_areaOf 4 = .ok (.bipush 7, 2) := by decide +kernel
theorem dX12_areaOf_6 : decode cX12_areaOf 6 = .ok (.iload_n 1, 1) := by decide +kernel
theorem dX12_areaOf_7 : decode cX12_areaOf 7 = .ok (.imul, 1) := by decide +kernel
theorem dX12_areaOf_8 : decode cX12_areaOf 8 = .ok (.iconst 3, 1) := by decide +kernel
theorem dX12_areaOf_9 : decode cX12_areaOf 9 = .ok (.iadd, 1) := by decide +kernel
theorem dX12_areaOf_10 : decode cX12_areaOf 10 = .ok (.iaload, 1) := by decide +kernel
theorem dX12_areaOf_11 : decode cX12_areaOf 11 = .ok (.aload_n 0, 1) := by decide +kernel
theorem dX12_areaOf_12 : decode cX12_areaOf 12 = .ok (.getfield 94, 3) := by decide +kernel
theorem dX12_areaOf_15 : decode cX12_areaOf 15 = .ok (.bipush 7, 2) := by decide +kernel
theorem dX12_areaOf_17 : decode cX12_areaOf 17 = .ok (.iload_n 1, 1) := by decide +kernel
theorem dX12_areaOf_18 : decode cX12_areaOf 18 = .ok (.imul, 1) := by decide +kernel
theorem dX12_areaOf_19 : decode cX12_areaOf 19 = .ok (.iconst 4, 1) := by decide +kernel
theorem dX12_areaOf_20 : decode cX12_areaOf 20 = .ok (.iadd, 1) := by decide +kernel
theorem dX12_areaOf_21 : decode cX12_areaOf 21 = .ok (.iaload, 1) := by decide +kernel
theorem dX12_areaOf_22 : decode cX12_areaOf 22 = .ok (.imul, 1) := by decide +kernel
theorem dX12_areaOf_23 : decode cX12_areaOf 23 = .ok (.aload_n 0, 1) := by decide +kernel
theorem dX12_areaOf_24 : decode cX12_areaOf 24 = .ok (.getfield 67, 3) := by decide +kernel
theorem dX12_areaOf_27 : decode cX12_areaOf 27 = .ok (.aload_n 0, 1) := by decide +kernel
theorem dX12_areaOf_28 : decode cX12_areaOf 28 = .ok (.getfield 94, 3) := by decide +kernel
theorem dX12_areaOf_31 : decode cX12_areaOf 31 = .ok (.bipush 7, 2) := by decide +kernel
theorem dX12_areaOf_33 : decode cX12_areaOf 33 = .ok (.iload_n 1, 1) := by decide +kernel
theorem dX12_areaOf_34 : decode cX12_areaOf 34 = .ok (.imul, 1) := by decide +kernel
theorem dX12_areaOf_35 : decode cX12_areaOf 35 = .ok (.iaload, 1) := by decide +kernel
theorem dX12_areaOf_36 : decode cX12_areaOf 36 = .ok (.iaload, 1) := by decide +kernel
theorem dX12_areaOf_37 : decode cX12_areaOf 37 = .ok (.imul, 1) := by decide +kernel
theorem dX12_areaOf_38 : decode cX12_areaOf 38 = .ok (.ireturn, 1) := by decide +kernel
set_option maxRecDepth 20000 in
theorem ggX12_icingOf_X12_truth : GoodIn wsX12_icingOf wsX12_truth := goodIn_r _ [7] (by decide +kernel) (by decide +kernel)
set_option maxRecDepth 20000 in
theorem gX12_icingOf_X12_truth : GoodIn wsX12_icingOf (va_wsS RX12 302 yX12_truth wsX12_truth) := goodIn_app (goodIn_of _ (by decide +kernel)) ggX12_icingOf_X12_truth
theorem dX12_icingOf_0 : decode cX12_icingOf 0 = .ok (.aload_n 0, 1) := by decide +kernel
theorem dX12_icingOf_1 : decode cX12_icingOf 1 = .ok (.getfield 94, 3) := by decide +kernel
theorem dX12_icingOf_4 : decode cX12_icingOf 4 = .ok (.bipush 7, 2) := by decide +kernel
theorem dX12_icingOf_6 : decode cX12_icingOf 6 = .ok (.iload_n 1, 1) := by decide +kernel
theorem dX12_icingOf_7 : decode cX12_icingOf 7 = .ok (.imul, 1) := by decide +kernel
theorem dX12_icingOf_8 : decode cX12_icingOf 8 = .ok (.iaload, 1) := by decide +kernel
theorem dX12_icingOf_9 : decode cX12_icingOf 9 = .ok (.istore_n 2, 1) := by decide +kernel
theorem dX12_icingOf_10 : decode cX12_icingOf 10 = .ok (.aload_n 0, 1) := by decide +kernel
theorem dX12_icingOf_11 : decode cX12_icingOf 11 = .ok (.getfield 94, 3) := by decide +kernel
theorem dX12_icingOf_14 : decode cX12_icingOf 14 = .ok (.bipush 7, 2) := by decide +kernel
theorem dX12_icingOf_16 : decode cX12_icingOf 16 = .ok (.iload_n 1, 1) := by decide +kernel
theorem dX12_icingOf_17 : decode cX12_icingOf 17 = .ok (.imul, 1) := by decide +kernel
theorem dX12_icingOf_18 : decode cX12_icingOf 18 = .ok (.iconst 1, 1) := by decide +kernel
theorem dX12_icingOf_19 : decode cX12_icingOf 19 = .ok (.iadd, 1) := by decide +kernel
theorem dX12_icingOf_20 : decode cX12_icingOf 20 = .ok (.iaload, 1) := by decide +kernel
theorem dX12_icingOf_21 : decode cX12_icingOf 21 = .ok (.istore_n 3, 1) := by decide +kernel
theorem dX12_icingOf_22 : decode cX12_icingOf 22 = .ok (.aload_n 0, 1) := by decide +kernel
theorem dX12_icingOf_23 : decode cX12_icingOf 23 = .ok (.getfield 94, 3) := by decide +kernel
theorem dX12_icingOf_26 : decode cX12_icingOf 26 = .ok (.bipush 7, 2) := by decide +kernel
theorem dX12_icingOf_28 : decode cX12_icingOf 28 = .ok (.iload_n 1, 1) := by decide +kernel
theorem dX12_icingOf_29 : decode cX12_icingOf 29 = .ok (.imul, 1) := by decide +kernel
theorem dX12_icingOf_30 : decode cX12_icingOf 30 = .ok (.iconst 2, 1) := by decide +kernel
theorem dX12_icingOf_31 : decode cX12_icingOf 31 = .ok (.iadd, 1) := by decide +kernel
theorem dX12_icingOf_32 : decode cX12_icingOf 32 = .ok (.iaload, 1) := by decide +kernel
theorem dX12_icingOf_33 : decode cX12_icingOf 33 = .ok (.istore 4, 2) := by decide +kernel
theorem dX12_icingOf_35 : decode cX12_icingOf 35 = .ok (.aload_n 0, 1) := by decide +kernel
theorem dX12_icingOf_36 : decode cX12_icingOf 36 = .ok (.getfield 94, 3) := by decide +kernel
theorem dX12_icingOf_39 : decode cX12_icingOf 39 = .ok (.bipush 7, 2) := by decide +kernel
theorem dX12_icingOf_41 : decode cX12_icingOf 41 = .ok (.iload_n 1, 1) := by decide +kernel
theorem dX12_icingOf_42 : decode cX12_icingOf 42 = .ok (.imul, 1) := by decide +kernel
theorem dX12_icingOf_43 : decode cX12_icingOf 43 = .ok (.iconst 3, 1) := by decide +kernel
theorem dX12_icingOf_44 : decode cX12_icingOf 44 = .ok (.iadd, 1) := by decide +kernel
theorem dX12_icingOf_45 : decode cX12_icingOf 45 = .ok (.iaload, 1) := by decide +kernel
theorem dX12_icingOf_46 : decode cX12_icingOf 46 = .ok (.istore 5, 2) := by decide +kernel
theorem dX12_icingOf_48 : decode cX12_icingOf 48 = .ok (.aload_n 0, 1) := by decide +kernel
theorem dX12_icingOf_49 : decode cX12_icingOf 49 = .ok (.getfield 94, 3) := by decide +kernel
theorem dX12_icingOf_52 : decode cX12_icingOf 52 = .ok (.bipush 7, 2) := by decide +kernel
theorem dX12_icingOf_54 : decode cX12_icingOf 54 = .ok (.iload_n 1, 1) := by decide +kernel
theorem dX12_icingOf_55 : decode cX12_icingOf 55 = .ok (.imul, 1) := by decide +kernel
theorem dX12_icingOf_56 : decode cX12_icingOf 56 = .ok (.iconst 4, 1) := by decide +kernel
theorem dX12_icingOf_57 : decode cX12_icingOf 57 = .ok (.iadd, 1) := by decide +kernel
theorem dX12_icingOf_58 : decode cX12_icingOf 58 = .ok (.iaload, 1) := by decide +kernel
theorem dX12_icingOf_59 : decode cX12_icingOf 59 = .ok (.istore 6, 2) := by decide +kernel
theorem dX12_icingOf_61 : decode cX12_icingOf 61 = .ok (.iload 5, 2) := by decide +kernel
theorem dX12_icingOf_63 : decode cX12_icingOf 63 = .ok (.iload 4, 2) := by decide +kernel
theorem dX12_icingOf_65 : decode cX12_icingOf 65 = .ok (.ifCond .ne 7, 3) := by decide +kernel
theorem dX12_icingOf_68 : decode cX12_icingOf 68 = .ok (.iconst 1, 1) := by decide +kernel
theorem dX12_icingOf_69 : decode cX12_icingOf 69 = .ok (.goto 4, 3) := by decide +kernel
theorem dX12_icingOf_72 : decode cX12_icingOf 72 = .ok (.iconst 0, 1) := by decide +kernel
theorem dX12_icingOf_73 : decode cX12_icingOf 73 = .ok (.invokestatic 302, 3) := by decide +kernel
theorem dX12_icingOf_76 : decode cX12_icingOf 76 = .ok (.iload 4, 2) := by decide +kernel
theorem dX12_icingOf_78 : decode cX12_icingOf 78 = .ok (.iload 6, 2) := by decide +kernel
theorem dX12_icingOf_80 : decode cX12_icingOf 80 = .ok (.iadd, 1) := by decide +kernel
theorem dX12_icingOf_81 : decode cX12_icingOf 81 = .ok (.aload_n 0, 1) := by decide +kernel
theorem dX12_icingOf_82 : decode cX12_icingOf 82 = .ok (.getfield 64, 3) := by decide +kernel
theorem dX12_icingOf_85 : decode cX12_icingOf 85 = .ok (.iload_n 2, 1) := by decide +kernel
theorem dX12_icingOf_86 : decode cX12_icingOf 86 = .ok (.iaload, 1) := by decide +kernel
theorem dX12_icingOf_87 : decode cX12_icingOf 87 = .ok (.if_icmp .ne 7, 3) := by decide +kernel
theorem dX12_icingOf_90 : decode cX12_icingOf 90 = .ok (.iconst 1, 1) := by decide +kernel
theorem dX12_icingOf_91 : decode cX12_icingOf 91 = .ok (.goto 4, 3) := by decide +kernel
theorem dX12_icingOf_94 : decode cX12_icingOf 94 = .ok (.iconst 0, 1) := by decide +kernel
theorem dX12_icingOf_95 : decode cX12_icingOf 95 = .ok (.invokestatic 302, 3) := by decide +kernel
theorem dX12_icingOf_98 : decode cX12_icingOf 98 = .ok (.iadd, 1) := by decide +kernel
theorem dX12_icingOf_99 : decode cX12_icingOf 99 = .ok (.imul, 1) := by decide +kernel
theorem dX12_icingOf_100 : decode cX12_icingOf 100 = .ok (.iload 6, 2) := by decide +kernel
theorem dX12_icingOf_102 : decode cX12_icingOf 102 = .ok (.iload_n 3, 1) := by decide +kernel
theorem dX12_icingOf_103 : decode cX12_icingOf 103 = .ok (.ifCond .ne 7, 3) := by decide +kernel
theorem dX12_icingOf_106 : decode cX12_icingOf 106 = .ok (.iconst 1, 1) := by decide +kernel
theorem dX12_icingOf_107 : decode cX12_icingOf 107 = .ok (.goto 4, 3) := by decide +kernel
theorem dX12_icingOf_110 : decode cX12_icingOf 110 = .ok (.iconst 0, 1) := by decide +kernel
theorem dX12_icingOf_111 : decode cX12_icingOf 111 = .ok (.invokestatic 302, 3) := by decide +kernel
theorem dX12_icingOf_114 : decode cX12_icingOf 114 = .ok (.iload_n 3, 1) := by decide +kernel
theorem dX12_icingOf_115 : decode cX12_icingOf 115 = .ok (.iload 5, 2) := by decide +kernel
theorem dX12_icingOf_117 : decode cX12_icingOf 117 = .ok (.iadd, 1) := by decide +kernel
theorem dX12_icingOf_118 : decode cX12_icingOf 118 = .ok (.aload_n 0, 1) := by decide +kernel
theorem dX12_icingOf_119 : decode cX12_icingOf 119 = .ok (.getfield 61, 3) := by decide +kernel
theorem dX12_icingOf_122 : decode cX12_icingOf 122 = .ok (.iload_n 2, 1) := by decide +kernel
theorem dX12_icingOf_123 : decode cX12_icingOf 123 = .ok (.iaload, 1) := by decide +kernel
theorem dX12_icingOf_124 : decode cX12_icingOf 124 = .ok (.if_icmp .ne 7, 3) := by decide +kernel
theorem dX12_icingOf_127 : decode cX12_icingOf 127 = .ok (.iconst 1, 1) := by decide +kernel
theorem dX12_icingOf_128 : decode cX12_icingOf 128 = .ok (.goto 4, 3) := by decide +kernel
theorem dX12_icingOf_131 : decode cX12_icingOf 131 = .ok (.iconst 0, 1) := by decide +kernel
theorem dX12_icingOf_132 : decode cX12_icingOf 132 = .ok (.invokestatic 302, 3) := by decide +kernel
theorem dX12_icingOf_135 : decode cX12_icingOf 135 = .ok (.iadd, 1) := by decide +kernel
theorem dX12_icingOf_136 : decode cX12_icingOf 136 = .ok (.imul, 1) := by decide +kernel
theorem dX12_icingOf_137 : decode cX12_icingOf 137 = .ok (.iadd, 1) := by decide +kernel
theorem dX12_icingOf_138 : decode cX12_icingOf 138 = .ok (.ireturn, 1) := by decide +kernel
set_option maxRecDepth 20000 in
theorem ggX12_askOf_X12_areaOf : GoodIn wsX12_askOf wsX12_areaOf := goodIn_r _ [7, 2, 8, 18, 19, 20, 21, 22, 23, 24, 25, 26, 27, 28, 29, 30, 31, 32, 33, 34, 35, 36, 37, 38, 39, 40, 41, 42, 43, 44, 45, 46, 47, 48, 49, 50, 51, 52, 53, 54, 55, 56, 57, 58, 59, 60, 61, 62, 63, 64, 65, 66, 67, 68, 69, 70, 71, 72, 73, 74, 75, 76, 77, 78, 79, 80, 81, 82, 83, 84, 85, 86, 87, 88, 89, 90, 91, 92] (by decide +kernel) (by decide +kernel)
set_option maxRecDepth 20000 in
theorem gX12_askOf_X12_areaOf : GoodIn wsX12_askOf (wsV RX12 375 RX12 yX12_areaOf wsX12_areaOf) := goodIn_app (goodIn_of _ (by decide +kernel)) ggX12_askOf_X12_areaOf
set_option maxRecDepth 20000 in
theorem ggX12_askOf_X12_icingOf : GoodIn wsX12_askOf wsX12_icingOf := goodIn_r _ [12, 2, 13, 14, 15, 16, 6, 17, 18, 19, 20, 21, 22, 23, 24, 25, 26, 27, 28, 29, 30, 31, 32, 33, 34, 35, 36, 37, 38, 39, 40, 41, 42, 43, 44, 45, 46, 47, 48, 49, 50, 51, 52, 53, 54, 55, 56, 57, 58, 59, 60, 61, 62, 63, 64, 65, 66, 67, 68, 69, 70, 71, 72, 73, 74, 75, 76, 77, 78, 79, 80, 81, 82, 83, 84, 85, 86, 87, 88, 89, 90, 91, 92] (by decide +kernel) (by decide +kernel)
set_option maxRecDepth 20000 in
theorem gX12_askOf_X12_icingOf : GoodIn wsX12_askOf (wsV RX12 378 RX12 yX12_icingOf wsX12_icingOf) := goodIn_app (goodIn_of _ (by decide +kernel)) ggX12_askOf_X12_icingOf
theorem dX12_askOf_0 : decode cX12_askOf 0 = .ok (.aload_n 0, 1) := by decide +kernel
theorem dX12_askOf_1 : decode cX12_askOf 1 = .ok (.getfield 49, 3) := by decide +kernel
theorem dX12_askOf_4 : decode cX12_askOf 4 = .ok (.iconst 0, 1) := by decide +kernel
theorem dX12_askOf_5 : decode cX12_askOf 5 = .ok (.aload_n 0, 1) := by decide +kernel
theorem dX12_askOf_6 : decode cX12_askOf 6 = .ok (.iload_n 1, 1) := by decide +kernel
theorem dX12_askOf_7 : decode cX12_askOf 7 = .ok (.invokevirtual 375, 3) := by decide +kernel
theorem dX12_askOf_10 : decode cX12_askOf 10 = .ok (.iastore, 1) := by decide +kernel
theorem dX12_askOf_11 : decode cX12_askOf 11 = .ok (.aload_n 0, 1) := by decide +kernel
theorem dX12_askOf_12 : decode cX12_askOf 12 = .ok (.getfield 49, 3) := by decide +kernel
theorem dX12_askOf_15 : decode cX12_askOf 15 = .ok (.iconst 1, 1) := by decide +kernel
theorem dX12_askOf_16 : decode cX12_askOf 16 = .ok (.aload_n 0, 1) := by decide +kernel
theorem dX12_askOf_17 : decode cX12_askOf 17 = .ok (.iload_n 1, 1) := by decide +kernel
theorem dX12_askOf_18 : decode cX12_askOf 18 = .ok (.invokevirtual 378, 3) := by decide +kernel
theorem dX12_askOf_21 : decode cX12_askOf 21 = .ok (.iastore, 1) := by decide +kernel
theorem dX12_askOf_22 : decode cX12_askOf 22 = .ok (.aload_n 0, 1) := by decide +kernel
theorem dX12_askOf_23 : decode cX12_askOf 23 = .ok (.getfield 49, 3) := by decide +kernel
theorem dX12_askOf_26 : decode cX12_askOf 26 = .ok (.iconst 2, 1) := by decide +kernel
theorem dX12_askOf_27 : decode cX12_askOf 27 = .ok (.iload_n 2, 1) := by decide +kernel
theorem dX12_askOf_28 : decode cX12_askOf 28 = .ok (.iastore, 1) := by decide +kernel
theorem dX12_askOf_29 : decode cX12_askOf 29 = .ok (.aload_n 0, 1) := by decide +kernel
theorem dX12_askOf_30 : decode cX12_askOf 30 = .ok (.getfield 49, 3) := by decide +kernel
theorem dX12_askOf_33 : decode cX12_askOf 33 = .ok (.iconst 3, 1) := by decide +kernel
theorem dX12_askOf_34 : decode cX12_askOf 34 = .ok (.aload_n 0, 1) := by decide +kernel
theorem dX12_askOf_35 : decode cX12_askOf 35 = .ok (.getfield 94, 3) := by decide +kernel
theorem dX12_askOf_38 : decode cX12_askOf 38 = .ok (.bipush 7, 2) := by decide +kernel
theorem dX12_askOf_40 : decode cX12_askOf 40 = .ok (.iload_n 1, 1) := by decide +kernel
theorem dX12_askOf_41 : decode cX12_askOf 41 = .ok (.imul, 1) := by decide +kernel
theorem dX12_askOf_42 : decode cX12_askOf 42 = .ok (.iconst 5, 1) := by decide +kernel
theorem dX12_askOf_43 : decode cX12_askOf 43 = .ok (.iadd, 1) := by decide +kernel
theorem dX12_askOf_44 : decode cX12_askOf 44 = .ok (.iaload, 1) := by decide +kernel
theorem dX12_askOf_45 : decode cX12_askOf 45 = .ok (.iastore, 1) := by decide +kernel
theorem dX12_askOf_46 : decode cX12_askOf 46 = .ok (.aload_n 0, 1) := by decide +kernel
theorem dX12_askOf_47 : decode cX12_askOf 47 = .ok (.getfield 49, 3) := by decide +kernel
theorem dX12_askOf_50 : decode cX12_askOf 50 = .ok (.iconst 4, 1) := by decide +kernel
theorem dX12_askOf_51 : decode cX12_askOf 51 = .ok (.iload_n 3, 1) := by decide +kernel
theorem dX12_askOf_52 : decode cX12_askOf 52 = .ok (.iastore, 1) := by decide +kernel
theorem dX12_askOf_53 : decode cX12_askOf 53 = .ok (.aload_n 0, 1) := by decide +kernel
theorem dX12_askOf_54 : decode cX12_askOf 54 = .ok (.getfield 49, 3) := by decide +kernel
theorem dX12_askOf_57 : decode cX12_askOf 57 = .ok (.iconst 5, 1) := by decide +kernel
theorem dX12_askOf_58 : decode cX12_askOf 58 = .ok (.aload_n 0, 1) := by decide +kernel
theorem dX12_askOf_59 : decode cX12_askOf 59 = .ok (.getfield 94, 3) := by decide +kernel
theorem dX12_askOf_62 : decode cX12_askOf 62 = .ok (.sipush 169, 3) := by decide +kernel
theorem dX12_askOf_65 : decode cX12_askOf 65 = .ok (.iaload, 1) := by decide +kernel
theorem dX12_askOf_66 : decode cX12_askOf 66 = .ok (.iastore, 1) := by decide +kernel
theorem dX12_askOf_67 : decode cX12_askOf 67 = .ok (.return_, 1) := by decide +kernel
set_option maxRecDepth 20000 in
theorem ggX12_worthOf_X12_askOf : GoodIn wsX12_worthOf wsX12_askOf := goodIn_r _ [7, 2, 8, 9, 10, 11, 6, 12, 13, 14, 15, 16, 17, 18, 19, 20, 21, 22, 34, 35, 36, 37, 38, 39, 40, 41, 42, 43, 44, 45, 46, 47, 48, 49, 50, 51, 52, 53, 54, 55, 56, 57, 58, 59, 60, 61, 62, 63, 64, 65, 66, 67, 68, 69, 70, 71, 72, 73, 74, 75, 76, 77, 78, 79, 80, 81, 82, 83, 84, 85, 86, 87, 88, 89, 90, 91, 92, 93, 94, 95, 96, 97, 98, 99, 100, 101, 102, 103, 104, 105, 106, 107, 108] (by decide +kernel) (by decide +kernel)
set_option maxRecDepth 20000 in
theorem gX12_worthOf_X12_askOf : GoodIn wsX12_worthOf (wsV RX12 381 RX12 yX12_askOf wsX12_askOf) := goodIn_app (goodIn_of _ (by decide +kernel)) ggX12_worthOf_X12_askOf
set_option maxRecDepth 20000 in
theorem ggX12_worthOf_X12_worked : GoodIn wsX12_worthOf wsX12_worked := goodIn_r _ [26, 27, 28, 29, 30, 2, 20, 21, 6, 22, 31, 32, 33, 34, 35, 36, 37, 38, 39, 40, 41, 42, 43, 44, 45, 46, 47, 48, 49, 50, 51, 52, 53, 54, 55, 56, 57, 58, 59, 60, 61, 62, 63, 64, 65, 66, 67, 68, 69, 70, 71, 72, 73, 74, 75, 76, 77, 78, 79, 80, 81, 82, 83, 84, 85, 86, 87, 88, 89, 90, 91, 92, 93, 94, 95, 96, 97, 98, 99, 100, 101, 102, 103, 104, 105, 106, 107, 108] (by decide +kernel) (by decide +kernel)
set_option maxRecDepth 20000 in
theorem gX12_worthOf_X12_worked : GoodIn wsX12_worthOf (wsV RX12 385 RX12 yX12_worked wsX12_worked) := goodIn_app (goodIn_of _ (by decide +kernel)) ggX12_worthOf_X12_worked
theorem dX12_worthOf_0 : decode cX12_worthOf 0 = .ok (.aload_n 0, 1) := by decide +kernel
theorem dX12_worthOf_1 : decode cX12_worthOf 1 = .ok (.iload_n 2, 1) := by decide +kernel
theorem dX12_worthOf_2 : decode cX12_worthOf 2 = .ok (.aload_n 0, 1) := by decide +kernel
theorem dX12_worthOf_3 : decode cX12_worthOf 3 = .ok (.getfield 82, 3) := by decide +kernel
theorem dX12_worthOf_6 : decode cX12_worthOf 6 = .ok (.iload_n 1, 1) := by decide +kernel
theorem dX12_worthOf_7 : decode cX12_worthOf 7 = .ok (.iaload, 1) := by decide +kernel
theorem dX12_worthOf_8 : decode cX12_worthOf 8 = .ok (.iconst 0, 1) := by decide +kernel
theorem dX12_worthOf_9 : decode cX12_worthOf 9 = .ok (.invokevirtual 381, 3) := by decide +kernel
theorem dX12_worthOf_12 : decode cX12_worthOf 12 = .ok (.aload_n 0, 1) := by decide +kernel
theorem dX12_worthOf_13 : decode cX12_worthOf 13 = .ok (.iconst 0, 1) := by decide +kernel
theorem dX12_worthOf_14 : decode cX12_worthOf 14 = .ok (.aload_n 0, 1) := by decide +kernel
theorem dX12_worthOf_15 : decode cX12_worthOf 15 = .ok (.getfield 49, 3) := by decide +kernel
theorem dX12_worthOf_18 : decode cX12_worthOf 18 = .ok (.iconst 0, 1) := by decide +kernel
theorem dX12_worthOf_19 : decode cX12_worthOf 19 = .ok (.iaload, 1) := by decide +kernel
theorem dX12_worthOf_20 : decode cX12_worthOf 20 = .ok (.invokevirtual 385, 3) := by decide +kernel
theorem dX12_worthOf_23 : decode cX12_worthOf 23 = .ok (.ireturn, 1) := by decide +kernel
theorem dX12_isFree_0 : decode cX12_isFree 0 = .ok (.aload_n 0, 1) := by decide +kernel
theorem dX12_isFree_1 : decode cX12_isFree 1 = .ok (.getfield 94, 3) := by decide +kernel
theorem dX12_isFree_4 : decode cX12_isFree 4 = .ok (.bipush 7, 2) := by decide +kernel
theorem dX12_isFree_6 : decode cX12_isFree 6 = .ok (.iload_n 1, 1) := by decide +kernel
theorem dX12_isFree_7 : decode cX12_isFree 7 = .ok (.imul, 1) := by decide +kernel
theorem dX12_isFree_8 : decode cX12_isFree 8 = .ok (.bipush 6, 2) := by decide +kernel
theorem dX12_isFree_10 : decode cX12_isFree 10 = .ok (.iadd, 1) := by decide +kernel
theorem dX12_isFree_11 : decode cX12_isFree 11 = .ok (.iaload, 1) := by decide +kernel
theorem dX12_isFree_12 : decode cX12_isFree 12 = .ok (.iconst (-1), 1) := by decide +kernel
theorem dX12_isFree_13 : decode cX12_isFree 13 = .ok (.if_icmp .ne 7, 3) := by decide +kernel
theorem dX12_isFree_16 : decode cX12_isFree 16 = .ok (.iconst 1, 1) := by decide +kernel
theorem dX12_isFree_17 : decode cX12_isFree 17 = .ok (.goto 4, 3) := by decide +kernel
theorem dX12_isFree_20 : decode cX12_isFree 20 = .ok (.iconst 0, 1) := by decide +kernel
theorem dX12_isFree_21 : decode cX12_isFree 21 = .ok (.ireturn, 1) := by decide +kernel
theorem dX12_pieceOf_0 : decode cX12_pieceOf 0 = .ok (.iconst (-1), 1) := by decide +kernel
theorem dX12_pieceOf_1 : decode cX12_pieceOf 1 = .ok (.istore_n 2, 1) := by decide +kernel
theorem dX12_pieceOf_2 : decode cX12_pieceOf 2 = .ok (.iconst 0, 1) := by decide +kernel
theorem dX12_pieceOf_3 : decode cX12_pieceOf 3 = .ok (.istore_n 3, 1) := by decide +kernel
theorem dX12_pieceOf_4 : decode cX12_pieceOf 4 = .ok (.iload_n 3, 1) := by decide +kernel
theorem dX12_pieceOf_5 : decode cX12_pieceOf 5 = .ok (.aload_n 0, 1) := by decide +kernel
theorem dX12_pieceOf_6 : decode cX12_pieceOf 6 = .ok (.getfield 94, 3) := by decide +kernel
theorem dX12_pieceOf_9 : decode cX12_pieceOf 9 = .ok (.sipush 168, 3) := by decide +kernel
theorem dX12_pieceOf_12 : decode cX12_pieceOf 12 = .ok (.iaload, 1) := by decide +kernel
theorem dX12_pieceOf_13 : decode cX12_pieceOf 13 = .ok (.if_icmp .ge 27, 3) := by decide +kernel
theorem dX12_pieceOf_16 : decode cX12_pieceOf 16 = .ok (.aload_n 0, 1) := by decide +kernel
theorem dX12_pieceOf_17 : decode cX12_pieceOf 17 = .ok (.getfield 94, 3) := by decide +kernel
theorem dX12_pieceOf_20 : decode cX12_pieceOf 20 = .ok (.bipush 7, 2) := by decide +kernel
theorem dX12_pieceOf_22 : decode cX12_pieceOf 22 = .ok (.iload_n 3, 1) := by decide +kernel
theorem dX12_pieceOf_23 : decode cX12_pieceOf 23 = .ok (.imul, 1) := by decide +kernel
theorem dX12_pieceOf_24 : decode cX12_pieceOf 24 = .ok (.bipush 6, 2) := by decide +kernel
theorem dX12_pieceOf_26 : decode cX12_pieceOf 26 = .ok (.iadd, 1) := by decide +kernel
theorem dX12_pieceOf_27 : decode cX12_pieceOf 27 = .ok (.iaload, 1) := by decide +kernel
theorem dX12_pieceOf_28 : decode cX12_pieceOf 28 = .ok (.iload_n 1, 1) := by decide +kernel
theorem dX12_pieceOf_29 : decode cX12_pieceOf 29 = .ok (.if_icmp .ne 5, 3) := by decide +kernel
theorem dX12_pieceOf_32 : decode cX12_pieceOf 32 = .ok (.iload_n 3, 1) := by decide +kernel
theorem dX12_pieceOf_33 : decode cX12_pieceOf 33 = .ok (.istore_n 2, 1) := by decide +kernel
theorem dX12_pieceOf_34 : decode cX12_pieceOf 34 = .ok (.iinc 3 1, 3) := by decide +kernel
theorem dX12_pieceOf_37 : decode cX12_pieceOf 37 = .ok (.goto (-33), 3) := by decide +kernel
theorem dX12_pieceOf_40 : decode cX12_pieceOf 40 = .ok (.iload_n 2, 1) := by decide +kernel
theorem dX12_pieceOf_41 : decode cX12_pieceOf 41 = .ok (.ireturn, 1) := by decide +kernel
set_option maxRecDepth 20000 in
theorem ggX12_canCut_X12_isIn : GoodIn wsX12_canCut wsX12_isIn := goodIn_r _ [5] (by decide +kernel) (by decide +kernel)
set_option maxRecDepth 20000 in
theorem gX12_canCut_X12_isIn : GoodIn wsX12_canCut (va_wsS RX12 371 yX12_isIn wsX12_isIn) := goodIn_app (goodIn_of _ (by decide +kernel)) ggX12_canCut_X12_isIn
set_option maxRecDepth 20000 in
theorem ggX12_canCut_X12_isFree : GoodIn wsX12_canCut wsX12_isFree := goodIn_r _ [9, 1, 10, 11, 12, 13, 14, 15, 16, 17, 18, 19, 20, 21, 22, 23, 24, 25, 26, 27, 28, 29, 30, 31, 32, 33, 34, 35, 36, 37, 38, 39, 40, 41, 42, 43, 44, 45, 46, 47, 48, 49, 50, 51, 52, 53, 54, 55, 56, 57, 58, 59, 60, 61, 62, 63, 64, 65, 66, 67, 68, 69, 70, 71, 72, 73, 74, 75, 76, 77, 78, 79, 80, 81, 82, 83, 84] (by decide +kernel) (by decide +kernel)
set_option maxRecDepth 20000 in
theorem gX12_canCut_X12_isFree : GoodIn wsX12_canCut (wsV RX12 388 RX12 yX12_isFree wsX12_isFree) := goodIn_app (goodIn_of _ (by decide +kernel)) ggX12_canCut_X12_isFree
theorem dX12_canCut_0 : decode cX12_canCut 0 = .ok (.iload_n 1, 1) := by decide +kernel
theorem dX12_canCut_1 : decode cX12_canCut 1 = .ok (.ifCond .lt 78, 3) := by decide +kernel
theorem dX12_canCut_4 : decode cX12_canCut 4 = .ok (.iload_n 1, 1) := by decide +kernel
theorem dX12_canCut_5 : decode cX12_canCut 5 = .ok (.aload_n 0, 1) := by decide +kernel
theorem dX12_canCut_6 : decode cX12_canCut 6 = .ok (.getfield 94, 3) := by decide +kernel
theorem dX12_canCut_9 : decode cX12_canCut 9 = .ok (.sipush 168, 3) := by decide +kernel
theorem dX12_canCut_12 : decode cX12_canCut 12 = .ok (.iaload, 1) := by decide +kernel
theorem dX12_canCut_13 : decode cX12_canCut 13 = .ok (.if_icmp .ge 66, 3) := by decide +kernel
theorem dX12_canCut_16 : decode cX12_canCut 16 = .ok (.aload_n 0, 1) := by decide +kernel
theorem dX12_canCut_17 : decode cX12_canCut 17 = .ok (.getfield 94, 3) := by decide +kernel
theorem dX12_canCut_20 : decode cX12_canCut 20 = .ok (.sipush 168, 3) := by decide +kernel
theorem dX12_canCut_23 : decode cX12_canCut 23 = .ok (.iaload, 1) := by decide +kernel
theorem dX12_canCut_24 : decode cX12_canCut 24 = .ok (.bipush 24, 2) := by decide +kernel
theorem dX12_canCut_26 : decode cX12_canCut 26 = .ok (.if_icmp .ge 53, 3) := by decide +kernel
theorem dX12_canCut_29 : decode cX12_canCut 29 = .ok (.iload_n 2, 1) := by decide +kernel
theorem dX12_canCut_30 : decode cX12_canCut 30 = .ok (.iconst 0, 1) := by decide +kernel
theorem dX12_canCut_31 : decode cX12_canCut 31 = .ok (.iconst 1, 1) := by decide +kernel
theorem dX12_canCut_32 : decode cX12_canCut 32 = .ok (.invokestatic 371, 3) := by decide +kernel
theorem dX12_canCut_35 : decode cX12_canCut 35 = .ok (.ifCond .eq 44, 3) := by decide +kernel
theorem dX12_canCut_38 : decode cX12_canCut 38 = .ok (.aload_n 0, 1) := by decide +kernel
theorem dX12_canCut_39 : decode cX12_canCut 39 = .ok (.iload_n 1, 1) := by decide +kernel
theorem dX12_canCut_40 : decode cX12_canCut 40 = .ok (.invokevirtual 388, 3) := by decide +kernel
theorem dX12_canCut_43 : decode cX12_canCut 43 = .ok (.ifCond .eq 36, 3) := by decide +kernel
theorem dX12_canCut_46 : decode cX12_canCut 46 = .ok (.iload_n 3, 1) := by decide +kernel
theorem dX12_canCut_47 : decode cX12_canCut 47 = .ok (.iconst 1, 1) := by decide +kernel
theorem dX12_canCut_48 : decode cX12_canCut 48 = .ok (.aload_n 0, 1) := by decide +kernel
theorem dX12_canCut_49 : decode cX12_canCut 49 = .ok (.getfield 94, 3) := by decide +kernel
theorem dX12_canCut_52 : decode cX12_canCut 52 = .ok (.bipush 7, 2) := by decide +kernel
theorem dX12_canCut_54 : decode cX12_canCut 54 = .ok (.iload_n 1, 1) := by decide +kernel
theorem dX12_canCut_55 : decode cX12_canCut 55 = .ok (.imul, 1) := by decide +kernel
theorem dX12_canCut_56 : decode cX12_canCut 56 = .ok (.iload_n 2, 1) := by decide +kernel
theorem dX12_canCut_57 : decode cX12_canCut 57 = .ok (.ifCond .ne 7, 3) := by decide +kernel
theorem dX12_canCut_60 : decode cX12_canCut 60 = .ok (.iconst 3, 1) := by decide +kernel
theorem dX12_canCut_61 : decode cX12_canCut 61 = .ok (.goto 4, 3) := by decide +kernel
theorem dX12_canCut_64 : decode cX12_canCut 64 = .ok (.iconst 4, 1) := by decide +kernel
theorem dX12_canCut_65 : decode cX12_canCut 65 = .ok (.iadd, 1) := by decide +kernel
theorem dX12_canCut_66 : decode cX12_canCut 66 = .ok (.iaload, 1) := by decide +kernel
theorem dX12_canCut_67 : decode cX12_canCut 67 = .ok (.iconst 1, 1) := by decide +kernel
theorem dX12_canCut_68 : decode cX12_canCut 68 = .ok (.isub, 1) := by decide +kernel
theorem dX12_canCut_69 : decode cX12_canCut 69 = .ok (.invokestatic 371, 3) := by decide +kernel
theorem dX12_canCut_72 : decode cX12_canCut 72 = .ok (.ifCond .eq 7, 3) := by decide +kernel
theorem dX12_canCut_75 : decode cX12_canCut 75 = .ok (.iconst 1, 1) := by decide +kernel
theorem dX12_canCut_76 : decode cX12_canCut 76 = .ok (.goto 4, 3) := by decide +kernel
theorem dX12_canCut_79 : decode cX12_canCut 79 = .ok (.iconst 0, 1) := by decide +kernel
theorem dX12_canCut_80 : decode cX12_canCut 80 = .ok (.ireturn, 1) := by decide +kernel
theorem dX12_goCut_0 : decode cX12_goCut 0 = .ok (.aload_n 0, 1) := by decide +kernel
theorem dX12_goCut_1 : decode cX12_goCut 1 = .ok (.getfield 94, 3) := by decide +kernel
theorem dX12_goCut_4 : decode cX12_goCut 4 = .ok (.sipush 168, 3) := by decide +kernel
theorem dX12_goCut_7 : decode cX12_goCut 7 = .ok (.iaload, 1) := by decide +kernel
theorem dX12_goCut_8 : decode cX12_goCut 8 = .ok (.istore 4, 2) := by decide +kernel
theorem dX12_goCut_10 : decode cX12_goCut 10 = .ok (.iconst 0, 1) := by decide +kernel
theorem dX12_goCut_11 : decode cX12_goCut 11 = .ok (.istore 5, 2) := by decide +kernel
theorem dX12_goCut_13 : decode cX12_goCut 13 = .ok (.iload 5, 2) := by decide +kernel
theorem dX12_goCut_15 : decode cX12_goCut 15 = .ok (.bipush 7, 2) := by decide +kernel
theorem dX12_goCut_17 : decode cX12_goCut 17 = .ok (.if_icmp .ge 34, 3) := by decide +kernel
theorem dX12_goCut_20 : decode cX12_goCut 20 = .ok (.aload_n 0, 1) := by decide +kernel
theorem dX12_goCut_21 : decode cX12_goCut 21 = .ok (.getfield 94, 3) := by decide +kernel
theorem dX12_goCut_24 : decode cX12_goCut 24 = .ok (.bipush 7, 2) := by decide +kernel
theorem dX12_goCut_26 : decode cX12_goCut 26 = .ok (.iload 4, 2) := by decide +kernel
theorem dX12_goCut_28 : decode cX12_goCut 28 = .ok (.imul, 1) := by decide +kernel
theorem dX12_goCut_29 : decode cX12_goCut 29 = .ok (.iload 5, 2) := by decide +kernel
theorem dX12_goCut_31 : decode cX12_goCut 31 = .ok (.iadd, 1) := by decide +kernel
theorem dX12_goCut_32 : decode cX12_goCut 32 = .ok (.aload_n 0, 1) := by decide +kernel
theorem dX12_goCut_33 : decode cX12_goCut 33 = .ok (.getfield 94, 3) := by decide +kernel
theorem dX12_goCut_36 : decode cX12_goCut 36 = .ok (.bipush 7, 2) := by decide +kernel
theorem dX12_goCut_38 : decode cX12_goCut 38 = .ok (.iload_n 1, 1) := by decide +kernel
theorem dX12_goCut_39 : decode cX12_goCut 39 = .ok (.imul, 1) := by decide +kernel
theorem dX12_goCut_40 : decode cX12_goCut 40 = .ok (.iload 5, 2) := by decide +kernel
theorem dX12_goCut_42 : decode cX12_goCut 42 = .ok (.iadd, 1) := by decide +kernel
theorem dX12_goCut_43 : decode cX12_goCut 43 = .ok (.iaload, 1) := by decide +kernel
theorem dX12_goCut_44 : decode cX12_goCut 44 = .ok (.iastore, 1) := by decide +kernel
theorem dX12_goCut_45 : decode cX12_goCut 45 = .ok (.iinc 5 1, 3) := by decide +kernel
theorem dX12_goCut_48 : decode cX12_goCut 48 = .ok (.goto (-35), 3) := by decide +kernel
theorem dX12_goCut_51 : decode cX12_goCut 51 = .ok (.iload_n 2, 1) := by decide +kernel
theorem dX12_goCut_52 : decode cX12_goCut 52 = .ok (.ifCond .ne 7, 3) := by decide +kernel
theorem dX12_goCut_55 : decode cX12_goCut 55 = .ok (.iconst 3, 1) := by decide +kernel
theorem dX12_goCut_56 : decode cX12_goCut 56 = .ok (.goto 4, 3) := by decide +kernel
theorem dX12_goCut_59 : decode cX12_goCut 59 = .ok (.iconst 4, 1) := by decide +kernel
theorem dX12_goCut_60 : decode cX12_goCut 60 = .ok (.istore 5, 2) := by decide +kernel
theorem dX12_goCut_62 : decode cX12_goCut 62 = .ok (.iload_n 2, 1) := by decide +kernel
theorem dX12_goCut_63 : decode cX12_goCut 63 = .ok (.ifCond .ne 7, 3) := by decide +kernel
theorem dX12_goCut_66 : decode cX12_goCut 66 = .ok (.iconst 1, 1) := by decide +kernel
theorem dX12_goCut_67 : decode cX12_goCut 67 = .ok (.goto 4, 3) := by decide +kernel
theorem dX12_goCut_70 : decode cX12_goCut 70 = .ok (.iconst 2, 1) := by decide +kernel
theorem dX12_goCut_71 : decode cX12_goCut 71 = .ok (.istore 6, 2) := by decide +kernel
theorem dX12_goCut_73 : decode cX12_goCut 73 = .ok (.aload_n 0, 1) := by decide +kernel
theorem dX12_goCut_74 : decode cX12_goCut 74 = .ok (.getfield 94, 3) := by decide +kernel
theorem dX12_goCut_77 : decode cX12_goCut 77 = .ok (.bipush 7, 2) := by decide +kernel
theorem dX12_goCut_79 : decode cX12_goCut 79 = .ok (.iload 4, 2) := by decide +kernel
theorem dX12_goCut_81 : decode cX12_goCut 81 = .ok (.imul, 1) := by decide +kernel
theorem dX12_goCut_82 : decode cX12_goCut 82 = .ok (.iload 6, 2) := by decide +kernel
theorem dX12_goCut_84 : decode cX12_goCut 84 = .ok (.iadd, 1) := by decide +kernel
theorem dX12_goCut_85 : decode cX12_goCut 85 = .ok (.dup2, 1) := by decide +kernel
theorem dX12_goCut_86 : decode cX12_goCut 86 = .ok (.iaload, 1) := by decide +kernel
theorem dX12_goCut_87 : decode cX12_goCut 87 = .ok (.iload_n 3, 1) := by decide +kernel
theorem dX12_goCut_88 : decode cX12_goCut 88 = .ok (.iadd, 1) := by decide +kernel
theorem dX12_goCut_89 : decode cX12_goCut 89 = .ok (.iastore, 1) := by decide +kernel
theorem dX12_goCut_90 : decode cX12_goCut 90 = .ok (.aload_n 0, 1) := by decide +kernel
theorem dX12_goCut_91 : decode cX12_goCut 91 = .ok (.getfield 94, 3) := by decide +kernel
theorem dX12_goCut_94 : decode cX12_goCut 94 = .ok (.bipush 7, 2) := by decide +kernel
theorem dX12_goCut_96 : decode cX12_goCut 96 = .ok (.iload 4, 2) := by decide +kernel
theorem dX12_goCut_98 : decode cX12_goCut 98 = .ok (.imul, 1) := by decide +kernel
theorem dX12_goCut_99 : decode cX12_goCut 99 = .ok (.iload 5, 2) := by decide +kernel
theorem dX12_goCut_101 : decode cX12_goCut 101 = .ok (.iadd, 1) := by decide +kernel
theorem dX12_goCut_102 : decode cX12_goCut 102 = .ok (.dup2, 1) := by decide +kernel
theorem dX12_goCut_103 : decode cX12_goCut 103 = .ok (.iaload, 1) := by decide +kernel
theorem dX12_goCut_104 : decode cX12_goCut 104 = .ok (.iload_n 3, 1) := by decide +kernel
theorem dX12_goCut_105 : decode cX12_goCut 105 = .ok (.isub, 1) := by decide +kernel
theorem dX12_goCut_106 : decode cX12_goCut 106 = .ok (.iastore, 1) := by decide +kernel
theorem dX12_goCut_107 : decode cX12_goCut 107 = .ok (.aload_n 0, 1) := by decide +kernel
theorem dX12_goCut_108 : decode cX12_goCut 108 = .ok (.getfield 94, 3) := by decide +kernel
theorem dX12_goCut_111 : decode cX12_goCut 111 = .ok (.bipush 7, 2) := by decide +kernel
theorem dX12_goCut_113 : decode cX12_goCut 113 = .ok (.iload_n 1, 1) := by decide +kernel
theorem dX12_goCut_114 : decode cX12_goCut 114 = .ok (.imul, 1) := by decide +kernel
theorem dX12_goCut_115 : decode cX12_goCut 115 = .ok (.iload 5, 2) := by decide +kernel
theorem dX12_goCut_117 : decode cX12_goCut 117 = .ok (.iadd, 1) := by decide +kernel
theorem dX12_goCut_118 : decode cX12_goCut 118 = .ok (.iload_n 3, 1) := by decide +kernel
theorem dX12_goCut_119 : decode cX12_goCut 119 = .ok (.iastore, 1) := by decide +kernel
theorem dX12_goCut_120 : decode cX12_goCut 120 = .ok (.aload_n 0, 1) := by decide +kernel
theorem dX12_goCut_121 : decode cX12_goCut 121 = .ok (.getfield 94, 3) := by decide +kernel
theorem dX12_goCut_124 : decode cX12_goCut 124 = .ok (.sipush 168, 3) := by decide +kernel
theorem dX12_goCut_127 : decode cX12_goCut 127 = .ok (.dup2, 1) := by decide +kernel
theorem dX12_goCut_128 : decode cX12_goCut 128 = .ok (.iaload, 1) := by decide +kernel
theorem dX12_goCut_129 : decode cX12_goCut 129 = .ok (.iconst 1, 1) := by decide +kernel
theorem dX12_goCut_130 : decode cX12_goCut 130 = .ok (.iadd, 1) := by decide +kernel
theorem dX12_goCut_131 : decode cX12_goCut 131 = .ok (.iastore, 1) := by decide +kernel
theorem dX12_goCut_132 : decode cX12_goCut 132 = .ok (.iload 4, 2) := by decide +kernel
theorem dX12_goCut_134 : decode cX12_goCut 134 = .ok (.ireturn, 1) := by decide +kernel
set_option maxRecDepth 20000 in
theorem ggX12_slipOf_X12_askOf : GoodIn wsX12_slipOf wsX12_askOf := goodIn_r _ [6, 7, 1, 8, 9, 10, 5, 11, 12, 13, 14, 15, 16, 17, 18, 19, 20, 21, 33, 34, 35, 36, 37, 38, 39, 40, 41, 42, 43, 44, 45, 46, 47, 48, 49, 50, 51, 52, 53, 54, 55, 56, 57, 58, 59, 60, 61, 62, 63, 64, 65, 66, 67, 68, 69, 70, 71, 72, 73, 74, 75, 76, 77, 78, 79, 80, 81, 82, 83, 84, 85, 86, 87, 88, 89, 90, 91, 92, 93, 94, 95, 96, 97, 98, 99, 100, 101, 102, 103, 104, 105, 106, 107] (by decide +kernel) (by decide +kernel)
set_option maxRecDepth 20000 in
theorem gX12_slipOf_X12_askOf : GoodIn wsX12_slipOf (wsV RX12 381 RX12 yX12_askOf wsX12_askOf) := goodIn_app (goodIn_of _ (by decide +kernel)) ggX12_slipOf_X12_askOf
set_option maxRecDepth 20000 in
theorem ggX12_slipOf_X12_worked : GoodIn wsX12_slipOf wsX12_worked := goodIn_r _ [25, 26, 27, 28, 29, 7, 19, 20, 5, 21, 30, 31, 32, 33, 34, 35, 36, 37, 38, 39, 40, 41, 42, 43, 44, 45, 46, 47, 48, 49, 50, 51, 52, 53, 54, 55, 56, 57, 58, 59, 60, 61, 62, 63, 64, 65, 66, 67, 68, 69, 70, 71, 72, 73, 74, 75, 76, 77, 78, 79, 80, 81, 82, 83, 84, 85, 86, 87, 88, 89, 90, 91, 92, 93, 94, 95, 96, 97, 98, 99, 100, 101, 102, 103, 104, 105, 106, 107] (by decide +kernel) (by decide +kernel)
set_option maxRecDepth 20000 in
theorem gX12_slipOf_X12_worked : GoodIn wsX12_slipOf (wsV RX12 385 RX12 yX12_worked wsX12_worked) := goodIn_app (goodIn_of _ (by decide +kernel)) ggX12_slipOf_X12_worked
theorem dX12_slipOf_0 : decode cX12_slipOf 0 = .ok (.aload_n 0, 1) := by decide +kernel
theorem dX12_slipOf_1 : decode cX12_slipOf 1 = .ok (.iload_n 1, 1) := by decide +kernel
theorem dX12_slipOf_2 : decode cX12_slipOf 2 = .ok (.iconst 0, 1) := by decide +kernel
theorem dX12_slipOf_3 : decode cX12_slipOf 3 = .ok (.aload_n 0, 1) := by decide +kernel
theorem dX12_slipOf_4 : decode cX12_slipOf 4 = .ok (.getfield 94, 3) := by decide +kernel
theorem dX12_slipOf_7 : decode cX12_slipOf 7 = .ok (.bipush 7, 2) := by decide +kernel
theorem dX12_slipOf_9 : decode cX12_slipOf 9 = .ok (.iload_n 1, 1) := by decide +kernel
theorem dX12_slipOf_10 : decode cX12_slipOf 10 = .ok (.imul, 1) := by decide +kernel
theorem dX12_slipOf_11 : decode cX12_slipOf 11 = .ok (.iload_n 2, 1) := by decide +kernel
theorem dX12_slipOf_12 : decode cX12_slipOf 12 = .ok (.ifCond .ne 7, 3) := by decide +kernel
theorem dX12_slipOf_15 : decode cX12_slipOf 15 = .ok (.iconst 4, 1) := by decide +kernel
theorem dX12_slipOf_16 : decode cX12_slipOf 16 = .ok (.goto 4, 3) := by decide +kernel
theorem dX12_slipOf_19 : decode cX12_slipOf 19 = .ok (.iconst 3, 1) := by decide +kernel
theorem dX12_slipOf_20 : decode cX12_slipOf 20 = .ok (.iadd, 1) := by decide +kernel
theorem dX12_slipOf_21 : decode cX12_slipOf 21 = .ok (.iaload, 1) := by decide +kernel
theorem dX12_slipOf_22 : decode cX12_slipOf 22 = .ok (.invokevirtual 381, 3) := by decide +kernel
theorem dX12_slipOf_25 : decode cX12_slipOf 25 = .ok (.aload_n 0, 1) := by decide +kernel
theorem dX12_slipOf_26 : decode cX12_slipOf 26 = .ok (.iconst 1, 1) := by decide +kernel
theorem dX12_slipOf_27 : decode cX12_slipOf 27 = .ok (.iconst 0, 1) := by decide +kernel
theorem dX12_slipOf_28 : decode cX12_slipOf 28 = .ok (.invokevirtual 385, 3) := by decide +kernel
theorem dX12_slipOf_31 : decode cX12_slipOf 31 = .ok (.istore_n 3, 1) := by decide +kernel
theorem dX12_slipOf_32 : decode cX12_slipOf 32 = .ok (.iload_n 3, 1) := by decide +kernel
theorem dX12_slipOf_33 : decode cX12_slipOf 33 = .ok (.ifCond .ge 7, 3) := by decide +kernel
theorem dX12_slipOf_36 : decode cX12_slipOf 36 = .ok (.iconst 0, 1) := by decide +kernel
theorem dX12_slipOf_37 : decode cX12_slipOf 37 = .ok (.goto 15, 3) := by decide +kernel
theorem dX12_slipOf_40 : decode cX12_slipOf 40 = .ok (.iload_n 3, 1) := by decide +kernel
theorem dX12_slipOf_41 : decode cX12_slipOf 41 = .ok (.bipush 100, 2) := by decide +kernel
theorem dX12_slipOf_43 : decode cX12_slipOf 43 = .ok (.if_icmp .le 8, 3) := by decide +kernel
theorem dX12_slipOf_46 : decode cX12_slipOf 46 = .ok (.bipush 100, 2) := by decide +kernel
theorem dX12_slipOf_48 : decode cX12_slipOf 48 = .ok (.goto 4, 3) := by decide +kernel
theorem dX12_slipOf_51 : decode cX12_slipOf 51 = .ok (.iload_n 3, 1) := by decide +kernel
theorem dX12_slipOf_52 : decode cX12_slipOf 52 = .ok (.ireturn, 1) := by decide +kernel
set_option maxRecDepth 20000 in
theorem ggX12_piece_X12_isPiece : GoodIn wsX12_piece wsX12_isPiece := goodIn_r _ [6, 7, 8, 9, 5, 10, 29, 30, 31, 32, 33, 34, 35, 36, 37, 38, 39, 40, 41, 42, 43, 44, 45, 46, 47, 48, 49, 50, 51, 52, 53, 54, 55, 56, 57, 58, 59, 60, 61, 62, 63, 64, 65, 66, 67, 68, 69, 70, 71, 72, 73, 74, 75, 76, 77, 78, 79, 80, 81, 82, 83, 84, 85, 86, 87, 88, 89, 90, 91, 92, 93, 94, 95, 96, 97, 98, 99, 100, 101, 102, 103] (by decide +kernel) (by decide +kernel)
set_option maxRecDepth 20000 in
theorem gX12_piece_X12_isPiece : GoodIn wsX12_piece (wsV RX12 391 RX12 yX12_isPiece wsX12_isPiece) := goodIn_app (goodIn_of _ (by decide +kernel)) ggX12_piece_X12_isPiece
set_option maxRecDepth 20000 in
theorem ggX12_piece_X12_load : GoodIn wsX12_piece wsX12_load := goodIn_r _ [14, 1, 7, 29, 30, 31, 32, 33, 34, 35, 36, 37, 38, 39, 40, 41, 42, 43, 44, 45, 46, 47, 48, 49, 50, 51, 52, 53, 54, 55, 56, 57, 58, 59, 60, 61, 62, 63, 64, 65, 66, 67, 68, 69, 70, 71, 72, 73, 74, 75, 76, 77, 78, 79, 80, 81, 82, 83, 84, 85, 86, 87, 88, 89, 90, 91, 92, 93, 94, 95, 96, 97, 98, 99, 100, 101, 102, 103] (by decide +kernel) (by decide +kernel)
set_option maxRecDepth 20000 in
theorem gX12_piece_X12_load : GoodIn wsX12_piece (wsV RX12 394 RX12 yX12_load wsX12_load) := goodIn_app (goodIn_of _ (by decide +kernel)) ggX12_piece_X12_load
set_option maxRecDepth 20000 in
theorem ggX12_piece_X12_areaOf : GoodIn wsX12_piece wsX12_areaOf := goodIn_r _ [18, 1, 19, 29, 30, 31, 32, 33, 34, 35, 36, 37, 38, 39, 40, 41, 42, 43, 44, 45, 46, 47, 48, 49, 50, 51, 52, 53, 54, 55, 56, 57, 58, 59, 60, 61, 62, 63, 64, 65, 66, 67, 68, 69, 70, 71, 72, 73, 74, 75, 76, 77, 78, 79, 80, 81, 82, 83, 84, 85, 86, 87, 88, 89, 90, 91, 92, 93, 94, 95, 96, 97, 98, 99, 100, 101, 102, 103] (by decide +kernel) (by decide +kernel)
set_option maxRecDepth 20000 in
theorem gX12_piece_X12_areaOf : GoodIn wsX12_piece (wsV RX12 375 RX12 yX12_areaOf wsX12_areaOf) := goodIn_app (goodIn_of _ (by decide +kernel)) ggX12_piece_X12_areaOf
set_option maxRecDepth 20000 in
theorem ggX12_piece_X12_icingOf : GoodIn wsX12_piece wsX12_icingOf := goodIn_r _ [23, 1, 24, 25, 26, 27, 5, 28, 29, 30, 31, 32, 33, 34, 35, 36, 37, 38, 39, 40, 41, 42, 43, 44, 45, 46, 47, 48, 49, 50, 51, 52, 53, 54, 55, 56, 57, 58, 59, 60, 61, 62, 63, 64, 65, 66, 67, 68, 69, 70, 71, 72, 73, 74, 75, 76, 77, 78, 79, 80, 81, 82, 83, 84, 85, 86, 87, 88, 89, 90, 91, 92, 93, 94, 95, 96, 97, 98, 99, 100, 101, 102, 103] (by decide +kernel) (by decide +kernel)
set_option maxRecDepth 20000 in
theorem gX12_piece_X12_icingOf : GoodIn wsX12_piece (wsV RX12 378 RX12 yX12_icingOf wsX12_icingOf) := goodIn_app (goodIn_of _ (by decide +kernel)) ggX12_piece_X12_icingOf
theorem dX12_piece_0 : decode cX12_piece 0 = .ok (.aload_n 0, 1) := by decide +kernel
theorem dX12_piece_1 : decode cX12_piece 1 = .ok (.iload_n 1, 1) := by decide +kernel
theorem dX12_piece_2 : decode cX12_piece 2 = .ok (.invokevirtual 391, 3) := by decide +kernel
theorem dX12_piece_5 : decode cX12_piece 5 = .ok (.ifCond .ne 6, 3) := by decide +kernel
theorem dX12_piece_8 : decode cX12_piece 8 = .ok (.bipush (-2), 2) := by decide +kernel
theorem dX12_piece_10 : decode cX12_piece 10 = .ok (.ireturn, 1) := by decide +kernel
theorem dX12_piece_11 : decode cX12_piece 11 = .ok (.aload_n 0, 1) := by decide +kernel
theorem dX12_piece_12 : decode cX12_piece 12 = .ok (.invokevirtual 394, 3) := by decide +kernel
theorem dX12_piece_15 : decode cX12_piece 15 = .ok (.iload_n 2, 1) := by decide +kernel
theorem dX12_piece_16 : decode cX12_piece 16 = .ok (.tableswitch 147 0 8 #[52, 62, 74, 86, 98, 110, 116, 122, 134], 52) := by decide +kernel
theorem dX12_piece_68 : decode cX12_piece 68 = .ok (.aload_n 0, 1) := by decide +kernel
theorem dX12_piece_69 : decode cX12_piece 69 = .ok (.getfield 94, 3) := by decide +kernel
theorem dX12_piece_72 : decode cX12_piece 72 = .ok (.bipush 7, 2) := by decide +kernel
theorem dX12_piece_74 : decode cX12_piece 74 = .ok (.iload_n 1, 1) := by decide +kernel
theorem dX12_piece_75 : decode cX12_piece 75 = .ok (.imul, 1) := by decide +kernel
theorem dX12_piece_76 : decode cX12_piece 76 = .ok (.iaload, 1) := by decide +kernel
theorem dX12_piece_77 : decode cX12_piece 77 = .ok (.ireturn, 1) := by decide +kernel
theorem dX12_piece_78 : decode cX12_piece 78 = .ok (.aload_n 0, 1) := by decide +kernel
theorem dX12_piece_79 : decode cX12_piece 79 = .ok (.getfield 94, 3) := by decide +kernel
theorem dX12_piece_82 : decode cX12_piece 82 = .ok (.bipush 7, 2) := by decide +kernel
theorem dX12_piece_84 : decode cX12_piece 84 = .ok (.iload_n 1, 1) := by decide +kernel
theorem dX12_piece_85 : decode cX12_piece 85 = .ok (.imul, 1) := by decide +kernel
theorem dX12_piece_86 : decode cX12_piece 86 = .ok (.iconst 1, 1) := by decide +kernel
theorem dX12_piece_87 : decode cX12_piece 87 = .ok (.iadd, 1) := by decide +kernel
theorem dX12_piece_88 : decode cX12_piece 88 = .ok (.iaload, 1) := by decide +kernel
theorem dX12_piece_89 : decode cX12_piece 89 = .ok (.ireturn, 1) := by decide +kernel
theorem dX12_piece_90 : decode cX12_piece 90 = .ok (.aload_n 0, 1) := by decide +kernel
theorem dX12_piece_91 : decode cX12_piece 91 = .ok (.getfield 94, 3) := by decide +kernel
theorem dX12_piece_94 : decode cX12_piece 94 = .ok (.bipush 7, 2) := by decide +kernel
theorem dX12_piece_96 : decode cX12_piece 96 = .ok (.iload_n 1, 1) := by decide +kernel
theorem dX12_piece_97 : decode cX12_piece 97 = .ok (.imul, 1) := by decide +kernel
theorem dX12_piece_98 : decode cX12_piece 98 = .ok (.iconst 2, 1) := by decide +kernel
theorem dX12_piece_99 : decode cX12_piece 99 = .ok (.iadd, 1) := by decide +kernel
theorem dX12_piece_100 : decode cX12_piece 100 = .ok (.iaload, 1) := by decide +kernel
theorem dX12_piece_101 : decode cX12_piece 101 = .ok (.ireturn, 1) := by decide +kernel
theorem dX12_piece_102 : decode cX12_piece 102 = .ok (.aload_n 0, 1) := by decide +kernel
theorem dX12_piece_103 : decode cX12_piece 103 = .ok (.getfield 94, 3) := by decide +kernel
theorem dX12_piece_106 : decode cX12_piece 106 = .ok (.bipush 7, 2) := by decide +kernel
theorem dX12_piece_108 : decode cX12_piece 108 = .ok (.iload_n 1, 1) := by decide +kernel
theorem dX12_piece_109 : decode cX12_piece 109 = .ok (.imul, 1) := by decide +kernel
theorem dX12_piece_110 : decode cX12_piece 110 = .ok (.iconst 3, 1) := by decide +kernel
theorem dX12_piece_111 : decode cX12_piece 111 = .ok (.iadd, 1) := by decide +kernel
theorem dX12_piece_112 : decode cX12_piece 112 = .ok (.iaload, 1) := by decide +kernel
theorem dX12_piece_113 : decode cX12_piece 113 = .ok (.ireturn, 1) := by decide +kernel
theorem dX12_piece_114 : decode cX12_piece 114 = .ok (.aload_n 0, 1) := by decide +kernel
theorem dX12_piece_115 : decode cX12_piece 115 = .ok (.getfield 94, 3) := by decide +kernel
theorem dX12_piece_118 : decode cX12_piece 118 = .ok (.bipush 7, 2) := by decide +kernel
theorem dX12_piece_120 : decode cX12_piece 120 = .ok (.iload_n 1, 1) := by decide +kernel
theorem dX12_piece_121 : decode cX12_piece 121 = .ok (.imul, 1) := by decide +kernel
theorem dX12_piece_122 : decode cX12_piece 122 = .ok (.iconst 4, 1) := by decide +kernel
theorem dX12_piece_123 : decode cX12_piece 123 = .ok (.iadd, 1) := by decide +kernel
theorem dX12_piece_124 : decode cX12_piece 124 = .ok (.iaload, 1) := by decide +kernel
theorem dX12_piece_125 : decode cX12_piece 125 = .ok (.ireturn, 1) := by decide +kernel
theorem dX12_piece_126 : decode cX12_piece 126 = .ok (.aload_n 0, 1) := by decide +kernel
theorem dX12_piece_127 : decode cX12_piece 127 = .ok (.iload_n 1, 1) := by decide +kernel
theorem dX12_piece_128 : decode cX12_piece 128 = .ok (.invokevirtual 375, 3) := by decide +kernel
theorem dX12_piece_131 : decode cX12_piece 131 = .ok (.ireturn, 1) := by decide +kernel
theorem dX12_piece_132 : decode cX12_piece 132 = .ok (.aload_n 0, 1) := by decide +kernel
theorem dX12_piece_133 : decode cX12_piece 133 = .ok (.iload_n 1, 1) := by decide +kernel
theorem dX12_piece_134 : decode cX12_piece 134 = .ok (.invokevirtual 378, 3) := by decide +kernel
theorem dX12_piece_137 : decode cX12_piece 137 = .ok (.ireturn, 1) := by decide +kernel
theorem dX12_piece_138 : decode cX12_piece 138 = .ok (.aload_n 0, 1) := by decide +kernel
theorem dX12_piece_139 : decode cX12_piece 139 = .ok (.getfield 94, 3) := by decide +kernel
theorem dX12_piece_142 : decode cX12_piece 142 = .ok (.bipush 7, 2) := by decide +kernel
theorem dX12_piece_144 : decode cX12_piece 144 = .ok (.iload_n 1, 1) := by decide +kernel
theorem dX12_piece_145 : decode cX12_piece 145 = .ok (.imul, 1) := by decide +kernel
theorem dX12_piece_146 : decode cX12_piece 146 = .ok (.iconst 5, 1) := by decide +kernel
theorem dX12_piece_147 : decode cX12_piece 147 = .ok (.iadd, 1) := by decide +kernel
theorem dX12_piece_148 : decode cX12_piece 148 = .ok (.iaload, 1) := by decide +kernel
theorem dX12_piece_149 : decode cX12_piece 149 = .ok (.ireturn, 1) := by decide +kernel
theorem dX12_piece_150 : decode cX12_piece 150 = .ok (.aload_n 0, 1) := by decide +kernel
theorem dX12_piece_151 : decode cX12_piece 151 = .ok (.getfield 94, 3) := by decide +kernel
theorem dX12_piece_154 : decode cX12_piece 154 = .ok (.bipush 7, 2) := by decide +kernel
theorem dX12_piece_156 : decode cX12_piece 156 = .ok (.iload_n 1, 1) := by decide +kernel
theorem dX12_piece_157 : decode cX12_piece 157 = .ok (.imul, 1) := by decide +kernel
theorem dX12_piece_158 : decode cX12_piece 158 = .ok (.bipush 6, 2) := by decide +kernel
theorem dX12_piece_160 : decode cX12_piece 160 = .ok (.iadd, 1) := by decide +kernel
theorem dX12_piece_161 : decode cX12_piece 161 = .ok (.iaload, 1) := by decide +kernel
theorem dX12_piece_162 : decode cX12_piece 162 = .ok (.ireturn, 1) := by decide +kernel
theorem dX12_piece_163 : decode cX12_piece 163 = .ok (.bipush (-2), 2) := by decide +kernel
theorem dX12_piece_165 : decode cX12_piece 165 = .ok (.ireturn, 1) := by decide +kernel
set_option maxRecDepth 20000 in
theorem ggX12_guest_X12_isGuest : GoodIn wsX12_guest wsX12_isGuest := goodIn_r _ [8, 9, 10, 11, 7, 12, 57, 58, 59, 60, 61, 62, 63, 64, 65, 66, 67, 68, 69, 70, 71, 72, 73, 74, 75, 76, 77, 78, 79, 80, 81, 82, 83, 84, 85, 86, 87, 88, 89, 90, 91, 92, 93, 94, 95, 96, 97, 98, 99, 100, 101, 102, 103, 104, 105, 106, 107, 108, 109, 110, 111, 112, 113, 114, 115, 116, 117, 118, 119, 120, 121, 122, 123, 124, 125, 126, 127, 128, 129, 130, 131] (by decide +kernel) (by decide +kernel)
set_option maxRecDepth 20000 in
theorem gX12_guest_X12_isGuest : GoodIn wsX12_guest (wsV RX12 397 RX12 yX12_isGuest wsX12_isGuest) := goodIn_app (goodIn_of _ (by decide +kernel)) ggX12_guest_X12_isGuest
set_option maxRecDepth 20000 in
theorem ggX12_guest_X12_load : GoodIn wsX12_guest wsX12_load := goodIn_r _ [16, 17, 18, 57, 58, 59, 60, 61, 62, 63, 64, 65, 66, 67, 68, 69, 70, 71, 72, 73, 74, 75, 76, 77, 78, 79, 80, 81, 82, 83, 84, 85, 86, 87, 88, 89, 90, 91, 92, 93, 94, 95, 96, 97, 98, 99, 100, 101, 102, 103, 104, 105, 106, 107, 108, 109, 110, 111, 112, 113, 114, 115, 116, 117, 118, 119, 120, 121, 122, 123, 124, 125, 126, 127, 128, 129, 130, 131] (by decide +kernel) (by decide +kernel)
set_option maxRecDepth 20000 in
theorem gX12_guest_X12_load : GoodIn wsX12_guest (wsV RX12 394 RX12 yX12_load wsX12_load) := goodIn_app (goodIn_of _ (by decide +kernel)) ggX12_guest_X12_load
set_option maxRecDepth 20000 in
theorem ggX12_guest_X12_pieceOf : GoodIn wsX12_guest wsX12_pieceOf := goodIn_r _ [22, 17, 57, 58, 59, 60, 61, 62, 63, 64, 65, 66, 67, 68, 69, 70, 71, 72, 73, 74, 75, 76, 77, 78, 79, 80, 81, 82, 83, 84, 85, 86, 87, 88, 89, 90, 91, 92, 93, 94, 95, 96, 97, 98, 99, 100, 101, 102, 103, 104, 105, 106, 107, 108, 109, 110, 111, 112, 113, 114, 115, 116, 117, 118, 119, 120, 121, 122, 123, 124, 125, 126, 127, 128, 129, 130, 131] (by decide +kernel) (by decide +kernel)
set_option maxRecDepth 20000 in
theorem gX12_guest_X12_pieceOf : GoodIn wsX12_guest (wsV RX12 400 RX12 yX12_pieceOf wsX12_pieceOf) := goodIn_app (goodIn_of _ (by decide +kernel)) ggX12_guest_X12_pieceOf
set_option maxRecDepth 20000 in
theorem ggX12_guest_X12_worthOf : GoodIn wsX12_guest wsX12_worthOf := goodIn_r _ [26, 2, 27, 28, 29, 30, 7, 31, 17, 32, 33, 34, 35, 36, 37, 38, 39, 40, 41, 42, 43, 44, 45, 46, 47, 48, 49, 50, 51, 52, 53, 54, 55, 56, 57, 58, 59, 60, 61, 62, 63, 64, 65, 66, 67, 68, 69, 70, 71, 72, 73, 74, 75, 76, 77, 78, 79, 80, 81, 82, 83, 84, 85, 86, 87, 88, 89, 90, 91, 92, 93, 94, 95, 96, 97, 98, 99, 100, 101, 102, 103, 104, 105, 106, 107, 108, 109, 110, 111, 112, 113, 114, 115, 116, 117, 118, 119, 120, 121, 122, 123, 124, 125, 126, 127, 128, 129, 130, 131] (by decide +kernel) (by decide +kernel)
set_option maxRecDepth 20000 in
theorem gX12_guest_X12_worthOf : GoodIn wsX12_guest (wsV RX12 403 RX12 yX12_worthOf wsX12_worthOf) := goodIn_app (goodIn_of _ (by decide +kernel)) ggX12_guest_X12_worthOf
theorem dX12_guest_0 : decode cX12_guest 0 = .ok (.aload_n 0, 1) := by decide +kernel
theorem dX12_guest_1 : decode cX12_guest 1 = .ok (.iload_n 1, 1) := by decide +kernel
theorem dX12_guest_2 : decode cX12_guest 2 = .ok (.invokevirtual 397, 3) := by decide +kernel
theorem dX12_guest_5 : decode cX12_guest 5 = .ok (.ifCond .ne 6, 3) := by decide +kernel
theorem dX12_guest_8 : decode cX12_guest 8 = .ok (.bipush (-2), 2) := by decide +kernel
theorem dX12_guest_10 : decode cX12_guest 10 = .ok (.ireturn, 1) := by decide +kernel
theorem dX12_guest_11 : decode cX12_guest 11 = .ok (.aload_n 0, 1) := by decide +kernel
theorem dX12_guest_12 : decode cX12_guest 12 = .ok (.invokevirtual 394, 3) := by decide +kernel
theorem dX12_guest_15 : decode cX12_guest 15 = .ok (.aload_n 0, 1) := by decide +kernel
theorem dX12_guest_16 : decode cX12_guest 16 = .ok (.iload_n 1, 1) := by decide +kernel
theorem dX12_guest_17 : decode cX12_guest 17 = .ok (.invokevirtual 400, 3) := by decide +kernel
theorem dX12_guest_20 : decode cX12_guest 20 = .ok (.istore_n 3, 1) := by decide +kernel
theorem dX12_guest_21 : decode cX12_guest 21 = .ok (.iload_n 2, 1) := by decide +kernel
theorem dX12_guest_22 : decode cX12_guest 22 = .ok (.tableswitch 72 0 4 #[34, 41, 48, 55, 57], 34) := by decide +kernel
theorem dX12_guest_56 : decode cX12_guest 56 = .ok (.aload_n 0, 1) := by decide +kernel
theorem dX12_guest_57 : decode cX12_guest 57 = .ok (.getfield 79, 3) := by decide +kernel
theorem dX12_guest_60 : decode cX12_guest 60 = .ok (.iload_n 1, 1) := by decide +kernel
theorem dX12_guest_61 : decode cX12_guest 61 = .ok (.iaload, 1) := by decide +kernel
theorem dX12_guest_62 : decode cX12_guest 62 = .ok (.ireturn, 1) := by decide +kernel
theorem dX12_guest_63 : decode cX12_guest 63 = .ok (.aload_n 0, 1) := by decide +kernel
theorem dX12_guest_64 : decode cX12_guest 64 = .ok (.getfield 82, 3) := by decide +kernel
theorem dX12_guest_67 : decode cX12_guest 67 = .ok (.iload_n 1, 1) := by decide +kernel
theorem dX12_guest_68 : decode cX12_guest 68 = .ok (.iaload, 1) := by decide +kernel
theorem dX12_guest_69 : decode cX12_guest 69 = .ok (.ireturn, 1) := by decide +kernel
theorem dX12_guest_70 : decode cX12_guest 70 = .ok (.aload_n 0, 1) := by decide +kernel
theorem dX12_guest_71 : decode cX12_guest 71 = .ok (.getfield 85, 3) := by decide +kernel
theorem dX12_guest_74 : decode cX12_guest 74 = .ok (.iload_n 1, 1) := by decide +kernel
theorem dX12_guest_75 : decode cX12_guest 75 = .ok (.iaload, 1) := by decide +kernel
theorem dX12_guest_76 : decode cX12_guest 76 = .ok (.ireturn, 1) := by decide +kernel
theorem dX12_guest_77 : decode cX12_guest 77 = .ok (.iload_n 3, 1) := by decide +kernel
theorem dX12_guest_78 : decode cX12_guest 78 = .ok (.ireturn, 1) := by decide +kernel
theorem dX12_guest_79 : decode cX12_guest 79 = .ok (.iload_n 3, 1) := by decide +kernel
theorem dX12_guest_80 : decode cX12_guest 80 = .ok (.ifCond .ge 7, 3) := by decide +kernel
theorem dX12_guest_83 : decode cX12_guest 83 = .ok (.iconst 0, 1) := by decide +kernel
theorem dX12_guest_84 : decode cX12_guest 84 = .ok (.goto 9, 3) := by decide +kernel
theorem dX12_guest_87 : decode cX12_guest 87 = .ok (.aload_n 0, 1) := by decide +kernel
theorem dX12_guest_88 : decode cX12_guest 88 = .ok (.iload_n 1, 1) := by decide +kernel
theorem dX12_guest_89 : decode cX12_guest 89 = .ok (.iload_n 3, 1) := by decide +kernel
theorem dX12_guest_90 : decode cX12_guest 90 = .ok (.invokevirtual 403, 3) := by decide +kernel
theorem dX12_guest_93 : decode cX12_guest 93 = .ok (.ireturn, 1) := by decide +kernel
theorem dX12_guest_94 : decode cX12_guest 94 = .ok (.bipush (-2), 2) := by decide +kernel
theorem dX12_guest_96 : decode cX12_guest 96 = .ok (.ireturn, 1) := by decide +kernel
set_option maxRecDepth 20000 in
theorem ggX12_worth_X12_isGuest : GoodIn wsX12_worth wsX12_isGuest := goodIn_r _ [6, 7, 8, 9, 5, 10, 56, 57, 58, 59, 60, 61, 62, 63, 64, 65, 66, 67, 68, 69, 70, 71, 72, 73, 74, 75, 76, 77, 78, 79, 80, 81, 82, 83, 84, 85, 86, 87, 88, 89, 90, 91, 92, 93, 94, 95, 96, 97, 98, 99, 100, 101, 102, 103, 104, 105, 106, 107, 108, 109, 110, 111, 112, 113, 114, 115, 116, 117, 118, 119, 120, 121, 122, 123, 124, 125, 126, 127, 128, 129, 130] (by decide +kernel) (by decide +kernel)
set_option maxRecDepth 20000 in
theorem gX12_worth_X12_isGuest : GoodIn wsX12_worth (wsV RX12 397 RX12 yX12_isGuest wsX12_isGuest) := goodIn_app (goodIn_of _ (by decide +kernel)) ggX12_worth_X12_isGuest
set_option maxRecDepth 20000 in
theorem ggX12_worth_X12_isPiece : GoodIn wsX12_worth wsX12_isPiece := goodIn_r _ [14, 15, 8, 9, 5, 10, 56, 57, 58, 59, 60, 61, 62, 63, 64, 65, 66, 67, 68, 69, 70, 71, 72, 73, 74, 75, 76, 77, 78, 79, 80, 81, 82, 83, 84, 85, 86, 87, 88, 89, 90, 91, 92, 93, 94, 95, 96, 97, 98, 99, 100, 101, 102, 103, 104, 105, 106, 107, 108, 109, 110, 111, 112, 113, 114, 115, 116, 117, 118, 119, 120, 121, 122, 123, 124, 125, 126, 127, 128, 129, 130] (by decide +kernel) (by decide +kernel)
set_option maxRecDepth 20000 in
theorem gX12_worth_X12_isPiece : GoodIn wsX12_worth (wsV RX12 391 RX12 yX12_isPiece wsX12_isPiece) := goodIn_app (goodIn_of _ (by decide +kernel)) ggX12_worth_X12_isPiece
set_option maxRecDepth 20000 in
theorem ggX12_worth_X12_load : GoodIn wsX12_worth wsX12_load := goodIn_r _ [19, 20, 15, 56, 57, 58, 59, 60, 61, 62, 63, 64, 65, 66, 67, 68, 69, 70, 71, 72, 73, 74, 75, 76, 77, 78, 79, 80, 81, 82, 83, 84, 85, 86, 87, 88, 89, 90, 91, 92, 93, 94, 95, 96, 97, 98, 99, 100, 101, 102, 103, 104, 105, 106, 107, 108, 109, 110, 111, 112, 113, 114, 115, 116, 117, 118, 119, 120, 121, 122, 123, 124, 125, 126, 127, 128, 129, 130] (by decide +kernel) (by decide +kernel)
set_option maxRecDepth 20000 in
theorem gX12_worth_X12_load : GoodIn wsX12_worth (wsV RX12 394 RX12 yX12_load wsX12_load) := goodIn_app (goodIn_of _ (by decide +kernel)) ggX12_worth_X12_load
set_option maxRecDepth 20000 in
theorem ggX12_worth_X12_worthOf : GoodIn wsX12_worth wsX12_worthOf := goodIn_r _ [24, 25, 26, 27, 28, 29, 5, 30, 20, 31, 32, 33, 34, 35, 36, 37, 38, 39, 40, 41, 42, 43, 44, 45, 46, 47, 48, 49, 50, 51, 52, 53, 54, 55, 56, 57, 58, 59, 60, 61, 62, 63, 64, 65, 66, 67, 68, 69, 70, 71, 72, 73, 74, 75, 76, 77, 78, 79, 80, 81, 82, 83, 84, 85, 86, 87, 88, 89, 90, 91, 92, 93, 94, 95, 96, 97, 98, 99, 100, 101, 102, 103, 104, 105, 106, 107, 108, 109, 110, 111, 112, 113, 114, 115, 116, 117, 118, 119, 120, 121, 122, 123, 124, 125, 126, 127, 128, 129, 130] (by decide +kernel) (by decide +kernel)
set_option maxRecDepth 20000 in
theorem gX12_worth_X12_worthOf : GoodIn wsX12_worth (wsV RX12 403 RX12 yX12_worthOf wsX12_worthOf) := goodIn_app (goodIn_of _ (by decide +kernel)) ggX12_worth_X12_worthOf
theorem dX12_worth_0 : decode cX12_worth 0 = .ok (.aload_n 0, 1) := by decide +kernel
theorem dX12_worth_1 : decode cX12_worth 1 = .ok (.iload_n 1, 1) := by decide +kernel
theorem dX12_worth_2 : decode cX12_worth 2 = .ok (.invokevirtual 397, 3) := by decide +kernel
theorem dX12_worth_5 : decode cX12_worth 5 = .ok (.ifCond .eq 11, 3) := by decide +kernel
theorem dX12_worth_8 : decode cX12_worth 8 = .ok (.aload_n 0, 1) := by decide +kernel
theorem dX12_worth_9 : decode cX12_worth 9 = .ok (.iload_n 2, 1) := by decide +kernel
theorem dX12_worth_10 : decode cX12_worth 10 = .ok (.invokevirtual 391, 3) := by decide +kernel
theorem dX12_worth_13 : decode cX12_worth 13 = .ok (.ifCond .ne 7, 3) := by decide +kernel
theorem dX12_worth_16 : decode cX12_worth 16 = .ok (.ldc_w 406, 3) := by decide +kernel
theorem dX12_worth_19 : decode cX12_worth 19 = .ok (.ireturn, 1) := by decide +kernel
theorem dX12_worth_20 : decode cX12_worth 20 = .ok (.aload_n 0, 1) := by decide +kernel
theorem dX12_worth_21 : decode cX12_worth 21 = .ok (.invokevirtual 394, 3) := by decide +kernel
theorem dX12_worth_24 : decode cX12_worth 24 = .ok (.aload_n 0, 1) := by decide +kernel
theorem dX12_worth_25 : decode cX12_worth 25 = .ok (.iload_n 1, 1) := by decide +kernel
theorem dX12_worth_26 : decode cX12_worth 26 = .ok (.iload_n 2, 1) := by decide +kernel
theorem dX12_worth_27 : decode cX12_worth 27 = .ok (.invokevirtual 403, 3) := by decide +kernel
theorem dX12_worth_30 : decode cX12_worth 30 = .ok (.ireturn, 1) := by decide +kernel
set_option maxRecDepth 20000 in
theorem ggX12_slip_X12_load : GoodIn wsX12_slip wsX12_load := goodIn_r _ [5, 6, 7, 53, 54, 55, 56, 57, 58, 59, 60, 61, 62, 63, 64, 65, 66, 67, 68, 69, 70, 71, 72, 73, 74, 75, 76, 77, 78, 79, 80, 81, 82, 83, 84, 85, 86, 87, 88, 89, 90, 91, 92, 93, 94, 95, 96, 97, 98, 99, 100, 101, 102, 103, 104, 105, 106, 107, 108, 109, 110, 111, 112, 113, 114, 115, 116, 117, 118, 119, 120, 121, 122, 123, 124, 125, 126, 127] (by decide +kernel) (by decide +kernel)
set_option maxRecDepth 20000 in
theorem gX12_slip_X12_load : GoodIn wsX12_slip (wsV RX12 394 RX12 yX12_load wsX12_load) := goodIn_app (goodIn_of _ (by decide +kernel)) ggX12_slip_X12_load
set_option maxRecDepth 20000 in
theorem ggX12_slip_X12_canCut : GoodIn wsX12_slip wsX12_canCut := goodIn_r _ [11, 6, 12, 13, 4, 14, 15, 16, 17, 18, 53, 54, 55, 56, 57, 58, 59, 60, 61, 62, 63, 64, 65, 66, 67, 68, 69, 70, 71, 72, 73, 74, 75, 76, 77, 78, 79, 80, 81, 82, 83, 84, 85, 86, 87, 88, 89, 90, 91, 92, 93, 94, 95, 96, 97, 98, 99, 100, 101, 102, 103, 104, 105, 106, 107, 108, 109, 110, 111, 112, 113, 114, 115, 116, 117, 118, 119, 120, 121, 122, 123, 124, 125, 126, 127] (by decide +kernel) (by decide +kernel)
set_option maxRecDepth 20000 in
theorem gX12_slip_X12_canCut : GoodIn wsX12_slip (wsV RX12 407 RX12 yX12_canCut wsX12_canCut) := goodIn_app (goodIn_of _ (by decide +kernel)) ggX12_slip_X12_canCut
set_option maxRecDepth 20000 in
theorem ggX12_slip_X12_slipOf : GoodIn wsX12_slip wsX12_slipOf := goodIn_r _ [22, 6, 23, 24, 25, 4, 26, 27, 28, 29, 30, 31, 32, 33, 34, 35, 36, 37, 38, 39, 40, 41, 42, 43, 44, 45, 46, 47, 48, 49, 50, 51, 52, 53, 54, 55, 56, 57, 58, 59, 60, 61, 62, 63, 64, 65, 66, 67, 68, 69, 70, 71, 72, 73, 74, 75, 76, 77, 78, 79, 80, 81, 82, 83, 84, 85, 86, 87, 88, 89, 90, 91, 92, 93, 94, 95, 96, 97, 98, 99, 100, 101, 102, 103, 104, 105, 106, 107, 108, 109, 110, 111, 112, 113, 114, 115, 116, 117, 118, 119, 120, 121, 122, 123, 124, 125, 126, 127] (by decide +kernel) (by decide +kernel)
set_option maxRecDepth 20000 in
theorem gX12_slip_X12_slipOf : GoodIn wsX12_slip (wsV RX12 410 RX12 yX12_slipOf wsX12_slipOf) := goodIn_app (goodIn_of _ (by decide +kernel)) ggX12_slip_X12_slipOf
theorem dX12_slip_0 : decode cX12_slip 0 = .ok (.aload_n 0, 1) := by decide +kernel
theorem dX12_slip_1 : decode cX12_slip 1 = .ok (.invokevirtual 394, 3) := by decide +kernel
theorem dX12_slip_4 : decode cX12_slip 4 = .ok (.aload_n 0, 1) := by decide +kernel
theorem dX12_slip_5 : decode cX12_slip 5 = .ok (.iload_n 1, 1) := by decide +kernel
theorem dX12_slip_6 : decode cX12_slip 6 = .ok (.iload_n 2, 1) := by decide +kernel
theorem dX12_slip_7 : decode cX12_slip 7 = .ok (.iload_n 3, 1) := by decide +kernel
theorem dX12_slip_8 : decode cX12_slip 8 = .ok (.invokevirtual 407, 3) := by decide +kernel
theorem dX12_slip_11 : decode cX12_slip 11 = .ok (.ifCond .eq 12, 3) := by decide +kernel
theorem dX12_slip_14 : decode cX12_slip 14 = .ok (.aload_n 0, 1) := by decide +kernel
theorem dX12_slip_15 : decode cX12_slip 15 = .ok (.iload_n 1, 1) := by decide +kernel
theorem dX12_slip_16 : decode cX12_slip 16 = .ok (.iload_n 2, 1) := by decide +kernel
theorem dX12_slip_17 : decode cX12_slip 17 = .ok (.invokevirtual 410, 3) := by decide +kernel
theorem dX12_slip_20 : decode cX12_slip 20 = .ok (.goto 4, 3) := by decide +kernel
theorem dX12_slip_23 : decode cX12_slip 23 = .ok (.iconst (-1), 1) := by decide +kernel
theorem dX12_slip_24 : decode cX12_slip 24 = .ok (.ireturn, 1) := by decide +kernel
theorem dX12_act_0 : decode cX12_act 0 = .ok (.aload_n 0, 1) := by decide +kernel
theorem dX12_act_1 : decode cX12_act 1 = .ok (.getfield 359, 3) := by decide +kernel
theorem dX12_act_4 : decode cX12_act 4 = .ok (.bipush 40, 2) := by decide +kernel
theorem dX12_act_6 : decode cX12_act 6 = .ok (.if_icmp .ne 44, 3) := by decide +kernel
theorem dX12_act_9 : decode cX12_act 9 = .ok (.iconst 0, 1) := by decide +kernel
theorem dX12_act_10 : decode cX12_act 10 = .ok (.istore_n 1, 1) := by decide +kernel
theorem dX12_act_11 : decode cX12_act 11 = .ok (.iload_n 1, 1) := by decide +kernel
theorem dX12_act_12 : decode cX12_act 12 = .ok (.sipush 6669, 3) := by decide +kernel
theorem dX12_act_15 : decode cX12_act 15 = .ok (.if_icmp .ge 25, 3) := by decide +kernel
theorem dX12_act_18 : decode cX12_act 18 = .ok (.aload_n 0, 1) := by decide +kernel
theorem dX12_act_19 : decode cX12_act 19 = .ok (.getfield 97, 3) := by decide +kernel
theorem dX12_act_22 : decode cX12_act 22 = .ok (.iload_n 1, 1) := by decide +kernel
theorem dX12_act_23 : decode cX12_act 23 = .ok (.aload_n 0, 1) := by decide +kernel
theorem dX12_act_24 : decode cX12_act 24 = .ok (.getfield 97, 3) := by decide +kernel
theorem dX12_act_27 : decode cX12_act 27 = .ok (.sipush 171, 3) := by decide +kernel
theorem dX12_act_30 : decode cX12_act 30 = .ok (.iload_n 1, 1) := by decide +kernel
theorem dX12_act_31 : decode cX12_act 31 = .ok (.iadd, 1) := by decide +kernel
theorem dX12_act_32 : decode cX12_act 32 = .ok (.iaload, 1) := by decide +kernel
theorem dX12_act_33 : decode cX12_act 33 = .ok (.iastore, 1) := by decide +kernel
theorem dX12_act_34 : decode cX12_act 34 = .ok (.iinc 1 1, 3) := by decide +kernel
theorem dX12_act_37 : decode cX12_act 37 = .ok (.goto (-26), 3) := by decide +kernel
theorem dX12_act_40 : decode cX12_act 40 = .ok (.aload_n 0, 1) := by decide +kernel
theorem dX12_act_41 : decode cX12_act 41 = .ok (.dup, 1) := by decide +kernel
theorem dX12_act_42 : decode cX12_act 42 = .ok (.getfield 359, 3) := by decide +kernel
theorem dX12_act_45 : decode cX12_act 45 = .ok (.iconst 1, 1) := by decide +kernel
theorem dX12_act_46 : decode cX12_act 46 = .ok (.isub, 1) := by decide +kernel
theorem dX12_act_47 : decode cX12_act 47 = .ok (.putfield 359, 3) := by decide +kernel
theorem dX12_act_50 : decode cX12_act 50 = .ok (.iconst 0, 1) := by decide +kernel
theorem dX12_act_51 : decode cX12_act 51 = .ok (.istore_n 1, 1) := by decide +kernel
theorem dX12_act_52 : decode cX12_act 52 = .ok (.iload_n 1, 1) := by decide +kernel
theorem dX12_act_53 : decode cX12_act 53 = .ok (.sipush 171, 3) := by decide +kernel
theorem dX12_act_56 : decode cX12_act 56 = .ok (.if_icmp .ge 30, 3) := by decide +kernel
theorem dX12_act_59 : decode cX12_act 59 = .ok (.aload_n 0, 1) := by decide +kernel
theorem dX12_act_60 : decode cX12_act 60 = .ok (.getfield 97, 3) := by decide +kernel
theorem dX12_act_63 : decode cX12_act 63 = .ok (.sipush 171, 3) := by decide +kernel
theorem dX12_act_66 : decode cX12_act 66 = .ok (.aload_n 0, 1) := by decide +kernel
theorem dX12_act_67 : decode cX12_act 67 = .ok (.getfield 359, 3) := by decide +kernel
theorem dX12_act_70 : decode cX12_act 70 = .ok (.imul, 1) := by decide +kernel
theorem dX12_act_71 : decode cX12_act 71 = .ok (.iload_n 1, 1) := by decide +kernel
theorem dX12_act_72 : decode cX12_act 72 = .ok (.iadd, 1) := by decide +kernel
theorem dX12_act_73 : decode cX12_act 73 = .ok (.aload_n 0, 1) := by decide +kernel
theorem dX12_act_74 : decode cX12_act 74 = .ok (.getfield 91, 3) := by decide +kernel
theorem dX12_act_77 : decode cX12_act 77 = .ok (.iload_n 1, 1) := by decide +kernel
theorem dX12_act_78 : decode cX12_act 78 = .ok (.iaload, 1) := by decide +kernel
theorem dX12_act_79 : decode cX12_act 79 = .ok (.iastore, 1) := by decide +kernel
theorem dX12_act_80 : decode cX12_act 80 = .ok (.iinc 1 1, 3) := by decide +kernel
theorem dX12_act_83 : decode cX12_act 83 = .ok (.goto (-31), 3) := by decide +kernel
theorem dX12_act_86 : decode cX12_act 86 = .ok (.aload_n 0, 1) := by decide +kernel
theorem dX12_act_87 : decode cX12_act 87 = .ok (.dup, 1) := by decide +kernel
theorem dX12_act_88 : decode cX12_act 88 = .ok (.getfield 359, 3) := by decide +kernel
theorem dX12_act_91 : decode cX12_act 91 = .ok (.iconst 1, 1) := by decide +kernel
theorem dX12_act_92 : decode cX12_act 92 = .ok (.iadd, 1) := by decide +kernel
theorem dX12_act_93 : decode cX12_act 93 = .ok (.putfield 359, 3) := by decide +kernel
theorem dX12_act_96 : decode cX12_act 96 = .ok (.aload_n 0, 1) := by decide +kernel
theorem dX12_act_97 : decode cX12_act 97 = .ok (.iconst 0, 1) := by decide +kernel
theorem dX12_act_98 : decode cX12_act 98 = .ok (.putfield 362, 3) := by decide +kernel
theorem dX12_act_101 : decode cX12_act 101 = .ok (.return_, 1) := by decide +kernel
theorem dX12_turnAbout_0 : decode cX12_turnAbout 0 = .ok (.iconst 0, 1) := by decide +kernel
theorem dX12_turnAbout_1 : decode cX12_turnAbout 1 = .ok (.istore_n 2, 1) := by decide +kernel
theorem dX12_turnAbout_2 : decode cX12_turnAbout 2 = .ok (.iload_n 2, 1) := by decide +kernel
theorem dX12_turnAbout_3 : decode cX12_turnAbout 3 = .ok (.sipush 171, 3) := by decide +kernel
theorem dX12_turnAbout_6 : decode cX12_turnAbout 6 = .ok (.if_icmp .ge 39, 3) := by decide +kernel
theorem dX12_turnAbout_9 : decode cX12_turnAbout 9 = .ok (.aload_n 0, 1) := by decide +kernel
theorem dX12_turnAbout_10 : decode cX12_turnAbout 10 = .ok (.getfield 97, 3) := by decide +kernel
theorem dX12_turnAbout_13 : decode cX12_turnAbout 13 = .ok (.iload_n 1, 1) := by decide +kernel
theorem dX12_turnAbout_14 : decode cX12_turnAbout 14 = .ok (.iload_n 2, 1) := by decide +kernel
theorem dX12_turnAbout_15 : decode cX12_turnAbout 15 = .ok (.iadd, 1) := by decide +kernel
theorem dX12_turnAbout_16 : decode cX12_turnAbout 16 = .ok (.iaload, 1) := by decide +kernel
theorem dX12_turnAbout_17 : decode cX12_turnAbout 17 = .ok (.istore_n 3, 1) := by decide +kernel
theorem dX12_turnAbout_18 : decode cX12_turnAbout 18 = .ok (.aload_n 0, 1) := by decide +kernel
theorem dX12_turnAbout_19 : decode cX12_turnAbout 19 = .ok (.getfield 97, 3) := by decide +kernel
theorem dX12_turnAbout_22 : decode cX12_turnAbout 22 = .ok (.iload_n 1, 1) := by decide +kernel
theorem dX12_turnAbout_23 : decode cX12_turnAbout 23 = .ok (.iload_n 2, 1) := by decide +kernel
theorem dX12_turnAbout_24 : decode cX12_turnAbout 24 = .ok (.iadd, 1) := by decide +kernel
theorem dX12_turnAbout_25 : decode cX12_turnAbout 25 = .ok (.aload_n 0, 1) := by decide +kernel
theorem dX12_turnAbout_26 : decode cX12_turnAbout 26 = .ok (.getfield 91, 3) := by decide +kernel
theorem dX12_turnAbout_29 : decode cX12_turnAbout 29 = .ok (.iload_n 2, 1) := by decide +kernel
theorem dX12_turnAbout_30 : decode cX12_turnAbout 30 = .ok (.iaload, 1) := by decide +kernel
theorem dX12_turnAbout_31 : decode cX12_turnAbout 31 = .ok (.iastore, 1) := by decide +kernel
theorem dX12_turnAbout_32 : decode cX12_turnAbout 32 = .ok (.aload_n 0, 1) := by decide +kernel
theorem dX12_turnAbout_33 : decode cX12_turnAbout 33 = .ok (.getfield 91, 3) := by decide +kernel
theorem dX12_turnAbout_36 : decode cX12_turnAbout 36 = .ok (.iload_n 2, 1) := by decide +kernel
theorem dX12_turnAbout_37 : decode cX12_turnAbout 37 = .ok (.iload_n 3, 1) := by decide +kernel
theorem dX12_turnAbout_38 : decode cX12_turnAbout 38 = .ok (.iastore, 1) := by decide +kernel
theorem dX12_turnAbout_39 : decode cX12_turnAbout 39 = .ok (.iinc 2 1, 3) := by decide +kernel
theorem dX12_turnAbout_42 : decode cX12_turnAbout 42 = .ok (.goto (-40), 3) := by decide +kernel
theorem dX12_turnAbout_45 : decode cX12_turnAbout 45 = .ok (.return_, 1) := by decide +kernel
set_option maxRecDepth 20000 in
theorem ggX12_cut_X12_load : GoodIn wsX12_cut wsX12_load := goodIn_r _ [8, 1, 3, 65, 66, 67, 68, 69, 70, 71, 72, 73, 74, 75, 76, 77, 78, 79, 80, 81, 82, 83, 84, 85, 86, 87, 88, 89, 90, 91, 92, 93, 94, 95, 96, 97, 98, 99, 100, 101, 102, 103, 104, 105, 106, 107, 108, 109, 110, 111, 112, 113, 114, 115, 116, 117, 118, 119, 120, 121, 122, 123, 124, 125, 126, 127, 128, 129, 130, 131, 132, 133, 134, 135, 136, 137, 138, 139] (by decide +kernel) (by decide +kernel)
set_option maxRecDepth 20000 in
theorem gX12_cut_X12_load : GoodIn wsX12_cut (wsV RX12 394 RX12 yX12_load wsX12_load) := goodIn_app (goodIn_of _ (by decide +kernel)) ggX12_cut_X12_load
set_option maxRecDepth 20000 in
theorem ggX12_cut_X12_canCut : GoodIn wsX12_cut wsX12_canCut := goodIn_r _ [12, 1, 13, 14, 7, 15, 16, 17, 18, 19, 65, 66, 67, 68, 69, 70, 71, 72, 73, 74, 75, 76, 77, 78, 79, 80, 81, 82, 83, 84, 85, 86, 87, 88, 89, 90, 91, 92, 93, 94, 95, 96, 97, 98, 99, 100, 101, 102, 103, 104, 105, 106, 107, 108, 109, 110, 111, 112, 113, 114, 115, 116, 117, 118, 119, 120, 121, 122, 123, 124, 125, 126, 127, 128, 129, 130, 131, 132, 133, 134, 135, 136, 137, 138, 139] (by decide +kernel) (by decide +kernel)
set_option maxRecDepth 20000 in
theorem gX12_cut_X12_canCut : GoodIn wsX12_cut (wsV RX12 407 RX12 yX12_canCut wsX12_canCut) := goodIn_app (goodIn_of _ (by decide +kernel)) ggX12_cut_X12_canCut
set_option maxRecDepth 20000 in
theorem ggX12_cut_X12_act : GoodIn wsX12_cut wsX12_act := goodIn_r _ [23, 24, 25, 3, 26, 65, 66, 67, 68, 69, 70, 71, 72, 73, 74, 75, 76, 77, 78, 79, 80, 81, 82, 83, 84, 85, 86, 87, 88, 89, 90, 91, 92, 93, 94, 95, 96, 97, 98, 99, 100, 101, 102, 103, 104, 105, 106, 107, 108, 109, 110, 111, 112, 113, 114, 115, 116, 117, 118, 119, 120, 121, 122, 123, 124, 125, 126, 127, 128, 129, 130, 131, 132, 133, 134, 135, 136, 137, 138, 139] (by decide +kernel) (by decide +kernel)
set_option maxRecDepth 20000 in
theorem gX12_cut_X12_act : GoodIn wsX12_cut (wsV RX12 413 RX12 yX12_act wsX12_act) := goodIn_app (goodIn_of _ (by decide +kernel)) ggX12_cut_X12_act
set_option maxRecDepth 20000 in
theorem ggX12_cut_X12_slipOf : GoodIn wsX12_cut wsX12_slipOf := goodIn_r _ [30, 1, 31, 32, 33, 7, 34, 35, 36, 37, 38, 39, 40, 41, 42, 43, 44, 45, 46, 47, 48, 49, 50, 51, 52, 53, 54, 55, 56, 57, 58, 59, 60, 65, 66, 67, 68, 69, 70, 71, 72, 73, 74, 75, 76, 77, 78, 79, 80, 81, 82, 83, 84, 85, 86, 87, 88, 89, 90, 91, 92, 93, 94, 95, 96, 97, 98, 99, 100, 101, 102, 103, 104, 105, 106, 107, 108, 109, 110, 111, 112, 113, 114, 115, 116, 117, 118, 119, 120, 121, 122, 123, 124, 125, 126, 127, 128, 129, 130, 131, 132, 133, 134, 135, 136, 137, 138, 139] (by decide +kernel) (by decide +kernel)
set_option maxRecDepth 20000 in
theorem gX12_cut_X12_slipOf : GoodIn wsX12_cut (wsV RX12 410 RX12 yX12_slipOf wsX12_slipOf) := goodIn_app (goodIn_of _ (by decide +kernel)) ggX12_cut_X12_slipOf
set_option maxRecDepth 20000 in
theorem ggX12_cut_X12_goCut : GoodIn wsX12_cut wsX12_goCut := goodIn_r _ [64, 1, 65, 66, 67, 68, 69, 70, 71, 72, 73, 74, 75, 76, 77, 78, 79, 80, 81, 82, 83, 84, 85, 86, 87, 88, 89, 90, 91, 92, 93, 94, 95, 96, 97, 98, 99, 100, 101, 102, 103, 104, 105, 106, 107, 108, 109, 110, 111, 112, 113, 114, 115, 116, 117, 118, 119, 120, 121, 122, 123, 124, 125, 126, 127, 128, 129, 130, 131, 132, 133, 134, 135, 136, 137, 138, 139] (by decide +kernel) (by decide +kernel)
set_option maxRecDepth 20000 in
theorem gX12_cut_X12_goCut : GoodIn wsX12_cut (wsV RX12 416 RX12 yX12_goCut wsX12_goCut) := goodIn_app (goodIn_of _ (by decide +kernel)) ggX12_cut_X12_goCut
theorem dX12_cut_0 : decode cX12_cut 0 = .ok (.aload_n 0, 1) := by decide +kernel
theorem dX12_cut_1 : decode cX12_cut 1 = .ok (.invokevirtual 394, 3) := by decide +kernel
theorem dX12_cut_4 : decode cX12_cut 4 = .ok (.aload_n 0, 1) := by decide +kernel
theorem dX12_cut_5 : decode cX12_cut 5 = .ok (.iload_n 1, 1) := by decide +kernel
theorem dX12_cut_6 : decode cX12_cut 6 = .ok (.iload_n 2, 1) := by decide +kernel
theorem dX12_cut_7 : decode cX12_cut 7 = .ok (.iload_n 3, 1) := by decide +kernel
theorem dX12_cut_8 : decode cX12_cut 8 = .ok (.invokevirtual 407, 3) := by decide +kernel
theorem dX12_cut_11 : decode cX12_cut 11 = .ok (.ifCond .ne 5, 3) := by decide +kernel
theorem dX12_cut_14 : decode cX12_cut 14 = .ok (.iconst (-1), 1) := by decide +kernel
theorem dX12_cut_15 : decode cX12_cut 15 = .ok (.ireturn, 1) := by decide +kernel
theorem dX12_cut_16 : decode cX12_cut 16 = .ok (.aload_n 0, 1) := by decide +kernel
theorem dX12_cut_17 : decode cX12_cut 17 = .ok (.invokevirtual 413, 3) := by decide +kernel
theorem dX12_cut_20 : decode cX12_cut 20 = .ok (.aload_n 0, 1) := by decide +kernel
theorem dX12_cut_21 : decode cX12_cut 21 = .ok (.iload_n 1, 1) := by decide +kernel
theorem dX12_cut_22 : decode cX12_cut 22 = .ok (.iload_n 2, 1) := by decide +kernel
theorem dX12_cut_23 : decode cX12_cut 23 = .ok (.invokevirtual 410, 3) := by decide +kernel
theorem dX12_cut_26 : decode cX12_cut 26 = .ok (.istore 4, 2) := by decide +kernel
theorem dX12_cut_28 : decode cX12_cut 28 = .ok (.aload_n 0, 1) := by decide +kernel
theorem dX12_cut_29 : decode cX12_cut 29 = .ok (.iload_n 1, 1) := by decide +kernel
theorem dX12_cut_30 : decode cX12_cut 30 = .ok (.iload_n 2, 1) := by decide +kernel
theorem dX12_cut_31 : decode cX12_cut 31 = .ok (.iload_n 3, 1) := by decide +kernel
theorem dX12_cut_32 : decode cX12_cut 32 = .ok (.invokevirtual 416, 3) := by decide +kernel
theorem dX12_cut_35 : decode cX12_cut 35 = .ok (.istore 5, 2) := by decide +kernel
theorem dX12_cut_37 : decode cX12_cut 37 = .ok (.aload_n 0, 1) := by decide +kernel
theorem dX12_cut_38 : decode cX12_cut 38 = .ok (.getfield 94, 3) := by decide +kernel
